/-! THE REFERENCE READS AS IS TOLD: days and steps -/
theorem cEnd_f {x : Int} : cEnd false x = [] := if_neg (fun z => nomatch z.1)
theorem cEnd_t {x : Int} : cEnd true x = cDays x := by
  unfold cEnd cDays
  by_cases h : x = 0
  · rw [if_pos h, if_neg (fun z => z.2 h)]
  · rw [if_neg h, if_pos ⟨rfl, h⟩]
theorem pMore_bd : ∀ (k : Nat) (n : Int) (s : List Int), 0 ≤ n ∧ n ≤ 366 → 0 ≤ (pMore k n s).1 ∧ (pMore k n s).1 ≤ 366 := by
  intro k
  induction k with
  | zero => intro n s h; exact h
  | succ k ih =>
    intro n s h
    cases s with
    | nil => exact h
    | cons c r =>
      unfold pMore
      split
      · exact ih _ r (by omega)
      · exact h
theorem pStp_dig {v n : Nat} {c : Int} {r : List Int} (hc : 48 ≤ c ∧ c ≤ 57) : pStp v n (c :: r) = .inr ([], c :: r) := by
  cases v with
  | zero => rfl
  | succ v =>
    rw [pStp_cons, if_neg (by omega), if_neg (by omega), if_pos]
    unfold mvK
    rw [if_neg (by omega), if_neg (by omega), if_neg (by omega), if_neg (by omega), if_neg (by omega), if_neg (by omega), if_neg (by omega)]
theorem mvK_dig {c : Int} (hc : 48 ≤ c ∧ c ≤ 57) : mvK c = 0 := by
  unfold mvK
  rw [if_neg (by omega), if_neg (by omega), if_neg (by omega), if_neg (by omega), if_neg (by omega), if_neg (by omega), if_neg (by omega)]
section SIM3
variable {m : Mm} {T : List Int} {u : Nat} {G : Option (Int32 × Mm) → Prop} {s : List Int} {S : List (Int × Int)} {J : List Int} {C : Cx} {ar dg mo : Int} {D : Bool} {sm nu dn t : Int} {M : Mm}
variable (m T u G) in
def QD (D : Bool) (sm : Int) (s : List Int) (S : List (Int × Int)) (J : List Int) (C : Cx) : Prop := ∀ dg mo nu dn, Bd dg mo nu dn → GD m T u G s S J C 0 dg mo D sm nu dn
theorem gd_pop11 (hT : MT m T) (hs : Sf T s) {sg : Int} (ht : t = 1 ∨ t = 2) (hS : S.length < 480) (hd : 0 < dn ∧ dn ≤ 3) (hc : ¬ (48 ≤ s.headD 0 ∧ s.headD 0 ≤ 57)) (h : GD m T u G s ((t, 0) :: S) J C ar dg mo D (sm + sg * nu) nu dn) : GD m T u G s ((11, sg) :: (t, 0) :: S) J C ar dg mo D sm nu dn := by
  intro M hM
  have hh := mt_h hT hs
  have e : zFu = 999 + 1 := rfl
  rw [MR_eq hT hs hM, e, LV_one hM (by simp; omega) hh (by omega), if_pos ⟨rfl, hd.1, hc⟩]
  have h2 : RQ m ((t, 0) :: S) J C ar dg mo D (sm + sg * nu) nu dn (wI (wI M 201 16 (i3 sm + i3 ((11, sg) : Int × Int).2 * i3 nu)) 201 6 (i3 (((t, 0) :: S).length : Nat))) := by
    obtain ⟨F3, F4, F5, F6, F7, rfl, h1, h2, h3⟩ := hM
    exact ⟨F3, F4, F5, F6, F7, by rw [qM_w16, qM_w6, i3_mul, i3_add], h1.2, h2, h3⟩
  have e2 : LV 999 (s.headD 0) (wI (wI M 201 16 (i3 sm + i3 ((11, sg) : Int × Int).2 * i3 nu)) 201 6 (i3 (((t, 0) :: S).length : Nat))) = LV zFu (s.headD 0) (wI (wI M 201 16 (i3 sm + i3 ((11, sg) : Int × Int).2 * i3 nu)) 201 6 (i3 (((t, 0) :: S).length : Nat))) := LV_fuel ht h2 (by omega) hh (by omega) 997 998
  rw [e2, ← MR_eq hT hs h2]
  exact h _ h2
theorem gd_pop6 (hT : MT m T) (hs : Sf T s) {A B : Cx} {x k y : Int} (ht : t = 1 ∨ t = 2) (hS : S.length < 480) (hJ : J.length < 95) (hA : A.length < 80) (hd : 0 ≤ dn ∧ dn ≤ 3) (hc : s.headD 0 ≠ 123) (h : GD m T u G s ((t, 0) :: S) J (A ++ [(k, ((A.length + 1 + B.length : Nat) : Int))] ++ B) ar dg mo D sm nu dn) : GD m T u G s ((6, x) :: (t, 0) :: S) ((A.length : Int) :: J) (A ++ [(k, y)] ++ B) ar dg mo D sm nu dn := by
  intro M hM
  have hh := mt_h hT hs
  have e : zFu = 999 + 1 := rfl
  obtain ⟨M1, e1, h1⟩ := mp_lands hM (by omega) hA
  obtain ⟨p1, p2⟩ := mp_pop h1
  rw [MR_eq hT hs hM, e, LV_one hM (by simp; omega) hh hd, if_neg (by simp only; omega), if_pos ⟨rfl, hc⟩, e1, zBV_some, p1]
  have e2 : LV 999 (s.headD 0) (wI M1 201 6 (i3 (((t, 0) :: S).length : Nat))) = LV zFu (s.headD 0) (wI M1 201 6 (i3 (((t, 0) :: S).length : Nat))) := LV_fuel ht p2 (by omega) hh hd 997 998
  rw [e2, ← MR_eq hT hs p2]
  exact h _ p2
theorem gd_125 (hT : MT m T) {r : List Int} (hs : Sf T (125 :: r)) {x : Int} (hS : S.length < 480) (hd : 0 ≤ dn ∧ dn ≤ 3) (hC : C.length < 80) (hsm : -1000000 ≤ sm ∧ sm ≤ 1000000) (h : GK m T u G (125 :: r) S J (C ++ cEnd D sm) ar dg mo false 0 nu dn) : GD m T u G (125 :: r) ((2, x) :: S) J C ar dg mo D sm nu dn := by
  intro M hM
  have e : zFu = 998 + 2 := rfl
  obtain ⟨M1, e1, h1⟩ := mp_ends hM hC hsm
  obtain ⟨p1, p2⟩ := mp_pop h1
  rw [MR_eq hT hs hM, e, List.headD_cons, LV_end hM (by omega) rfl hd rfl, e1, zBV_some, zBV_some, p1]
  exact h _ p2
theorem gk_fin (hT : MT m T) {x : Int} (hC : C.length < 80) (hsm : -1000000 ≤ sm ∧ sm ≤ 1000000) (h : ∀ M, RQ m [(1, x)] J (C ++ cEnd D sm) ar dg mo false 0 nu dn M → G (some (i3 (-1), M))) : GK m T u G [] [(1, x)] J C ar dg mo D sm nu dn := by
  intro M hM
  obtain ⟨t1, t2, t3, t4, t5⟩ := mp_top hM (by decide)
  obtain ⟨M1, e1, h1⟩ := mp_ends hM hC hsm
  have e6 : zI M 203 (zIx 0) = i3 1 := by
    rw [← show i3 ((1, x) : Int × Int).1 = i3 1 from rfl, ← t3, t1]
    congr 1
  have : kZ M = some (i3 (-1), M1) := by
    unfold kZ
    simp only [zLet]
    rw [t1, if_pos (show i3 (((([] : List (Int × Int)).length + 1 : Nat) : Int)) = 1 from rfl), if_pos (show zIn 0 500 by decide), e6, if_pos (show i3 1 = 1 from rfl), e1, zBV_some]
    rfl
  show G (kZ M)
  rw [this]
  exact h M1 h1
theorem sim_more (hT : MT m T) {sg σ : Int} (ht : t = 1 ∨ t = 2) : ∀ (j : Nat) (n : Int) (s : List Int) (dg mo dn : Int), dn = 3 - j → j ≤ 2 → (0 ≤ n ∧ n ≤ 366) → Bd dg mo 0 0 → Sf T s → Sz s ((t, 0) :: S) J C true →
    (Sf T (pMore j n s).2 → (48 ≤ (pMore j n s).2.headD 0 ∧ (pMore j n s).2.headD 0 ≤ 57 → Fl m T G (pMore j n s).2) ∧ (¬ (48 ≤ (pMore j n s).2.headD 0 ∧ (pMore j n s).2.headD 0 ≤ 57) → QD m T u G true (σ + sg * (pMore j n s).1) (pMore j n s).2 ((t, 0) :: S) J C)) →
    GD m T u G s ((11, sg) :: (t, 0) :: S) J C 0 dg mo true σ n dn := by
  intro j
  have stop : ∀ (n : Int) (s : List Int) (dg mo dn : Int), 0 < dn ∧ dn ≤ 3 → (0 ≤ n ∧ n ≤ 366) → Bd dg mo 0 0 → Sf T s → Sz s ((t, 0) :: S) J C true → (48 ≤ s.headD 0 ∧ s.headD 0 ≤ 57 → dn = 3 ∨ 366 < 10 * n + (s.headD 0 - 48)) →
      ((48 ≤ s.headD 0 ∧ s.headD 0 ≤ 57 → Fl m T G s) ∧ (¬ (48 ≤ s.headD 0 ∧ s.headD 0 ≤ 57) → QD m T u G true (σ + sg * n) s ((t, 0) :: S) J C)) → GD m T u G s ((11, sg) :: (t, 0) :: S) J C 0 dg mo true σ n dn := by
    intro n s dg mo dn hdn hn hb hs hz hstop h
    obtain ⟨z1, z2, z3⟩ := hz
    rw [List.length_cons] at z1
    have hbn : Bd dg mo n dn := ⟨hb.1, hb.2.1, hn, by omega⟩
    by_cases hd : 48 ≤ s.headD 0 ∧ s.headD 0 ≤ 57
    · refine gd_id hT hs (by simp; omega) (by omega) (fun z => z.2.2 hd) (by simp only; omega) (by simp only; omega) ?_
      cases s with
      | nil => exact absurd hd (by decide)
      | cons c r =>
        have hc := mt_c hT hs
        intro M hM
        have q := kt_num (c := c) hM (by simp; omega) (by omega) hn (by omega)
        have h3 := hstop hd
        simp only [List.headD_cons] at h3
        rw [if_neg (by omega)] at q
        exact gk_no q (h.1 hd)
    · exact gd_pop11 hT hs ht (by omega) hdn hd (h.2 hd dg mo n dn ⟨hb.1, hb.2.1, hn, by omega⟩)
  induction j with
  | zero =>
    intro n s dg mo dn hdn hj hn hb hs hz h
    exact stop n s dg mo dn (by omega) hn hb hs hz (fun _ => Or.inl (by omega)) (h hs)
  | succ j ih =>
    intro n s dg mo dn hdn hj hn hb hs hz h
    cases s with
    | nil => exact stop n [] dg mo dn (by omega) hn hb hs hz (fun z => absurd z (by decide)) (h hs)
    | cons c r =>
      have hc := mt_c hT hs
      unfold pMore at h
      by_cases e : 0 ≤ c - 48 ∧ c - 48 ≤ 9 ∧ 10 * n + (c - 48) ≤ 366
      · rw [if_pos e] at h
        have hz' := hz
        obtain ⟨z1, z2, z3⟩ := hz'
        rw [List.length_cons, List.length_cons] at z1
        refine gd_id hT hs (by simp; omega) (by omega) (fun z => z.2.2 (show 48 ≤ c ∧ c ≤ 57 by omega)) (by simp only; omega) (by simp only; omega) ?_
        intro M hM
        have q := kt_num (c := c) hM (by simp; omega) (by omega) hn (by omega)
        rw [if_pos (by omega)] at q
        refine gk_ok q (by simp; omega) ?_ (ga_gd (show (11 : Int) ≠ 10 by decide) (ih _ r dg mo (dn + 1) (by omega) (by omega) (by omega) hb hs.tl.1 (hz.s (by simp)) h))
        have e1 : nE ((11, sg) :: (t, 0) :: S) = nE ((t, 0) :: S) := rfl
        rw [e1]
        omega
      · rw [if_neg e] at h
        refine stop n (c :: r) dg mo dn (by omega) hn hb hs hz (fun z => ?_) (h hs)
        simp only [List.headD_cons] at z ⊢
        omega
theorem sim_days (hT : MT m T) (ht : t = 1 ∨ t = 2) : ∀ (v : Nat) (σ : Int) (s : List Int) (D : Bool), s.length < v → Sf T s → Sz s ((t, 0) :: S) J C D → (-20000 ≤ σ - 366 * s.length ∧ σ + 366 * s.length ≤ 20000) → (D = true ∨ s.headD 0 = 43 ∨ s.headD 0 = 45) →
    (CT m T G (pDays v σ s) fun σ' r => Sf T r → r.length ≤ s.length → (-20000 ≤ σ' - 366 * r.length ∧ σ' + 366 * r.length ≤ 20000) → ¬ (r.headD 0 = 43 ∨ r.headD 0 = 45) → (48 ≤ r.headD 0 ∧ r.headD 0 ≤ 57 → Fl m T G r) ∧ (¬ (48 ≤ r.headD 0 ∧ r.headD 0 ≤ 57) → QD m T u G true σ' r ((t, 0) :: S) J C)) →
    QD m T u G D σ s ((t, 0) :: S) J C := by
  intro v
  induction v with
  | zero => intro σ s D h; exact absurd h (Nat.not_lt_zero _)
  | succ v ih =>
    intro σ s D hv hs hz hσ hD h dg mo nu dn hb
    have hz' := hz
    obtain ⟨z1, z2, z3⟩ := hz'
    have z3' : C.length + nE ((t, 0) :: S) + dN D + s.length ≤ 70 := z3
    rw [List.length_cons] at z1
    have hb' := hb
    obtain ⟨b1, b2, b3, b4⟩ := hb'
    cases s with
    | nil =>
      have hD1 : D = true := by
        rcases hD with h | h | h
        · exact h
        · exact absurd h (by decide)
        · exact absurd h (by decide)
      subst hD1
      exact (h hs (Nat.le_refl _) hσ (by decide)).2 (by decide) dg mo nu dn hb
    | cons c r =>
      rw [List.length_cons] at hv z1 z2 z3'
      have hc := mt_c hT hs
      have hr := hs.tl.1
      unfold pDays at h
      by_cases c1 : c = 43 ∨ c = 45
      · rw [if_pos c1, CT_B] at h
        refine gd_id hT hs (by omega) b4 (by simp only; omega) (by simp only; omega) (by simp only [List.headD_cons]; omega) ?_
        intro M hM
        have q := kt_step (c := c) ht hM (by omega) (by omega) (by omega) (by omega)
        rw [if_pos c1] at q
        have en : ∀ g : Int, nE ((11, g) :: (t, 0) :: S) = nE ((t, 0) :: S) := fun g => rfl
        refine gk_ok q (by simp; omega) (by rw [en]; omega) (ga_gd (show (11 : Int) ≠ 10 by decide) ?_)
        refine gd_id hT hr (by simp; omega) (by decide) (by simp only; omega) (by simp only; omega) (by simp only; omega) ?_
        have hb0 : Bd dg mo 0 0 := ⟨b1, b2, by omega, by omega⟩
        cases r with
        | nil => exact gk_end hT (Or.inl (by simp)) (by simp; omega) h
        | cons d r1 =>
          rw [List.length_cons] at hv z1 z2 z3'
          have hd := mt_c hT hr
          have hr1 := hr.tl.1
          intro M1 hM1
          have q := kt_num (c := d) hM1 (by simp; omega) (by omega) (by omega) (by omega)
          rw [pDig_cons] at h
          by_cases cd : 0 ≤ d - 48 ∧ d - 48 ≤ 9
          · rw [if_pos cd] at h
            change CT m T G (pDays v (if c = 43 then σ + (pMore 2 (d - 48) r1).1 else σ - (pMore 2 (d - 48) r1).1) (pMore 2 (d - 48) r1).2) _ at h
            rw [if_pos (by omega)] at q
            refine gk_ok q (by simp; omega) (by rw [en]; omega) (ga_gd (show (11 : Int) ≠ 10 by decide) ?_)
            rw [show 10 * 0 + (d - 48) = d - 48 by omega, show (0 : Int) + 1 = 1 from rfl]
            have hz1 : Sz r1 ((t, 0) :: S) J C true := ⟨by simp; omega, by omega, by show C.length + nE ((t, 0) :: S) + 1 + r1.length ≤ 70; omega⟩
            refine sim_more hT ht 2 (d - 48) r1 dg mo 1 (by decide) (by decide) (by omega) ⟨b1, b2, by omega, by omega⟩ hr1 hz1 (fun hp => ?_)
            have hpl := pMore_len 2 (d - 48) r1
            have hpb := pMore_bd 2 (d - 48) r1 (by omega)
            generalize pMore 2 (d - 48) r1 = p at h hp hpl hpb ⊢
            obtain ⟨n, r2⟩ := p
            simp only at h hp hpl hpb ⊢
            have eσ : (if c = 43 then σ + n else σ - n) = σ + (if c = 43 then 1 else -1) * n := by
              by_cases e : c = 43
              · rw [if_pos e, if_pos e]; omega
              · rw [if_neg e, if_neg e]; omega
            have hσ2 : -20000 ≤ (if c = 43 then σ + n else σ - n) - 366 * r2.length ∧ (if c = 43 then σ + n else σ - n) + 366 * r2.length ≤ 20000 := by
              simp only [List.length_cons] at hσ
              by_cases e : c = 43
              · rw [if_pos e]; omega
              · rw [if_neg e]; omega
            rw [← eσ]
            generalize (if c = 43 then σ + n else σ - n) = σ2 at h hσ2 ⊢
            refine ⟨fun hdig => ?_, fun hnd => ?_⟩
            · cases r2 with
              | nil => exact absurd hdig (by decide)
              | cons e r3 =>
                have he : 48 ≤ e ∧ e ≤ 57 := hdig
                obtain ⟨v', rfl⟩ : ∃ v', v = v' + 1 := ⟨v - 1, by omega⟩
                unfold pDays at h
                rw [if_neg (by omega)] at h
                exact (h hp (by simp at hpl ⊢; omega) hσ2 (by simp only [List.headD_cons]; omega)).1 hdig
            · refine ih σ2 r2 true (by omega) hp (hz1.s hpl) hσ2 (Or.inl rfl) (CT_mono h fun σ' r' _ k k1 k2 k3 k4 => k k1 (by simp; omega) k3 k4)
          · rw [if_neg cd] at h
            rw [if_neg (by omega)] at q
            exact gk_no q h
      · rw [if_neg c1] at h
        have hD1 : D = true := by
          rcases hD with h | h | h
          · exact h
          · exact absurd (Or.inl h) c1
          · exact absurd (Or.inr h) c1
        subst hD1
        obtain ⟨k1, k2⟩ := h hs (Nat.le_refl _) hσ c1
        by_cases hd : 48 ≤ c ∧ c ≤ 57
        · refine gd_id hT hs (by omega) b4 (by simp only; omega) (by simp only; omega) (by simp only [List.headD_cons]; omega) ?_
          intro M hM
          have q := kt_step (c := c) ht hM (by omega) (by omega) (by simp only [List.length_cons] at hσ; omega) (by omega)
          rw [if_neg c1, if_neg (by omega), if_pos (mvK_dig hd)] at q
          exact gk_no q (k1 hd)
        · exact k2 hd dg mo nu dn hb
end SIM3
