/-! THE REFERENCE READS AS IS TOLD: fields, parts, conditions -/
def exO (f : Int) : List (Int × Int) := if f = 102 then [(18, 0), (19, 0)] else if f = 109 then [(12, 0), (13, 0)] else if f = 100 then [(14, 0), (15, 0)] else if f = 119 then [(17, 0)] else [(16, 0)]
def exF : List Int → List (Int × Int)
  | [] => []
  | f :: fs => exO f ++ exF fs
def oqF : Bool → List Int → Prop
  | _, [] => True
  | b, f :: fs => (f = 100 → b = true) ∧ (f = 102 ∨ f = 109 ∨ f = 100 ∨ f = 119 ∨ f = 110) ∧ oqF (decide (f = 109)) fs
theorem nE_le {q : Int × Int} {S : List (Int × Int)} : nE S ≤ nE (q :: S) := Nat.le_add_right _ _
theorem Sz.tl {s r : List Int} {q : Int × Int} {S : List (Int × Int)} {J : List Int} {C : Cx} {D : Bool} (h : Sz s (q :: S) J C D) (hr : r.length ≤ s.length) : Sz r S J C D := by
  obtain ⟨z1, z2, z3⟩ := h
  rw [List.length_cons] at z1
  have := nE_le (q := q) (S := S)
  exact ⟨by omega, by omega, by omega⟩
theorem Sz.s {s r : List Int} {S : List (Int × Int)} {J : List Int} {C : Cx} {D : Bool} (h : Sz s S J C D) (hr : r.length ≤ s.length) : Sz r S J C D := by
  obtain ⟨z1, z2, z3⟩ := h
  exact ⟨by omega, by omega, by omega⟩
section SIM2
variable {m : Mm} {T : List Int} {u : Nat} {G : Option (Int32 × Mm) → Prop} {s : List Int} {S : List (Int × Int)} {J : List Int} {C : Cx} {ar dg mo : Int} {D : Bool} {sm nu dn : Int} {M : Mm}
theorem CT_mono {α : Type} {x : Rd α} {K L : α → List Int → Prop} (h : CT m T G x K) (hl : ∀ a r, x = .inr (a, r) → K a r → L a r) : CT m T G x L := by
  cases x with
  | inl q => exact h
  | inr z => exact hl z.1 z.2 rfl h
theorem sim_two {f v : Int} (hT : MT m T) (hs : Sf T s) (hf : f = 102 ∨ f = 109 ∨ f = 100) (hv : f = 100 → mo = v ∧ 1 ≤ v ∧ v ≤ 12) (hz : Sz s (exO f ++ S) J C D) (hb : Bd dg mo nu dn)
    (h : CT m T G (pTwo f v s) fun x r => Sf T r → r.length + 2 = s.length → ∀ dg mo, Bd dg mo nu dn → (f = 109 → mo = x ∧ 1 ≤ x ∧ x ≤ 12) → GA m T u G r S J C (100 * ar + x) dg mo D sm nu dn) : GD m T u G s (exO f ++ S) J C ar dg mo D sm nu dn := by
  unfold pTwo at h
  rw [CT_B] at h
  have hb' := hb
  obtain ⟨b1, b2, b3, b4⟩ := hb'
  rcases hf with rfl | rfl | rfl
  · rw [show exO 102 = [(18, 0), (19, 0)] from rfl] at hz ⊢
    rw [show pHigh 102 v = 19 from rfl, show pLow 102 = 0 from rfl] at h
    refine gd_dig hT hs (by omega) hz hb (lo := 0) (hi := 19 / 10) (fun c r _ => by unfold okD; omega) (CT_mono h fun t r _ k hr hl ht => ?_)
    rw [CT_B] at k
    refine ga_gd (by decide) (gd_dig hT hr (by omega) (hz.tl (by omega)) ⟨ht, by rw [if_neg (by decide)]; exact b2, b3, b4⟩ (lo := if t = 0 then 0 else 0) (hi := if t = 19 / 10 then 19 % 10 else 9) (fun c r _ => by unfold okD; split <;> omega) (CT_mono k fun y r2 _ k2 hr2 hl2 ht2 => ?_))
    have := k2 hr2 (by omega) y (if (19 : Int) = 13 then 10 * t + y else if (18 : Int) = 13 then 10 * dg + t else mo) ⟨ht2, by rw [if_neg (by decide), if_neg (by decide)]; exact b2, b3, b4⟩ (fun z => absurd z (by decide))
    rw [show 10 * (10 * ar + t) + y = 100 * ar + (y + 10 * t) by omega]
    exact this
  · rw [show exO 109 = [(12, 0), (13, 0)] from rfl] at hz ⊢
    rw [show pHigh 109 v = 12 from rfl, show pLow 109 = 1 from rfl] at h
    refine gd_dig hT hs (by omega) hz hb (lo := 0) (hi := 12 / 10) (fun c r _ => by unfold okD; omega) (CT_mono h fun t r e k hr hl ht => ?_)
    rw [CT_B] at k
    have ht1 : t ≤ 1 := by
      obtain ⟨_, _, _, _, q⟩ := pDig_inv e
      omega
    refine ga_gd (by decide) (gd_dig hT hr (by omega) (hz.tl (by omega)) ⟨ht, by rw [if_neg (by decide)]; exact b2, b3, b4⟩ (lo := if t = 0 then 1 else 0) (hi := if t = 12 / 10 then 12 % 10 else 9) (fun c r _ => by unfold okD; split <;> split <;> omega) (CT_mono k fun y r2 e2 k2 hr2 hl2 ht2 => ?_))
    have hy : 1 ≤ 10 * t + y ∧ 10 * t + y ≤ 12 := by
      obtain ⟨_, _, _, q1, q2⟩ := pDig_inv e2
      revert q1 q2
      split <;> split <;> intro q1 q2 <;> omega
    have := k2 hr2 (by omega) y (if (13 : Int) = 13 then 10 * t + y else if (12 : Int) = 13 then 10 * dg + t else mo) ⟨ht2, by rw [if_pos rfl]; omega, b3, b4⟩ (fun _ => by rw [if_pos rfl]; omega)
    rw [show 10 * (10 * ar + t) + y = 100 * ar + (y + 10 * t) by omega]
    exact this
  · rw [show exO 100 = [(14, 0), (15, 0)] from rfl] at hz ⊢
    obtain ⟨rfl, v1, v2⟩ := hv rfl
    rw [show pHigh 100 mo = sMost mo from rfl, show pLow 100 = 1 from rfl] at h
    have hmm : vMo mo := by unfold vMo; omega
    have hsb := sMost_bd (v := mo) hmm
    have hm0 : (if mo = 0 then 1 else mo) = mo := if_neg (by omega)
    refine gd_dig hT hs (by omega) hz hb (lo := 0) (hi := sMost mo / 10) (fun c r _ => ?_) (CT_mono h fun t r e k hr hl ht => ?_)
    · unfold okD
      rw [hm0]
      omega
    rw [CT_B] at k
    have ht1 : t ≤ sMost mo / 10 := by
      obtain ⟨_, _, _, _, q⟩ := pDig_inv e
      omega
    refine ga_gd (by decide) (gd_dig hT hr (by omega) (hz.tl (by omega)) ⟨ht, by rw [if_neg (by decide)]; exact b2, b3, b4⟩ (lo := if t = 0 then 1 else 0) (hi := if t = sMost mo / 10 then sMost mo % 10 else 9) (fun c r _ => ?_) (CT_mono k fun y r2 e2 k2 hr2 hl2 ht2 => ?_))
    · unfold okD
      rw [if_neg (show ¬ (14 : Int) = 13 by decide), hm0]
      split <;> split <;> omega
    have := k2 hr2 (by omega) y (if (15 : Int) = 13 then 10 * t + y else if (14 : Int) = 13 then 10 * dg + t else mo) ⟨ht2, by rw [if_neg (by decide), if_neg (by decide)]; exact b2, b3, b4⟩ (fun z => absurd z (by decide))
    rw [show 10 * (10 * ar + t) + y = 100 * ar + (y + 10 * t) by omega]
    exact this
theorem sim_flds (hT : MT m T) : ∀ (fs : List Int) (b : Bool) (a v : Int) (s : List Int) (dg mo : Int), oqF b fs → (b = true → mo = v ∧ 1 ≤ v ∧ v ≤ 12) → Sf T s → Sz s (exF fs ++ S) J C D → Bd dg mo nu dn →
    (CT m T G (pFlds fs a v s) fun x r => Sf T r → r.length ≤ s.length → ∀ dg mo, Bd dg mo nu dn → GA m T u G r S J C x dg mo D sm nu dn) → GA m T u G s (exF fs ++ S) J C a dg mo D sm nu dn := by
  intro fs
  induction fs with
  | nil => intro b a v s dg mo _ _ hs _ hb h; exact h hs (Nat.le_refl _) dg mo hb
  | cons f fs ih =>
    intro b a v s dg mo hf hv hs hz hb h
    obtain ⟨f1, f2, f3⟩ := hf
    have hb' := hb
    obtain ⟨b1, b2, b3, b4⟩ := hb'
    unfold pFlds at h
    have eE : exF (f :: fs) ++ S = exO f ++ (exF fs ++ S) := List.append_assoc _ _ _
    rw [eE] at hz ⊢
    by_cases h110 : f = 110
    · subst h110
      rw [if_pos rfl, CT_B] at h
      rw [show exO 110 = [(16, 0)] from rfl] at hz ⊢
      refine ga_gd (by decide) (gd_dig hT hs (by omega) hz hb (lo := 1) (hi := 5) (fun c r _ => by unfold okD; omega) (CT_mono h fun x r e k hr hl hx => ?_))
      rw [if_neg (by decide)]
      exact ih false _ x r _ _ f3 (fun z => nomatch z) hr (hz.tl (by omega)) ⟨hx, b2, b3, b4⟩ (CT_mono k fun y r2 _ k2 hr2 hl2 => k2 hr2 (by omega))
    rw [if_neg h110] at h
    by_cases h119 : f = 119
    · subst h119
      rw [if_pos rfl, CT_B] at h
      rw [show exO 119 = [(17, 0)] from rfl] at hz ⊢
      refine ga_gd (by decide) (gd_dig hT hs (by omega) hz hb (lo := 0) (hi := 6) (fun c r _ => by unfold okD; omega) (CT_mono h fun x r e k hr hl hx => ?_))
      rw [if_neg (by decide)]
      exact ih false _ x r _ _ f3 (fun z => nomatch z) hr (hz.tl (by omega)) ⟨hx, b2, b3, b4⟩ (CT_mono k fun y r2 _ k2 hr2 hl2 => k2 hr2 (by omega))
    rw [if_neg h119, CT_B] at h
    have hff : f = 102 ∨ f = 109 ∨ f = 100 := by omega
    have hq : ∃ w S', exO f ++ (exF fs ++ S) = (w, 0) :: S' ∧ w ≠ 10 := by
      rcases hff with rfl | rfl | rfl
      · exact ⟨18, _, rfl, by decide⟩
      · exact ⟨12, _, rfl, by decide⟩
      · exact ⟨14, _, rfl, by decide⟩
    have g : GD m T u G s (exO f ++ (exF fs ++ S)) J C a dg mo D sm nu dn := by
      refine sim_two hT hs hff (fun z => hv (f1 z)) hz hb (CT_mono h fun x r e k hr hl dg' mo' hb2 hx => ?_)
      have hz2 : Sz r (exF fs ++ S) J C D := by
        rcases hff with rfl | rfl | rfl
        · exact (hz.tl (q := (18, 0)) (Nat.le_refl _)).tl (q := (19, 0)) (by omega)
        · exact (hz.tl (q := (12, 0)) (Nat.le_refl _)).tl (q := (13, 0)) (by omega)
        · exact (hz.tl (q := (14, 0)) (Nat.le_refl _)).tl (q := (15, 0)) (by omega)
      refine ih (decide (f = 109)) _ x r dg' mo' f3 (fun z => hx (of_decide_eq_true z)) hr hz2 hb2 (CT_mono k fun y r2 _ k2 hr2 hl2 => k2 hr2 (by omega))
    obtain ⟨w, S', e, hw⟩ := hq
    rw [e] at g ⊢
    exact ga_gd hw g
variable (m T u G) in
def QA (s : List Int) (S : List (Int × Int)) (J : List Int) (C : Cx) : Prop := ∀ dg mo nu dn, Bd dg mo nu dn → GA m T u G s S J C 0 dg mo false 0 nu dn
theorem sim_part (hT : MT m T) {fs : List Int} {kd : Int} (hf : oqF false fs) (hs : Sf T s) (hz : Sz s (exF fs ++ (10, kd) :: S) J C false) (h : CT m T G (pPart kd fs s) fun a r => Sf T r → QA m T u G r S J (C ++ a)) : QA m T u G s (exF fs ++ (10, kd) :: S) J C := by
  intro dg mo nu dn hb
  unfold pPart at h
  rw [CT_B] at h
  exact sim_flds hT fs false 0 0 s dg mo hf (fun z => nomatch z) hs hz hb (CT_mono h fun x r _ k hr _ dg' mo' hb' => ga_10 (k hr dg' mo' nu dn hb'))
theorem sim_log (hT : MT m T) : ∀ (v n : Nat) (s : List Int) (S : List (Int × Int)) (J : List Int) (C : Cx), s.length < v → n = C.length → Sf T s → Sz s ((3, 0) :: S) J C false →
    (CT m T G (pLog true v n s) fun a r => Sf T r → QA m T u G r S J (C ++ a)) → QA m T u G s ((3, 0) :: S) J C := by
  intro v
  induction v with
  | zero => intro n s S J C h; exact absurd h (Nat.not_lt_zero _)
  | succ v ih =>
    intro n s S J C hv hn hs hz h dg mo nu dn hb
    obtain ⟨z1, z2, z3⟩ := hz
    have z3' : C.length + nE S + 0 + s.length ≤ 70 := z3
    rw [List.length_cons] at z1
    refine ga_gd (by decide) (gd_id hT hs (by omega) hb.2.2.2 (by simp only; omega) (by simp only; omega) (by simp only; omega) ?_)
    cases s with
    | nil => exact gk_end hT (Or.inr (by decide)) (by omega) h
    | cons c r =>
      rw [List.length_cons] at hv z1 z2 z3'
      have hc := mt_c hT hs
      have hr := hs.tl.1
      intro M hM
      have q := kt_cond (c := c) hM (by omega) (by omega) (by omega)
      unfold pLog at h
      by_cases c33 : c = 33
      · subst c33
        rw [if_neg (by decide), if_pos (by decide)] at q
        rw [if_pos rfl, CT_B] at h
        have hn1 : nE ((3, 0) :: (10, 17) :: S) = nE S + 1 := rfl
        refine gk_ok q (by show S.length + 2 < 490; omega) (by show C.length + nE ((3, 0) :: (10, 17) :: S) ≤ 79; omega) ?_
        refine ih n r ((10, 17) :: S) J C (by omega) hn hr ⟨by simp; omega, by omega, by rw [hn1]; show C.length + (nE S + 1) + 0 + r.length ≤ 70; omega⟩ (CT_mono h fun a r1 e k hr1 => ?_) dg mo nu dn hb
        intro dg' mo' nu' dn' hb'
        refine ga_10 ?_
        rw [List.append_assoc]
        exact k hr1 dg' mo' nu' dn' hb'
      rw [if_neg c33] at h
      by_cases c40 : c = 40
      · subst c40
        rw [if_neg (by decide), if_pos (by decide)] at q
        rw [if_pos rfl, CT_B] at h
        refine gk_ok q (by show S.length + 4 < 490; omega) (by show C.length + nE S ≤ 79; omega) ?_
        refine ih n r ((8, 0) :: (3, 0) :: (9, 0) :: S) J C (by omega) hn hr ⟨by simp; omega, by omega, by show C.length + nE S + 0 + r.length ≤ 70; omega⟩ (CT_mono h fun a r1 e k hr1 => ?_) dg mo nu dn hb
        have hl1 := log_lt e
        intro dg' mo' nu' dn' hb'
        refine ga_gd (by decide) (gd_id hT hr1 (by simp; omega) hb'.2.2.2 (by simp only; omega) (by simp only; omega) (by simp only; omega) ?_)
        cases r1 with
        | nil => exact gk_end hT (Or.inr (by decide)) (by simp; omega) k
        | cons o r2 =>
          rw [List.length_cons] at hl1
          have ho := mt_c hT hr1
          have hr2 := hr1.tl.1
          intro M' hM'
          have hCa : (C ++ a).length = C.length + a.length := List.length_append
          have q := kt_m8 (c := o) hM' (by simp; omega) (by omega) (by omega) (by omega)
          simp only at k
          by_cases co : o = 38 ∨ o = 124
          · rw [if_pos co] at q k
            rw [CT_B] at k
            have hCb : (C ++ a ++ [((if o = 38 then 19 else 20 : Int), (0 : Int))]).length = C.length + a.length + 1 := by simp; omega
            refine gk_ok q (by simp; omega) (by rw [hCb]; show C.length + a.length + 1 + nE S ≤ 79; omega) ?_
            refine ih (n + a.length + 1) r2 ((9, 0) :: S) (((C ++ a).length : Int) :: J) (C ++ a ++ [((if o = 38 then 19 else 20 : Int), (0 : Int))]) (by omega) (by omega) hr2 ⟨by simp; omega, by simp; omega, by rw [hCb]; show C.length + a.length + 1 + nE S + 0 + r2.length ≤ 70; omega⟩ (CT_mono k fun b r3 e3 k3 hr3 => ?_) dg' mo' nu' dn' hb'
            rw [CT_B] at k3
            have hl3 := log_lt e3
            intro dg2 mo2 nu2 dn2 hb2
            refine ga_gd (by decide) (gd_id hT hr3 (by omega) hb2.2.2.2 (by simp only; omega) (by simp only; omega) (by simp only; omega) ?_)
            cases r3 with
            | nil => exact gk_end hT (Or.inr (by decide)) (by omega) k3
            | cons x r4 =>
              rw [List.length_cons] at hl3
              have hx := mt_c hT hr3
              intro M2 hM2
              have q := kt_m9 (c := x) hM2 (by omega) (by omega) (by omega) (by omega)
              rw [pChr_cons] at k3
              by_cases cx : x = 41
              · rw [if_pos cx] at q k3
                have hf := k3 hr3.tl.1 dg2 mo2 nu2 dn2 hb2
                refine gk_ok q (by omega) (by simp; omega) ?_
                rw [hn] at hf
                rw [hCa]
                simp only [List.append_assoc] at hf ⊢
                exact hf
              · rw [if_neg cx] at q k3
                exact gk_no q k3
          · rw [if_neg co] at q k
            exact gk_no q k
      rw [if_neg c40] at h
      by_cases c89 : c = 89
      · subst c89
        rw [if_pos rfl] at q
        rw [if_neg (by decide)] at h
        exact gk_ok q (by omega) (by simp; omega) (h hr dg mo nu dn hb)
      rw [if_neg c89] at q
      by_cases c87 : c = 87
      · subst c87
        rw [if_pos (by decide)] at q
        rw [if_neg (by decide)] at h
        refine gk_ok q (by show S.length + 2 < 490; omega) (by show C.length + (nE S + 1) ≤ 79; omega) ?_
        exact sim_part hT (fs := [119]) (kd := 13) ⟨fun z => absurd z (by decide), by omega, trivial⟩ hr ⟨by show S.length + 2 + _ ≤ _; omega, by omega, by show C.length + (nE S + 1) + 0 + _ ≤ 70; omega⟩ h dg mo nu dn hb
      by_cases c65 : c = 65
      · subst c65
        rw [if_pos (by decide)] at q
        rw [if_neg (by decide)] at h
        refine gk_ok q (by show S.length + 3 < 490; omega) (by show C.length + (nE S + 1) ≤ 79; omega) ?_
        exact sim_part hT (fs := [102]) (kd := 15) ⟨fun z => absurd z (by decide), by omega, trivial⟩ hr ⟨by show S.length + 3 + _ ≤ _; omega, by omega, by show C.length + (nE S + 1) + 0 + _ ≤ 70; omega⟩ h dg mo nu dn hb
      by_cases c69 : c = 69
      · subst c69
        rw [if_pos (by decide)] at q
        rw [if_neg (by decide)] at h
        refine gk_ok q (by show S.length + 5 < 490; omega) (by show C.length + (nE S + 1) ≤ 79; omega) ?_
        exact sim_part hT (fs := [109, 100]) (kd := 16) ⟨fun z => absurd z (by decide), by omega, fun _ => rfl, by omega, trivial⟩ hr ⟨by show S.length + 5 + _ ≤ _; omega, by omega, by show C.length + (nE S + 1) + 0 + _ ≤ 70; omega⟩ h dg mo nu dn hb
      rw [if_neg (by omega)] at q
      have e0 : lgK true c = 0 := by
        unfold lgK
        rw [if_pos rfl, if_neg c87, if_neg c89, if_neg c65, if_neg c69]
      rw [if_pos e0] at h
      exact gk_no q h
end SIM2
