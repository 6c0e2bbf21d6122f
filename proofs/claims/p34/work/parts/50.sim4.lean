/-! THE REFERENCE READS AS IS TOLD: steps, branches -/
section SIM4
variable {m : Mm} {T : List Int} {u : Nat} {G : Option (Int32 × Mm) → Prop} {s : List Int} {S : List (Int × Int)} {J : List Int} {C : Cx} {ar dg mo : Int} {D : Bool} {sm nu dn t : Int} {M : Mm}
variable (m T u G) in
/-- what must hold where steps end -/
def EN (t : Int) (r : List Int) (S : List (Int × Int)) (J : List Int) (C : Cx) : Prop :=
  if t = 2 then (if r.headD 0 = 125 then ∀ dg mo nu dn, Bd dg mo nu dn → GK m T u G r S J C 0 dg mo false 0 nu dn else Fl m T G r)
  else if r = [] then ∀ dg mo nu dn M, Bd dg mo nu dn → RQ m [(1, 0)] J C 0 dg mo false 0 nu dn M → G (some (i3 (-1), M)) else Fl m T G r
theorem EN_fl {c : Int} {r : List Int} (hc : c ≠ 125 ∨ t ≠ 2) (h : EN m T u G t (c :: r) S J C) : Fl m T G (c :: r) := by
  unfold EN at h
  by_cases h2 : t = 2
  · rw [if_pos h2, if_neg (show ¬ (c :: r).headD 0 = 125 by simp only [List.headD_cons]; omega)] at h
    exact h
  · rw [if_neg h2, if_neg (List.cons_ne_nil _ _)] at h
    exact h
theorem chr_hd {x : Int} {s : List Int} (h : s.headD 0 = x) (hx : x ≠ 0) : ∃ r, s = x :: r ∧ pChr x s = .inr ((), r) := by
  obtain ⟨r, rfl⟩ := hd_cons h hx
  exact ⟨r, rfl, by rw [pChr_cons, if_pos rfl]⟩
theorem qa_qd (ht : t = 1 ∨ t = 2) (h : QD m T u G false 0 s ((t, 0) :: S) J C) : QA m T u G s ((t, 0) :: S) J C := fun dg mo nu dn hb => ga_gd (show t ≠ 10 by omega) (h dg mo nu dn hb)
theorem sim_steps (hT : MT m T) : ∀ (v n : Nat) (s : List Int) (t : Int) (S : List (Int × Int)) (J : List Int) (C : Cx) (D : Bool) (sm : Int), s.length < v → n = (C ++ cEnd D sm).length → (t = 1 ∧ S = [] ∨ t = 2) → Sf T s → Sz s ((t, 0) :: S) J C D → (-20000 ≤ sm - 366 * s.length ∧ sm + 366 * s.length ≤ 20000) → (D = false ∧ sm = 0 ∨ ¬ (s.headD 0 = 43 ∨ s.headD 0 = 45)) →
    (CT m T G (pStp v n s) fun b r => Sf T r → EN m T u G t r S J (C ++ cEnd D sm ++ b)) → QD m T u G D sm s ((t, 0) :: S) J C := by
  intro v
  induction v with
  | zero => intro n s t S J C D sm h; exact absurd h (Nat.not_lt_zero _)
  | succ v ih =>
    intro n s t S J C D sm hv hn ht hs hz hsm hD h
    have ht' : t = 1 ∨ t = 2 := by omega
    have hz' := hz
    obtain ⟨z1, z2, z3⟩ := hz'
    have z3' : C.length + nE S + dN D + s.length ≤ 70 := by
      have : nE S ≤ nE ((t, 0) :: S) := nE_le
      omega
    have hce : (cEnd D sm).length ≤ dN D := by
      cases D
      · rw [cEnd_f]; exact Nat.le_refl _
      · rw [cEnd_t]; exact cDays_len sm
    have hCe : (C ++ cEnd D sm).length = C.length + (cEnd D sm).length := List.length_append
    rw [List.length_cons] at z1
    have nEt : ∀ S', nE ((t, 0) :: S') = nE S' := by
      intro S'
      show nE S' + (if t = 10 then 1 else 0) = nE S'
      rw [if_neg (by omega), Nat.add_zero]
    cases s with
    | nil =>
      intro dg mo nu dn hb
      have hb' := hb
      obtain ⟨b1, b2, b3, b4⟩ := hb'
      have hen := h hs
      rw [List.append_nil] at hen
      unfold EN at hen
      refine gd_id hT hs (by omega) b4 (by simp only; omega) (by simp only; omega) (by simp only [List.headD_nil]; omega) ?_
      by_cases h2 : t = 2
      · rw [if_pos h2, if_neg (by decide)] at hen
        exact gk_end hT (Or.inr (show t ≠ 1 by omega)) (by omega) hen
      · rw [if_neg h2, if_pos rfl] at hen
        have hS : t = 1 ∧ S = [] := by
          rcases ht with h | h
          · exact h
          · exact absurd h h2
        obtain ⟨rfl, rfl⟩ := hS
        exact gk_fin hT (by omega) (by simp only [List.length_nil] at hsm; omega) (fun M => hen dg mo nu dn M hb)
    | cons c r =>
      rw [List.length_cons] at hv z1 z2 z3'
      have hsmL := hsm
      rw [List.length_cons] at hsmL
      have hsm' : -1000000 ≤ sm ∧ sm ≤ 1000000 := by omega
      have hc := mt_c hT hs
      have hr := hs.tl.1
      rw [pStp_cons] at h
      by_cases c1 : c = 43 ∨ c = 45
      · have hD1 : D = false ∧ sm = 0 := by
          rcases hD with h | h
          · exact h
          · exact absurd c1 h
        obtain ⟨rfl, rfl⟩ := hD1
        rw [if_pos c1] at h
        unfold dyS at h
        rw [CT_B, CT_B] at h
        refine sim_days hT ht' (r.length + 2) 0 (c :: r) false (by simp) hs hz hsm (Or.inr c1) (CT_mono h fun σ r1 e k hr1 hl1 hσ hpm => ?_)
        have hok := ok_days1 (u := r.length + 1) (r := r) c1
        rw [e] at hok
        unfold okR at hok
        simp only [List.length_cons] at hok
        have k : CT m T G (pB (pStp v (n + (cDays σ).length) r1) fun b r2 => .inr (cDays σ ++ b, r2)) _ := k
        rw [CT_B] at k
        rw [cEnd_f, List.append_nil] at hn k
        refine ⟨fun hdig => ?_, fun hnd => ?_⟩
        · cases r1 with
          | nil => exact absurd hdig (by decide)
          | cons e1 r2 =>
            have he : 48 ≤ e1 ∧ e1 ≤ 57 := hdig
            rw [pStp_dig he] at k
            have k : Sf T (e1 :: r2) → EN m T u G t (e1 :: r2) S J _ := k
            exact EN_fl (by omega) (k hr1)
        · refine ih (n + (cDays σ).length) r1 t S J C true σ (by omega) (by rw [cEnd_t, List.length_append, hn]) ht hr1 ⟨by simp; omega, by omega, by rw [nEt]; show C.length + nE S + 1 + r1.length ≤ 70; show _; have : dN false = 0 := rfl; omega⟩ hσ (Or.inr hpm) ?_
          refine CT_mono k fun b r2 _ k2 hr2 => ?_
          rw [cEnd_t, List.append_assoc]
          exact k2 hr2
      rw [if_neg c1] at h
      by_cases c63 : c = 63
      · subst c63
        rw [if_pos rfl, CT_B] at h
        intro dg mo nu dn hb
        have hb' := hb
        obtain ⟨b1, b2, b3, b4⟩ := hb'
        refine gd_id hT hs (by omega) b4 (by simp only; omega) (by simp only; omega) (by simp only [List.headD_cons]; omega) ?_
        intro M hM
        have q := kt_step (c := 63) ht' hM (by omega) (by omega) (by omega) (by omega)
        rw [if_neg (by decide), if_pos rfl] at q
        have en0 : nE ((3, 0) :: (4, 0) :: (2, 0) :: (5, 0) :: (6, 0) :: (t, 0) :: S) = nE ((t, 0) :: S) := rfl
        refine gk_ok q (by simp; omega) (by rw [en0, nEt]; omega) ?_
        have hz0 : ∀ (s' : List Int) (J' : List Int) (C' : Cx), s'.length ≤ r.length → J'.length + s'.length ≤ 85 → C'.length + nE S + s'.length ≤ 70 → Sz s' ((3, 0) :: (4, 0) :: (2, 0) :: (5, 0) :: (6, 0) :: (t, 0) :: S) J' C' false := by
          intro s' J' C' h1 h2 h3
          refine ⟨by simp; omega, h2, ?_⟩
          rw [en0, nEt]
          show C'.length + nE S + 0 + s'.length ≤ 70
          omega
        generalize hC1 : C ++ cEnd D sm = C1 at *
        unfold brS at h
        rw [CT_B] at h
        refine sim_log hT v n r ((4, 0) :: (2, 0) :: (5, 0) :: (6, 0) :: (t, 0) :: S) J C1 (by omega) hn hr (hz0 r J C1 (by omega) (by omega) (by omega)) (CT_mono h fun a r1 ea k hr1 => ?_) dg mo nu dn hb
        have hl1 := log_lt ea
        rw [CT_B] at k
        intro dg mo nu dn hb
        obtain ⟨b1, b2, b3, b4⟩ := id hb
        have hCa : (C1 ++ a).length = C1.length + a.length := List.length_append
        refine ga_gd (by decide) (gd_id hT hr1 (by simp; omega) b4 (by simp only; omega) (by simp only; omega) (by simp only; omega) ?_)
        by_cases c123 : r1.headD 0 = 123
        case neg =>
          rw [chr_no c123] at k
          cases r1 with
          | nil => exact gk_end hT (Or.inr (by decide)) (by simp; omega) k
          | cons x r2 =>
            have hx := mt_c hT hr1
            intro M1 hM1
            have q := kt_m4 (c := x) hM1 (by simp; omega) (by omega) (by omega) (by omega)
            rw [if_neg (show ¬ x = 123 from c123)] at q
            exact gk_no q k
        obtain ⟨r2, rfl, e2⟩ := chr_hd c123 (by decide)
        rw [e2] at k
        have hr2 := hr1.tl.1
        rw [List.length_cons] at hl1
        intro M1 hM1
        have q := kt_m4 (c := 123) hM1 (by simp; omega) (by omega) (by omega) (by omega)
        rw [if_pos rfl] at q
        have en1 : nE ((2, 0) :: (5, 0) :: (6, 0) :: (t, 0) :: S) = nE ((t, 0) :: S) := rfl
        have hC2 : (C1 ++ a ++ [((19 : Int), (0 : Int))]).length = C1.length + a.length + 1 := by simp; omega
        refine gk_ok q (by simp; omega) (by rw [en1, nEt, hC2]; omega) (ga_gd (by decide) ?_)
        have k : CT m T G (pB (pStp v (n + a.length + 1) r2) _) _ := k
        rw [CT_B] at k
        refine ih (n + a.length + 1) r2 2 ((5, 0) :: (6, 0) :: (t, 0) :: S) (((C1 ++ a).length : Int) :: J) (C1 ++ a ++ [(19, 0)]) false 0 (by omega) (by rw [cEnd_f, List.append_nil, hC2, hn]) (Or.inr rfl) hr2 ⟨by simp; omega, by simp; omega, by rw [en1, nEt, hC2]; show C1.length + a.length + 1 + nE S + 0 + r2.length ≤ 70; omega⟩ (by omega) (Or.inl ⟨rfl, rfl⟩) (CT_mono k fun b r3 eb k3 hr3 => ?_) dg mo nu dn hb
        rw [cEnd_f, List.append_nil]
        have hokb := ok_stp v (n + a.length + 1) r2
        rw [eb] at hokb
        unfold okR at hokb
        simp only at hokb
        rw [CT_B] at k3
        unfold EN
        rw [if_pos rfl]
        by_cases c125 : r3.headD 0 = 125
        case neg =>
          rw [chr_no c125] at k3
          rw [if_neg c125]
          exact k3
        rw [if_pos c125]
        obtain ⟨r4, rfl, e4⟩ := chr_hd c125 (by decide)
        rw [e4] at k3
        have hr4 := hr3.tl.1
        rw [List.length_cons] at hokb
        intro dg mo nu dn hb M2 hM2
        obtain ⟨b1, b2, b3, b4⟩ := id hb
        have q := kt_m5 (c := 125) hM2 (by simp; omega) (by omega)
        rw [if_pos rfl] at q
        have en2 : nE ((6, 0) :: (t, 0) :: S) = nE ((t, 0) :: S) := rfl
        have hC3 : (C1 ++ a ++ [((19 : Int), (0 : Int))] ++ b).length = C1.length + a.length + 1 + b.length := by simp; omega
        refine gk_ok q (by simp; omega) (by rw [en2, nEt, hC3]; omega) (ga_gd (by decide) ?_)
        -- what comes behind a branch
        have behind : ∀ (a' : Cx) (r' : List Int), r'.length < r.length → Sf T r' → C1.length + a'.length + nE S + r'.length ≤ 70 → (CT m T G (pB (pStp v (n + a'.length) r') fun b r2 => (.inr (a' ++ b, r2) : Rd Cx)) fun b r => Sf T r → EN m T u G t r S J (C1 ++ b)) → QD m T u G false 0 r' ((t, 0) :: S) J (C1 ++ a') := by
          intro a' r' hl hr' hsz kk
          have hCa' : (C1 ++ a').length = C1.length + a'.length := List.length_append
          refine ih (n + a'.length) r' t S J (C1 ++ a') false 0 (by omega) (by rw [cEnd_f, List.append_nil, hCa', hn]) ht hr' ⟨by simp; omega, by omega, by rw [nEt, hCa']; show C1.length + a'.length + nE S + 0 + r'.length ≤ 70; omega⟩ (by omega) (Or.inl ⟨rfl, rfl⟩) ?_
          rw [CT_B] at kk
          refine CT_mono kk fun b r2 _ k2 hr2 => ?_
          rw [cEnd_f, List.append_nil, List.append_assoc]
          exact k2 hr2
        have noelse : r4.headD 0 ≠ 123 → (CT m T G (pB (pStp v (n + (a ++ [((19 : Int), ((n + a.length + 1 + b.length : Nat) : Int))] ++ b).length) r4) fun b' r2 => (.inr (a ++ [(19, ((n + a.length + 1 + b.length : Nat) : Int))] ++ b ++ b', r2) : Rd Cx)) fun b r => Sf T r → EN m T u G t r S J (C1 ++ b)) → GD m T u G r4 ((6, 0) :: (t, 0) :: S) (((C1 ++ a).length : Int) :: J) (C1 ++ a ++ [((19 : Int), (0 : Int))] ++ b) 0 dg mo false 0 nu dn := by
          intro hne kk
          refine gd_pop6 hT hr4 ht' (by omega) (by omega) (by omega) b4 hne ?_
          have := behind (a ++ [((19 : Int), ((n + a.length + 1 + b.length : Nat) : Int))] ++ b) r4 (by omega) hr4 (by simp; omega) kk dg mo nu dn hb
          rw [hn] at this
          rw [hCa]
          simp only [List.append_assoc] at this ⊢
          exact this
        cases r4 with
        | nil => exact noelse (by decide) k3
        | cons o r5 =>
          by_cases co : o = 123
          case neg =>
            refine noelse co ?_
            have k3 : CT m T G (if o = 123 then _ else _) _ := k3
            rw [if_neg co] at k3
            exact k3
          subst co
          have k3 : CT m T G (pB (pStp v (n + a.length + 1 + b.length + 1) r5) fun d r6 => pB (pChr 125 r6) fun _ r7 => (.inr (a ++ [(19, ((n + a.length + 1 + b.length + 1 : Nat) : Int))] ++ b ++ [(18, ((n + a.length + 1 + b.length + 1 + d.length : Nat) : Int))] ++ d, r7) : Rd Cx)) _ := k3
          rw [CT_B] at k3
          rw [List.length_cons] at hokb
          have hr5 := hr4.tl.1
          refine gd_id hT hr4 (by simp; omega) b4 (by simp only; omega) (by simp only [List.headD_cons]; omega) (by simp only; omega) ?_
          intro M3 hM3
          have q := kt_else (c := 123) hM3 (by simp; omega) (by omega) (by omega)
          have en3 : nE ((2, 0) :: (7, 0) :: (t, 0) :: S) = nE ((t, 0) :: S) := rfl
          generalize hC4 : C1 ++ a ++ [((19 : Int), (((C1 ++ a).length + 1 + b.length + 1 : Nat) : Int))] ++ b = C4 at q
          have lC4 : C4.length = (C1 ++ a).length + 1 + b.length := by rw [← hC4]; simp; omega
          have lC5 : (C4 ++ [((18 : Int), (0 : Int))]).length = C4.length + 1 := by simp
          rw [← lC4] at q
          refine gk_ok q (by simp; omega) (by rw [en3, nEt, lC5]; omega) (ga_gd (by decide) ?_)
          refine ih (n + a.length + 1 + b.length + 1) r5 2 ((7, 0) :: (t, 0) :: S) ((C4.length : Int) :: J) (C4 ++ [(18, 0)]) false 0 (by omega) (by rw [cEnd_f, List.append_nil, lC5]; omega) (Or.inr rfl) hr5 ⟨by simp; omega, by simp; omega, by rw [en3, nEt, lC5]; show C4.length + 1 + nE S + 0 + r5.length ≤ 70; omega⟩ (by omega) (Or.inl ⟨rfl, rfl⟩) (CT_mono k3 fun d r6 ed k6 hr6 => ?_) dg mo nu dn hb
          rw [cEnd_f, List.append_nil]
          have hokd := ok_stp v (n + a.length + 1 + b.length + 1) r5
          rw [ed] at hokd
          unfold okR at hokd
          simp only at hokd
          rw [CT_B] at k6
          unfold EN
          rw [if_pos rfl]
          by_cases c6 : r6.headD 0 = 125
          case neg =>
            rw [chr_no c6] at k6
            rw [if_neg c6]
            exact k6
          rw [if_pos c6]
          obtain ⟨r7, rfl, e7⟩ := chr_hd c6 (by decide)
          rw [e7] at k6
          have hr7 := hr6.tl.1
          rw [List.length_cons] at hokd
          intro dg mo nu dn hb M4 hM4
          have q := kt_m7 (c := 125) hM4 (by simp; omega) (by omega) (by omega) (by omega)
          rw [if_pos rfl] at q
          have lC6 : (C4 ++ [((18 : Int), ((C4.length + 1 + d.length : Nat) : Int))] ++ d).length = C4.length + 1 + d.length := by simp; omega
          refine gk_ok q (by simp; omega) (by rw [nEt, lC6]; omega) (ga_gd (show t ≠ 10 by omega) ?_)
          have := behind (a ++ [(19, ((n + a.length + 1 + b.length + 1 : Nat) : Int))] ++ b ++ [(18, ((n + a.length + 1 + b.length + 1 + d.length : Nat) : Int))] ++ d) r7 (by omega) hr7 (by simp; omega) k6 dg mo nu dn hb
          rw [lC4, ← hC4, hCa]
          rw [hn] at this
          simp only [List.append_assoc] at this ⊢
          exact this
      rw [if_neg c63] at h
      intro dg mo nu dn hb
      obtain ⟨b1, b2, b3, b4⟩ := id hb
      by_cases c125 : c = 125 ∧ t = 2
      · obtain ⟨rfl, rfl⟩ := c125
        rw [if_pos (by decide)] at h
        have hen : Sf T (125 :: r) → EN m T u G 2 (125 :: r) S J (C ++ cEnd D sm ++ []) := h
        have hen := hen hs
        rw [List.append_nil] at hen
        unfold EN at hen
        rw [if_pos rfl, if_pos (by rfl)] at hen
        refine gd_125 hT hs (by omega) b4 (by omega) hsm' ?_
        intro M hM
        have : ∀ a', RQ m S J (C ++ cEnd D sm) a' dg mo false 0 nu dn M → a' = 0 → G (kS T u (125 :: r) M) := fun a' ha e => hen dg mo nu dn hb M (e ▸ ha)
        exact this 0 hM rfl
      refine gd_id hT hs (by omega) b4 (by simp only; omega) (by simp only; omega) (by simp only [List.headD_cons]; omega) ?_
      intro M hM
      have q := kt_step (c := c) ht' hM (by omega) (by omega) (by omega) (by omega)
      rw [if_neg c1, if_neg c63] at q
      by_cases c0 : mvK c = 0
      · rw [if_pos c0] at q h
        exact gk_no q (EN_fl (by omega) (h hs))
      rw [if_neg c0] at q h
      rw [CT_B] at h
      have more : ∀ (a : Cx) (r1 : List Int), a.length = 1 → r1.length ≤ r.length → Sf T r1 → (CT m T G (pB (pStp v (n + a.length) r1) fun b r2 => (.inr (a ++ b, r2) : Rd Cx)) fun b r => Sf T r → EN m T u G t r S J (C ++ cEnd D sm ++ b)) → QD m T u G false 0 r1 ((t, 0) :: S) J (C ++ cEnd D sm ++ a) := by
        intro a r1 ha hl hr1 kk
        have hCa : (C ++ cEnd D sm ++ a).length = (C ++ cEnd D sm).length + a.length := List.length_append
        refine ih (n + a.length) r1 t S J (C ++ cEnd D sm ++ a) false 0 (by omega) (by rw [cEnd_f, List.append_nil, hCa, hn]) ht hr1 ⟨by simp; omega, by omega, by rw [nEt, hCa]; show (C ++ cEnd D sm).length + a.length + nE S + 0 + r1.length ≤ 70; omega⟩ (by omega) (Or.inl ⟨rfl, rfl⟩) ?_
        rw [CT_B] at kk
        refine CT_mono kk fun b r2 _ k2 hr2 => ?_
        rw [cEnd_f, List.append_nil, List.append_assoc]
        exact k2 hr2
      by_cases c10 : 10 ≤ mvK c
      · rw [if_pos c10] at q
        have ef : mvF c = [] := by
          unfold mvF
          rw [if_neg]
          intro z
          have : mvK c ≤ 9 := by
            rcases z with rfl | rfl | rfl | rfl <;> decide
          omega
        rw [ef] at h
        refine gk_ok q (by simp; omega) (by rw [nEt, List.length_append]; simp; omega) (ga_gd (show t ≠ 10 by omega) ?_)
        exact more [(mvK c, 0)] r rfl (Nat.le_refl _) hr h dg mo nu dn hb
      · rw [if_neg c10] at q
        have ef : mvF c = [119] := by
          unfold mvF
          rw [if_pos]
          unfold mvK at c0 c10
          by_cases q1 : c = 62
          · omega
          by_cases q2 : c = 60
          · omega
          by_cases q3 : c = 93
          · omega
          by_cases q4 : c = 91
          · omega
          by_cases q5 : c = 79
          · simp [q1, q2, q3, q4, q5] at c10
          by_cases q6 : c = 81
          · simp [q1, q2, q3, q4, q5, q6] at c10
          by_cases q7 : c = 88
          · simp [q1, q2, q3, q4, q5, q6, q7] at c10
          simp [q1, q2, q3, q4, q5, q6, q7] at c0
        rw [ef] at h
        have en5 : nE ((17, 0) :: (10, mvK c) :: (t, 0) :: S) = nE ((t, 0) :: S) + 1 := rfl
        refine gk_ok q (by simp; omega) (by rw [en5, nEt]; omega) ?_
        refine sim_part hT (fs := [119]) (kd := mvK c) ⟨fun z => absurd z (by decide), by omega, trivial⟩ hr ⟨?_, by omega, ?_⟩ (CT_mono h fun a r1 ea k hr1 => ?_) dg mo nu dn hb
        · show S.length + 1 + 1 + 1 + 6 * r.length ≤ 450
          omega
        · show (C ++ cEnd D sm).length + nE ((17, 0) :: (10, mvK c) :: (t, 0) :: S) + 0 + r.length ≤ 70
          rw [en5, nEt]
          omega
        · have hok := ok_part (kd := mvK c) (fs := [119]) r (c :: r) (by simp)
          rw [ea] at hok
          unfold okR at hok
          simp only [List.length_cons] at hok
          obtain ⟨v9, e9, -⟩ := part_ne ea
          have e10 : a.length = 1 := by rw [e9]; rfl
          exact qa_qd ht' (more a r1 e10 (by omega) hr1 k)
end SIM4
