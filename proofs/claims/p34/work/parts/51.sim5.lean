/-! THE REFERENCE READS AS IS TOLD: questions, rules, the whole -/
/-- a question as the reference keeps it: what is asked, then what is made of it -/
def pPst : Nat → List Int → Rd Cx
  | 0, s => .inl s
  | _ + 1, [] => .inl []
  | u + 1, c :: r =>
    if c = 33 then pB (pPst u r) fun a r1 => .inr (a ++ [(6, 0)], r1)
    else if c = 40 then
      pB (pPst u r) fun a r1 => match r1 with
        | [] => .inl []
        | o :: r2 => if o = 38 ∨ o = 124 then
            pB (pPst u r2) fun b r3 => pB (pChr 41 r3) fun _ r4 => .inr (a ++ b ++ [(if o = 38 then 7 else 8, 0)], r4)
          else .inl (o :: r2)
    else if lgK false c = 0 then .inl (c :: r)
    else pPart (lgK false c - 20) (lgF false c) r
/-- two readings that go the same way -/
def sameR {α β : Type} (P : α → β → Prop) : Rd α → Rd β → Prop
  | .inl q, .inl q' => q = q'
  | .inr (a, r), .inr (b, r') => r = r' ∧ P a b
  | _, _ => False
theorem same_B {α β γ δ : Type} {P : α → β → Prop} {Q : γ → δ → Prop} {x : Rd α} {y : Rd β} {f : α → List Int → Rd γ} {g : β → List Int → Rd δ} (h : sameR P x y) (hf : ∀ a b r, x = .inr (a, r) → y = .inr (b, r) → P a b → sameR Q (f a r) (g b r)) : sameR Q (pB x f) (pB y g) := by
  cases x with
  | inl q =>
    cases y with
    | inl q' => exact h
    | inr z => exact h.elim
  | inr z =>
    cases y with
    | inl q' => exact h.elim
    | inr z' =>
      obtain ⟨a, r⟩ := z
      obtain ⟨b, r'⟩ := z'
      obtain ⟨rfl, hp⟩ := h
      exact hf a b r rfl rfl hp
theorem same_self {α : Type} {P : α → α → Prop} {x : Rd α} (h : ∀ a r, x = .inr (a, r) → P a a) : sameR P x x := by
  cases x with
  | inl q => rfl
  | inr z => exact ⟨rfl, h z.1 z.2 rfl⟩
theorem log_pst (P : Nat → Cx → Cx → Prop) (hat : ∀ (n : Nat) (c x : Int) (s r : List Int), lgK false c ≠ 0 → pFlds (lgF false c) 0 0 s = .inr (x, r) → P n [(lgK false c, x)] [(lgK false c - 20, x)])
    (hno : ∀ n a b, P n a b → P n (a ++ [(17, 0)]) (b ++ [(6, 0)])) (htw : ∀ (n : Nat) (o : Int) (a b a' b' : Cx), P n a a' → P (n + a.length + 1) b b' → P n (a ++ [(if o = 38 then 19 else 20, ((n + a.length + 1 + b.length : Nat) : Int))] ++ b) (a' ++ b' ++ [(if o = 38 then 7 else 8, 0)])) :
    ∀ (u n : Nat) (s : List Int), sameR (P n) (pLog false u n s) (pPst u s) := by
  intro u
  induction u with
  | zero => intro n s; rfl
  | succ u ih =>
    intro n s
    cases s with
    | nil => rfl
    | cons c r =>
      unfold pLog pPst
      by_cases c33 : c = 33
      · rw [if_pos c33, if_pos c33]
        exact same_B (ih n r) fun a b r1 _ _ h => ⟨rfl, hno n a b h⟩
      rw [if_neg c33, if_neg c33]
      by_cases c40 : c = 40
      · rw [if_pos c40, if_pos c40]
        refine same_B (ih n r) fun a a' r1 _ _ h => ?_
        cases r1 with
        | nil => rfl
        | cons o r2 =>
          simp only
          by_cases co : o = 38 ∨ o = 124
          · rw [if_pos co, if_pos co]
            refine same_B (ih (n + a.length + 1) r2) fun b b' r3 _ _ h2 => ?_
            exact same_B (P := fun _ _ => True) (same_self fun _ _ _ => trivial) fun _ _ r4 _ _ _ => ⟨rfl, htw n o a b a' b' h h2⟩
          · rw [if_neg co, if_neg co]
            rfl
      rw [if_neg c40, if_neg c40]
      by_cases c0 : lgK false c = 0
      · rw [if_pos c0, if_pos c0]
        rfl
      · rw [if_neg c0, if_neg c0]
        unfold pPart
        refine same_B (P := fun x y => x = y ∧ ∃ r1, pFlds (lgF false c) 0 0 r = .inr (x, r1)) (same_self fun x r1 e => ⟨rfl, r1, e⟩) fun x y r1 _ _ h => ?_
        obtain ⟨rfl, r2, e⟩ := h
        exact ⟨rfl, hat n c x r r2 c0 e⟩
theorem pst_len {u : Nat} {s r : List Int} {t : Cx} (h : pPst u s = .inr (t, r)) : 1 ≤ t.length := by
  have := log_pst (fun _ a b => 1 ≤ a.length ∧ 1 ≤ b.length) (fun _ _ _ _ _ _ _ => ⟨Nat.le_refl _, Nat.le_refl _⟩) (fun n a b h => by simp) (fun n o a b a' b' h1 h2 => by simp; omega) u 0 s
  rw [h] at this
  cases e : pLog false u 0 s with
  | inl q => rw [e] at this; exact this.elim
  | inr z => rw [e] at this; exact this.2.2
theorem ok_pst (u : Nat) (s : List Int) : okR List.length 0 s (pPst u s) := by
  have := log_pst (fun _ a b => b.length ≤ a.length) (fun _ _ _ _ _ _ _ => Nat.le_refl _) (fun n a b h => by simp; omega) (fun n o a b a' b' h1 h2 => by simp; omega) u 0 s
  have hl := ok_log false u 0 s
  cases e : pLog false u 0 s with
  | inl q =>
    rw [e] at this hl
    cases e2 : pPst u s with
    | inl q' =>
      rw [e2] at this
      have : q = q' := this
      rw [← this]
      exact hl
    | inr z => rw [e2] at this; exact this.elim
  | inr z =>
    rw [e] at this hl
    cases e2 : pPst u s with
    | inl q' => rw [e2] at this; exact this.elim
    | inr z' =>
      rw [e2] at this
      obtain ⟨h1, h2⟩ := this
      unfold okR at hl ⊢
      simp only at hl ⊢
      rw [← h1]
      omega
theorem pst_lt {u : Nat} {s r : List Int} {t : Cx} (h : pPst u s = .inr (t, r)) : r.length + t.length ≤ s.length ∧ r.length < s.length := by
  have h1 := ok_pst u s
  have h2 := pst_len h
  rw [h] at h1
  unfold okR at h1
  simp only at h1
  omega
section SIM5
variable {m : Mm} {T : List Int} {u : Nat} {G : Option (Int32 × Mm) → Prop} {s : List Int} {S : List (Int × Int)} {J : List Int} {C : Cx} {ar dg mo : Int} {D : Bool} {sm nu dn t : Int} {M : Mm}
theorem sim_pst (hT : MT m T) : ∀ (v : Nat) (s : List Int) (S : List (Int × Int)) (J : List Int) (C : Cx), s.length < v → Sf T s → Sz s ((20, 0) :: S) J C false →
    (CT m T G (pPst v s) fun a r => Sf T r → QA m T u G r S J (C ++ a)) → QA m T u G s ((20, 0) :: S) J C := by
  intro v
  induction v with
  | zero => intro s S J C h; exact absurd h (Nat.not_lt_zero _)
  | succ v ih =>
    intro s S J C hv hs hz h dg mo nu dn hb
    obtain ⟨z1, z2, z3⟩ := hz
    have z3' : C.length + nE S + 0 + s.length ≤ 70 := z3
    rw [List.length_cons] at z1
    refine ga_gd (by decide) (gd_id hT hs (by omega) hb.2.2.2 (by simp only; omega) (by simp only; omega) (by simp only; omega) ?_)
    cases s with
    | nil => exact gk_end hT (Or.inr (by decide)) (by omega) h
    | cons c r =>
      rw [List.length_cons] at hv z1 z2 z3'
      have hc := mt_c hT hs
      have hr := hs.tl.1
      intro M hM
      have q := kt_ask (c := c) hM (by omega) (by omega) (by omega)
      unfold pPst at h
      by_cases c33 : c = 33
      · subst c33
        rw [if_neg (by decide), if_pos (by decide)] at q
        rw [if_pos rfl, CT_B] at h
        have hn1 : nE ((20, 0) :: (10, 6) :: S) = nE S + 1 := rfl
        refine gk_ok q (by show S.length + 2 < 490; omega) (by show C.length + nE ((20, 0) :: (10, 6) :: S) ≤ 79; omega) ?_
        refine ih r ((10, 6) :: S) J C (by omega) hr ⟨by simp; omega, by omega, by rw [hn1]; show C.length + (nE S + 1) + 0 + r.length ≤ 70; omega⟩ (CT_mono h fun a r1 e k hr1 => ?_) dg mo nu dn hb
        intro dg' mo' nu' dn' hb'
        refine ga_10 ?_
        rw [List.append_assoc]
        exact k hr1 dg' mo' nu' dn' hb'
      rw [if_neg c33] at h
      by_cases c40 : c = 40
      · subst c40
        rw [if_neg (by decide), if_pos (by decide)] at q
        rw [if_pos rfl, CT_B] at h
        refine gk_ok q (by show S.length + 4 < 490; omega) (by show C.length + nE S ≤ 79; omega) ?_
        refine ih r ((21, 0) :: (20, 0) :: (22, 0) :: S) J C (by omega) hr ⟨by simp; omega, by omega, by show C.length + nE S + 0 + r.length ≤ 70; omega⟩ (CT_mono h fun a r1 e k hr1 => ?_) dg mo nu dn hb
        have hl1 := pst_lt e
        intro dg' mo' nu' dn' hb'
        refine ga_gd (by decide) (gd_id hT hr1 (by simp; omega) hb'.2.2.2 (by simp only; omega) (by simp only; omega) (by simp only; omega) ?_)
        cases r1 with
        | nil => exact gk_end hT (Or.inr (by decide)) (by simp; omega) k
        | cons o r2 =>
          rw [List.length_cons] at hl1
          have ho := mt_c hT hr1
          have hr2 := hr1.tl.1
          intro M' hM'
          have hCa : (C ++ a).length = C.length + a.length := List.length_append
          have q := kt_m21 (c := o) hM' (by simp; omega) (by omega) (by omega)
          simp only at k
          by_cases co : o = 38 ∨ o = 124
          · rw [if_pos co] at q k
            rw [CT_B] at k
            refine gk_ok q (by simp; omega) (by rw [hCa]; show C.length + a.length + nE S ≤ 79; omega) ?_
            refine ih r2 ((22, 0) :: S) ((if o = 38 then 7 else 8) :: J) (C ++ a) (by omega) hr2 ⟨by simp; omega, by simp; omega, by rw [hCa]; show C.length + a.length + nE S + 0 + r2.length ≤ 70; omega⟩ (CT_mono k fun b r3 e3 k3 hr3 => ?_) dg' mo' nu' dn' hb'
            rw [CT_B] at k3
            have hl3 := pst_lt e3
            intro dg2 mo2 nu2 dn2 hb2
            refine ga_gd (by decide) (gd_id hT hr3 (by omega) hb2.2.2.2 (by simp only; omega) (by simp only; omega) (by simp only; omega) ?_)
            cases r3 with
            | nil => exact gk_end hT (Or.inr (by decide)) (by omega) k3
            | cons x r4 =>
              rw [List.length_cons] at hl3
              have hx := mt_c hT hr3
              intro M2 hM2
              have q := kt_m22 (c := x) hM2 (by omega) (by omega) (by simp; omega) (by omega)
              rw [pChr_cons] at k3
              by_cases cx : x = 41
              · rw [if_pos cx] at q k3
                have hf := k3 hr3.tl.1 dg2 mo2 nu2 dn2 hb2
                refine gk_ok q (by omega) (by simp; omega) ?_
                simp only [List.append_assoc] at hf ⊢
                exact hf
              · rw [if_neg cx] at q k3
                exact gk_no q k3
          · rw [if_neg co] at q k
            exact gk_no q k
      rw [if_neg c40] at h
      by_cases c67 : c = 67
      · subst c67
        rw [if_pos rfl] at q
        rw [if_neg (by decide)] at h
        exact gk_ok q (by omega) (by simp; omega) (h hr dg mo nu dn hb)
      rw [if_neg c67] at q
      by_cases c68 : c = 68
      · subst c68
        rw [if_pos (by decide)] at q
        rw [if_neg (by decide)] at h
        refine gk_ok q (by show S.length + 7 < 490; omega) (by show C.length + (nE S + 1) ≤ 79; omega) ?_
        exact sim_part hT (fs := [102, 109, 100]) (kd := 2) ⟨fun z => absurd z (by decide), by omega, fun z => absurd z (by decide), by omega, fun _ => rfl, by omega, trivial⟩ hr ⟨by show S.length + 7 + _ ≤ _; omega, by omega, by show C.length + (nE S + 1) + 0 + _ ≤ 70; omega⟩ h dg mo nu dn hb
      by_cases c87 : c = 87
      · subst c87
        rw [if_pos (by decide)] at q
        rw [if_neg (by decide)] at h
        refine gk_ok q (by show S.length + 4 < 490; omega) (by show C.length + (nE S + 1) ≤ 79; omega) ?_
        exact sim_part hT (fs := [102, 119]) (kd := 3) ⟨fun z => absurd z (by decide), by omega, fun z => absurd z (by decide), by omega, trivial⟩ hr ⟨by show S.length + 4 + _ ≤ _; omega, by omega, by show C.length + (nE S + 1) + 0 + _ ≤ 70; omega⟩ h dg mo nu dn hb
      by_cases c78 : c = 78
      · subst c78
        rw [if_pos (by decide)] at q
        rw [if_neg (by decide)] at h
        refine gk_ok q (by show S.length + 3 < 490; omega) (by show C.length + (nE S + 1) ≤ 79; omega) ?_
        exact sim_part hT (fs := [102]) (kd := 4) ⟨fun z => absurd z (by decide), by omega, trivial⟩ hr ⟨by show S.length + 3 + _ ≤ _; omega, by omega, by show C.length + (nE S + 1) + 0 + _ ≤ 70; omega⟩ h dg mo nu dn hb
      by_cases c66 : c = 66
      · subst c66
        rw [if_pos (by decide)] at q
        rw [if_neg (by decide)] at h
        refine gk_ok q (by show S.length + 5 < 490; omega) (by show C.length + (nE S + 1) ≤ 79; omega) ?_
        exact sim_part hT (fs := [102, 102]) (kd := 5) ⟨fun z => absurd z (by decide), by omega, fun z => absurd z (by decide), by omega, trivial⟩ hr ⟨by show S.length + 5 + _ ≤ _; omega, by omega, by show C.length + (nE S + 1) + 0 + _ ≤ 70; omega⟩ h dg mo nu dn hb
      rw [if_neg (by omega)] at q
      have e0 : lgK false c = 0 := by
        unfold lgK
        rw [if_neg (by decide), if_neg c67, if_neg c68, if_neg c87, if_neg c78, if_neg c66]
      rw [if_pos e0] at h
      exact gk_no q h
theorem sim_rule (hT : MT m T) (hs : Sf T s) (hz : s.length ≤ 40) (h : CT m T G (pB (pSta s) fun a r => pB (pStp 41 a.length r) fun b r2 => (.inr (a ++ b, r2) : Rd Cx)) fun b r => Sf T r → EN m T u G 1 r [] [] b) : QD m T u G false 0 s [(0, 0)] [] [] := by
  intro dg mo nu dn hb
  rw [CT_B] at h
  refine gd_id hT hs (by decide) hb.2.2.2 (by simp only; omega) (by simp only; omega) (by simp only; omega) ?_
  cases s with
  | nil => exact gk_end hT (Or.inr (by decide)) (by decide) h
  | cons c r =>
    rw [List.length_cons] at hz
    have hc := mt_c hT hs
    have hr := hs.tl.1
    intro M hM
    have q := kt_start (c := c) hM (by decide) (by omega)
    have h : CT m T G (if stK c = 0 then (.inl (c :: r)) else pPart (stK c) (stF c) r) _ := h
    have behind : ∀ (kd : Int) (fs : List Int), oqF false fs → (exF fs).length ≤ 5 → nE (exF fs ++ [(10, kd), (1, 0)]) ≤ 1 → (CT m T G (pPart kd fs r) fun a r => CT m T G (pB (pStp 41 a.length r) fun b r2 => (.inr (a ++ b, r2) : Rd Cx)) fun b r => Sf T r → EN m T u G 1 r [] [] b) → QA m T u G r (exF fs ++ [(10, kd), (1, 0)]) [] [] := by
      intro kd fs hf hl hE hh
      refine sim_part hT hf hr ⟨by simp; omega, by simp; omega, by show 0 + _ + 0 + _ ≤ 70; omega⟩ (CT_mono hh fun a r1 e k hr1 => ?_)
      obtain ⟨x, rfl, -⟩ := part_ne e
      have hok := ok_part (kd := kd) (fs := fs) r (c :: r) (by simp)
      rw [e] at hok
      unfold okR at hok
      simp only [List.length_cons, List.length_nil] at hok
      rw [CT_B] at k
      refine qa_qd (Or.inl rfl) (sim_steps hT 41 1 r1 1 [] [] [(kd, x)] false 0 (by omega) (by rw [cEnd_f]; rfl) (Or.inl ⟨rfl, rfl⟩) hr1 ⟨by simp; omega, by simp; omega, by show 1 + 0 + 0 + r1.length ≤ 70; omega⟩ (by omega) (Or.inl ⟨rfl, rfl⟩) (CT_mono k fun b r2 _ k2 hr2 => ?_))
      rw [cEnd_f, List.append_nil]
      exact k2 hr2
    by_cases c68 : c = 68
    · subst c68
      rw [if_pos (by decide)] at q
      rw [if_neg (by decide)] at h
      exact gk_ok q (by decide) (by decide) (behind 1 [109, 100] ⟨fun z => absurd z (by decide), by omega, fun _ => rfl, by omega, trivial⟩ (by decide) (by decide) h dg mo nu dn hb)
    by_cases c78 : c = 78
    · subst c78
      rw [if_pos (by decide)] at q
      rw [if_neg (by decide)] at h
      exact gk_ok q (by decide) (by decide) (behind 2 [110, 119, 109] ⟨fun z => absurd z (by decide), by omega, fun z => absurd z (by decide), by omega, fun z => absurd z (by decide), by omega, trivial⟩ (by decide) (by decide) h dg mo nu dn hb)
    by_cases c76 : c = 76
    · subst c76
      rw [if_pos (by decide)] at q
      rw [if_neg (by decide)] at h
      exact gk_ok q (by decide) (by decide) (behind 3 [119, 109] ⟨fun z => absurd z (by decide), by omega, fun z => absurd z (by decide), by omega, trivial⟩ (by decide) (by decide) h dg mo nu dn hb)
    by_cases c70 : c = 70
    · subst c70
      rw [if_pos (by decide)] at q
      rw [if_neg (by decide)] at h
      exact gk_ok q (by decide) (by decide) (behind 4 [102] ⟨fun z => absurd z (by decide), by omega, trivial⟩ (by decide) (by decide) h dg mo nu dn hb)
    rw [if_neg (by omega)] at q
    have e0 : stK c = 0 := by
      unfold stK
      rw [if_neg c68, if_neg c78, if_neg c76, if_neg c70]
    rw [if_pos e0] at h
    exact gk_no q h
/-- what the reference holds before a reading: what is left of an earlier one is harmless -/
def RB (m : Mm) : Prop := ∃ dg nu dn : Int, Bd dg 0 nu dn ∧ zI m 201 13 = i3 dg ∧ zI m 201 17 = i3 nu ∧ zI m 201 18 = i3 dn
theorem QF.rb {M : Mm} (hb : Bd dg mo nu dn) (h : QF m dg mo nu dn M) : RB M := by
  obtain ⟨S, J, C, ar, D, sm, F3, F4, F5, F6, F7, rfl, -⟩ := h
  exact ⟨dg, nu, dn, ⟨hb.1, by omega, hb.2.2⟩, rfl, rfl, rfl⟩
theorem reads_go (hT : MT m T) (hR : RB m) {w : Int} (hw : 0 ≤ w ∧ w ≤ 30) (h : QD m T (999 - T.length) G false 0 T [(w, 0)] [] []) : G (f_Mod_reads (i3 w) m) := by
  obtain ⟨dg, nu, dn, hb, r1, r2, r3⟩ := hR
  have h0 : RQ m [] [] [] 0 dg 0 false 0 nu dn (wI (wI (wI (wI (wI (wI (wI m 201 6 0) 201 8 0) 201 11 0) 201 12 0) 201 14 0) 201 15 0) 201 16 0) := by
    refine ⟨zI m 203, zI m 204, zI m 205, zI m 206, zI m 207, ?_, trivial, trivial, fun i hi => absurd hi (Nat.not_lt_zero i)⟩
    conv => lhs; rw [qM_self (m := m)]
    rw [qM_w6, qM_w8, qM_w11, qM_w12, qM_w14, qM_w15, qM_w16, r1, r2, r3]
    rfl
  obtain ⟨M1, e1, h1⟩ := mp_push h0 (by decide) (w := w) (i := 0) hw
  have ez : zFu = 999 - T.length + T.length + 1 := by
    have := hT.1
    unfold zFu
    omega
  have hp : (0 : Int32) = i3 (pl T T) := by
    unfold pl
    rw [Int.sub_self]
    rfl
  have e : f_Mod_reads (i3 w) m = MR T (999 - T.length) T M1 := by
    rw [e_Mod_reads]
    simp only [zLet]
    have e1' : f_Mod_push (i3 w) 0 (wI (wI (wI (wI (wI (wI (wI m 201 6 0) 201 8 0) 201 11 0) 201 12 0) 201 14 0) 201 15 0) 201 16 0) = some M1 := e1
    rw [e1', zBV_some]
    unfold MR
    rw [← ez, ← hp]
  rw [e]
  exact h dg 0 nu dn hb M1 h1
end SIM5
