/-! CALLS: a text is read -/
theorem ok_sta (s : List Int) : okR List.length 0 s (pSta s) := by
  cases s with
  | nil => exact Nat.le_refl 0
  | cons c r =>
    show okR List.length 0 (c :: r) (if stK c = 0 then .inl (c :: r) else pPart (stK c) (stF c) r)
    split
    · exact Nat.le_refl _
    · exact ok_part r (c :: r) (by simp)
theorem le_rule {T q : List Int} (h : pRule T = .inl q) : q.length ≤ T.length := by
  have hs := ok_sta T
  unfold pRule at h
  cases e1 : pSta T with
  | inl z =>
    rw [e1] at h hs
    cases h
    exact hs
  | inr z =>
    obtain ⟨a, r⟩ := z
    rw [e1] at h hs
    have hr : r.length + 0 + a.length ≤ T.length := hs
    have ht := ok_stp 41 a.length r
    cases e2 : pStp 41 a.length r with
    | inl z =>
      rw [e2] at ht
      have h : (match (pB (.inr (a, r)) fun a r => pB (pStp 41 a.length r) fun b r2 => (.inr (a ++ b, r2) : Rd Cx)) with
        | .inl q => (.inl q : List Int ⊕ Cx)
        | .inr (c, []) => .inr c
        | .inr (_, q) => .inl q) = .inl q := h
      rw [pB_inr rfl, pB_inl e2] at h
      have ht2 : z.length ≤ r.length := ht
      cases h
      omega
    | inr z =>
      obtain ⟨b, r2⟩ := z
      rw [e2] at ht
      have ht : r2.length + 0 + b.length ≤ r.length := ht
      have h : (match (pB (.inr (a, r)) fun a r => pB (pStp 41 a.length r) fun b r2 => (.inr (a ++ b, r2) : Rd Cx)) with
        | .inl q => (.inl q : List Int ⊕ Cx)
        | .inr (c, []) => .inr c
        | .inr (_, q) => .inl q) = .inl q := h
      rw [pB_inr rfl, pB_inr e2] at h
      cases r2 with
      | nil => exact nomatch h
      | cons c r3 =>
        cases h
        omega
theorem le_ask {T q : List Int} (h : pAsk T = .inl q) : q.length ≤ T.length := by
  have hs := ok_log false 41 0 T
  unfold pAsk at h
  cases e1 : pLog false 41 0 T with
  | inl z =>
    rw [e1] at h hs
    cases h
    exact hs
  | inr z =>
    obtain ⟨a, r⟩ := z
    rw [e1] at h hs
    have hr : r.length + 0 + a.length ≤ T.length := hs
    cases r with
    | nil => exact nomatch h
    | cons c r3 =>
      cases h
      omega
theorem pl_ne {T q : List Int} (h : q.length ≤ T.length) (h40 : T.length ≤ 40) : ¬ i3 (pl T q) = -1 := by
  unfold pl
  rw [show (-1 : Int32) = i3 (-1) from rfl, i3_eq ⟨by omega, by omega⟩ ⟨by decide, by decide⟩]
  omega
/-- the class has read; the reference has -/
def RdC (m m' : Mm) : Prop := (∀ b j, b < 19 ∨ (22 < b ∧ b ≠ 28) → zI m' b j = zI m b j) ∧ m'.2.2 = m.2.2
def RdR (m m' : Mm) : Prop := (∀ b j, b < 201 ∨ b = 202 ∨ 207 < b ∨ (b = 201 ∧ (j < 6 ∨ 18 < j)) → zI m' b j = zI m b j) ∧ m'.2 = m.2
theorem RdC.of {m : Mm} {rl : Bool} {p v : Int32} {FK FA : Nat → Int32} {n nm : Int32} : RdC m (pM (kR m rl) p v FK FA n nm) := ⟨fun b j h => by rw [pM_o (by omega), kR_o (Or.inl (by omega))], rfl⟩
theorem RdC.fx {m m' m'' : Mm} (h : RdC m m') (h2 : Fx1 28 m' m'') : RdC m m'' := ⟨fun b j hb => by rw [h2.2 _ _ (by omega), h.1 b j hb], by rw [h2.1]; exact h.2⟩
theorem RdR.of {m M : Mm} {dg mo nu dn : Int} (h : QF m dg mo nu dn M) : RdR m M := by
  obtain ⟨S, J, C, ar, D, sm, F3, F4, F5, F6, F7, rfl, -⟩ := h
  refine ⟨fun b j hb => ?_, rfl⟩
  by_cases e : b = 201
  · subst e
    show (if (201 : Nat) = 201 then (if j = 6 then i3 (S.length : Int) else if j = 8 then i3 (J.length : Int) else if j = 11 then i3 (C.length : Int) else if j = 12 then i3 ar else if j = 13 then i3 dg else if j = 14 then i3 mo else if j = 15 then b3 D else if j = 16 then i3 sm else if j = 17 then i3 nu else if j = 18 then i3 dn else zI m 201 j) else (if (201 : Nat) = 203 then F3 j else if (201 : Nat) = 204 then F4 j else if (201 : Nat) = 205 then F5 j else if (201 : Nat) = 206 then F6 j else if (201 : Nat) = 207 then F7 j else zI m 201 j)) = zI m 201 j
    rw [if_pos rfl, if_neg (by omega), if_neg (by omega), if_neg (by omega), if_neg (by omega), if_neg (by omega), if_neg (by omega), if_neg (by omega), if_neg (by omega), if_neg (by omega), if_neg (by omega)]
  · exact qM_o (by omega)
theorem RdC.c {c : Nat → Nat → Bool} {m m' : Mm} (h : RdC m m') (hc : ∀ b j, c b j = true → Sc b j) (h0 : c 19 3 = false) : SFc c m m' := fun b j q => h.1 b j (by
  have hs := hc b j q
  rw [Sc.iff] at hs
  by_cases e : b = 19 ∧ j = 3
  · rw [e.1, e.2, h0] at q
    exact nomatch q
  · omega)
theorem RdR.c {c : Nat → Nat → Bool} {m m' : Mm} (h : RdR m m') (hc : ∀ b j, c b j = true → Sc b j) (h1 : c 201 13 = false) (h2 : c 201 17 = false) (h3 : c 201 18 = false) : SFc c m m' := fun b j q => h.1 b j (by
  have hs := hc b j q
  rw [Sc.iff] at hs
  by_cases e : b = 201 ∧ (j = 13 ∨ j = 17 ∨ j = 18)
  · exfalso
    obtain ⟨rfl, rfl | rfl | rfl⟩ := e
    · rw [h1] at q; exact nomatch q
    · rw [h2] at q; exact nomatch q
    · rw [h3] at q; exact nomatch q
  · omega)
section RED
variable {m : Mm} {T : List Int}
theorem iX.rc {m' : Mm} (h : iX m T) (hF : RdC m m') (hR : RB m') : iX m' T := by
  obtain ⟨⟨a1, a2, a3, a4⟩, ⟨b1, b2, b3, b4⟩, h3, ⟨vv, hv⟩, -⟩ := h
  refine ⟨⟨a1, ?_, fun i hi => ?_, a4⟩, ⟨b1, ?_, fun i hi => ?_, b4⟩, fun i hi => ?_, ⟨(zI m' 19 3).toInt, (i3_of _).symm⟩, hR⟩
  · rw [hF.1 _ _ (by decide)]; exact a2
  · rw [hF.1 _ _ (by decide)]; exact a3 i hi
  · rw [hF.1 _ _ (by decide)]; exact b2
  · rw [hF.1 _ _ (by decide)]; exact b3 i hi
  · rw [hF.1 _ _ (by decide)]; exact h3 i hi
theorem iX.rr {m' : Mm} (h : iX m T) (hF : RdR m m') (hR : RB m') : iX m' T := by
  obtain ⟨⟨a1, a2, a3, a4⟩, ⟨b1, b2, b3, b4⟩, h3, ⟨vv, hv⟩, -⟩ := h
  refine ⟨⟨a1, ?_, fun i hi => ?_, a4⟩, ⟨b1, ?_, fun i hi => ?_, b4⟩, fun i hi => ?_, ⟨vv, ?_⟩, hR⟩
  · rw [hF.1 _ _ (by omega)]; exact a2
  · rw [hF.1 _ _ (by omega)]; exact a3 i hi
  · rw [hF.1 _ _ (by omega)]; exact b2
  · rw [hF.1 _ _ (by omega)]; exact b3 i hi
  · rw [hF.1 _ _ (by omega)]; exact h3 i hi
  · rw [hF.1 _ _ (by omega)]; exact hv
theorem RB.c {m m' : Mm} (h : RB m) (hF : ∀ j, j = 13 ∨ j = 17 ∨ j = 18 → zI m' 201 j = zI m 201 j) : RB m' := by
  obtain ⟨dg, nu, dn, h0, h1, h2, h3⟩ := h
  exact ⟨dg, nu, dn, h0, by rw [hF _ (by decide)]; exact h1, by rw [hF _ (by decide)]; exact h2, by rw [hF _ (by decide)]; exact h3⟩
theorem RdC.rb {m' : Mm} (h : RB m) (hF : RdC m m') : RB m' := h.c fun j _ => hF.1 _ _ (by decide)
theorem b_fault (hI : Inv m) : ∃ v m1 m2, f_Loo_fault m = some (v, m1) ∧ f_Mod_fault m1 = some (v, m2) ∧ Inv m2 := by
  obtain ⟨t, T, N, hT, hX, hA, hB, hS⟩ := id hI
  have fin : ∀ (v : Int32) (m1 : Mm), RdC m m1 → ∀ (M : Mm) (dg mo nu dn : Int), f_Par_readRule 17 m = some (v, m1) → f_Mod_reads 0 (wI m1 201 0 0) = some (v, M) → Bd dg mo nu dn → QF (wI m1 201 0 0) dg mo nu dn M → ∃ v m1 m2, f_Loo_fault m = some (v, m1) ∧ f_Mod_fault m1 = some (v, m2) ∧ Inv m2 := by
    intro v m1 hF M dg mo nu dn e1 e2 hb hq
    have hX1 := hX.rc hF (RdC.rb hX.2.2.2.2 hF)
    have hR := RdR.of hq
    have fr : ∀ c : Nat → Nat → Bool, (∀ b j, c b j = true → Sc b j) → c 19 3 = false → c 201 0 = false → c 201 13 = false → c 201 17 = false → c 201 18 = false → SFc c m M := fun c q1 q2 q3 q4 q5 q6 => (hF.c q1 q2).trans ((SFc.w q3).trans (hR.c q1 q4 q5 q6))
    refine ⟨v, m1, M, ?_, ?_, t, T, N, hT.fc (fr cT cT_s rfl rfl rfl rfl rfl), (hX1.fc (SFc.w rfl)).rr hR (QF.rb hb hq), hA.fc (fr cC cC_s rfl rfl rfl rfl rfl) (fr cR cR_s rfl rfl rfl rfl rfl), hB.fc (fr cB cB_s rfl rfl rfl rfl rfl), hS.fc (fr cQ cQ_s rfl rfl rfl rfl rfl) (fun b j hb => ?_) (Nat.le_refl N)⟩
    · unfold f_Loo_fault
      rw [e1, zBI_some]
    · unfold f_Mod_fault
      rw [zLet_eq, e2, zBI_some]
    · rw [zL_of hR.2]
      show m1.2.2.1 b j = m.2.2.1 b j
      rw [hF.2]
  have hp := par_rule hX.1 hX.2.2.2.1
  have hr : ∀ m1, RdC m m1 → GR (wI m1 201 0 0) T [(1, 0)] (pRule T) (f_Mod_reads 0 (wI m1 201 0 0)) := fun m1 hF => by
    have hX1 := (hX.rc hF (RdC.rb hX.2.2.2.2 hF)).fc (m' := wI m1 201 0 0) (SFc.w rfl)
    exact ref_rule hX1.2.1 hX1.2.2.2.2
  cases e : pRule T with
  | inl q =>
    rw [e] at hp
    obtain ⟨v', FK, FA, n, nm, e1⟩ := hp
    have h2 := hr _ (RdC.of (m := m) (rl := true) (p := i3 (pl T q)) (v := v') (FK := FK) (FA := FA) (n := n) (nm := nm))
    rw [e] at h2
    obtain ⟨M, dg, mo, nu, dn, e2, hb, hq⟩ := h2
    exact fin _ _ RdC.of M dg mo nu dn e1 e2 hb hq
  | inr C =>
    rw [e] at hp
    obtain ⟨v', FK, FA, e1, -⟩ := hp
    have h2 := hr _ (RdC.of (m := m) (rl := true) (p := i3 T.length) (v := i3 v') (FK := FK) (FA := FA) (n := i3 C.length) (nm := i3 (nmC C)))
    rw [e] at h2
    obtain ⟨M, dg, mo, nu, dn, e2, hb, hq⟩ := h2
    exact fin _ _ RdC.of M dg mo nu dn e1 e2 hb hq.qf
theorem ask_end (T : List Int) : match pAsk T, pEnd (pPst 41 T) with
    | .inl q, .inl q' => q = q'
    | .inr C, .inr C' => qP 0 C C'
    | _, _ => False := by
  have h := ask_both 41 0 T
  unfold pAsk
  cases e1 : pLog false 41 0 T with
  | inl z =>
    rw [e1] at h
    cases e2 : pPst 41 T with
    | inl z' =>
      rw [e2] at h
      exact h
    | inr z' => rw [e2] at h; exact h.elim
  | inr z =>
    rw [e1] at h
    cases e2 : pPst 41 T with
    | inl z' => rw [e2] at h; exact h.elim
    | inr z' =>
      rw [e2] at h
      obtain ⟨C, r⟩ := z
      obtain ⟨C', r'⟩ := z'
      obtain ⟨rfl, hq⟩ := h
      cases r with
      | nil => exact hq
      | cons c r3 => rfl
theorem b_questionFault (hI : Inv m) : ∃ v m1 m2, f_Loo_questionFault m = some (v, m1) ∧ f_Mod_questionFault m1 = some (v, m2) ∧ Inv m2 := by
  obtain ⟨t, T, N, hT, hX, hA, hB, hS⟩ := id hI
  have fin : ∀ (v : Int32) (m1 : Mm), RdC m m1 → ∀ (M : Mm) (dg mo nu dn : Int), f_Par_readQuestion 17 m = some (v, m1) → f_Mod_reads 20 (wI m1 201 0 0) = some (v, M) → Bd dg mo nu dn → QF (wI m1 201 0 0) dg mo nu dn M → ∃ v m1 m2, f_Loo_questionFault m = some (v, m1) ∧ f_Mod_questionFault m1 = some (v, m2) ∧ Inv m2 := by
    intro v m1 hF M dg mo nu dn e1 e2 hb hq
    have hX1 := hX.rc hF (RdC.rb hX.2.2.2.2 hF)
    have hR := RdR.of hq
    have fr : ∀ c : Nat → Nat → Bool, (∀ b j, c b j = true → Sc b j) → c 19 3 = false → c 201 0 = false → c 201 13 = false → c 201 17 = false → c 201 18 = false → SFc c m M := fun c q1 q2 q3 q4 q5 q6 => (hF.c q1 q2).trans ((SFc.w q3).trans (hR.c q1 q4 q5 q6))
    refine ⟨v, m1, M, ?_, ?_, t, T, N, hT.fc (fr cT cT_s rfl rfl rfl rfl rfl), (hX1.fc (SFc.w rfl)).rr hR (QF.rb hb hq), hA.fc (fr cC cC_s rfl rfl rfl rfl rfl) (fr cR cR_s rfl rfl rfl rfl rfl), hB.fc (fr cB cB_s rfl rfl rfl rfl rfl), hS.fc (fr cQ cQ_s rfl rfl rfl rfl rfl) (fun b j hb => ?_) (Nat.le_refl N)⟩
    · unfold f_Loo_questionFault
      rw [e1, zBI_some]
    · unfold f_Mod_questionFault
      rw [zLet_eq, e2, zBI_some]
    · rw [zL_of hR.2]
      show m1.2.2.1 b j = m.2.2.1 b j
      rw [hF.2]
  have hp := par_ask hX.1 hX.2.2.2.1
  have hr : ∀ m1, RdC m m1 → GR (wI m1 201 0 0) T [] (pEnd (pPst 41 T)) (f_Mod_reads 20 (wI m1 201 0 0)) := fun m1 hF => by
    have hX1 := (hX.rc hF (RdC.rb hX.2.2.2.2 hF)).fc (m' := wI m1 201 0 0) (SFc.w rfl)
    exact ref_ask hX1.2.1 hX1.2.2.2.2
  have hb := ask_end T
  cases e : pAsk T with
  | inl q =>
    rw [e] at hp hb
    obtain ⟨v', FK, FA, n, nm, e1⟩ := hp
    have h2 := hr _ (RdC.of (m := m) (rl := false) (p := i3 (pl T q)) (v := v') (FK := FK) (FA := FA) (n := n) (nm := nm))
    cases e' : pEnd (pPst 41 T) with
    | inl q' =>
      rw [e'] at hb h2
      obtain rfl : q = q' := hb
      obtain ⟨M, dg, mo, nu, dn, e2, hb, hq⟩ := h2
      exact fin _ _ RdC.of M dg mo nu dn e1 e2 hb hq
    | inr C' => rw [e'] at hb; exact hb.elim
  | inr C =>
    rw [e] at hp hb
    obtain ⟨v', FK, FA, e1, -⟩ := hp
    have h2 := hr _ (RdC.of (m := m) (rl := false) (p := i3 T.length) (v := i3 v') (FK := FK) (FA := FA) (n := i3 C.length) (nm := i3 (nmC C)))
    cases e' : pEnd (pPst 41 T) with
    | inl q' => rw [e'] at hb; exact hb.elim
    | inr C' =>
      rw [e'] at h2
      obtain ⟨M, dg, mo, nu, dn, e2, hb, hq⟩ := h2
      exact fin _ _ RdC.of M dg mo nu dn e1 e2 hb hq.qf
end RED
