/-! CALLS: a new feast -/
theorem SFc.hi {c : Nat → Nat → Bool} {m m' : Mm} (hF : ∀ b j, ¬ ((208 ≤ b ∧ b ≤ 215) ∨ (b = 201 ∧ (j = 0 ∨ j = 3 ∨ j = 19 ∨ j = 25))) → zI m' b j = zI m b j) (h1 : ∀ b j, ((208 ≤ b ∧ b ≤ 215) ∨ (b = 201 ∧ (j = 0 ∨ j = 19 ∨ j = 25))) → c b j = false) (h2 : c 201 3 = false) : SFc c m m' := fun b j q => hF b j (fun e => by
  by_cases e3 : b = 201 ∧ j = 3
  · rw [e3.1, e3.2, h2] at q
    exact nomatch q
  · rw [h1 b j (by omega)] at q
    exact nomatch q)
section FEA
variable {m : Mm} {p N nb : Nat} {T : List Int} {C : Cx} {F Y E : Nat → Int} {Kc Ac : Nat → Nat → Int} {Lc o : Nat → Nat} {R : Nat → Int} {mv : Nat → Bool} {Tx : Nat → List Int}
theorem c_copy (hp : p < 20) (hT : TX m 17 T) (hch : ∀ i, i < 40 → zCh (zI m 18 i)) (h2 : zI m 20 2 = i3 C.length) (h40 : C.length ≤ 40) (hA : CA (zI m 21) (zI m 22) 0 C) :
    ∃ mA m2, f_Txt_copyFrom (32 + 6 * p + 1) 17 m = some mA ∧ f_Cod_copyFrom (32 + 6 * p + 3) 20 mA = some m2 ∧ m2.2 = m.2 ∧ (∀ b j, ¬ (32 + 6 * p + 1 ≤ b ∧ b ≤ 32 + 6 * p + 5) → zI m2 b j = zI m b j) ∧ TX m2 (32 + 6 * p + 1) T ∧ Cd m2 (32 + 6 * p + 3) (fun i => (C.getD i (0, 0)).1) (fun i => (C.getD i (0, 0)).2) C.length ∧ zI m2 (32 + 6 * p + 3) 3 = zI m 20 3 := by
  obtain ⟨mA, e1, f1, g1, t1⟩ := txt_copy hp hT hch
  have k : ∀ b j, b < 32 + 6 * p + 1 ∨ 32 + 6 * p + 2 < b → zI mA b j = zI m b j := fun b j h => g1 b j (by omega) (by omega)
  obtain ⟨m2, e2, f2, g2, n2, d2⟩ := cod_copy (m := mA) hp (n := C.length) (C := C) rfl h40 (by rw [k _ _ (by omega), h2]) (fun i hi => by rw [k _ _ (by omega), k _ _ (by omega)]; exact hA i hi)
  refine ⟨mA, m2, e1, e2, f2.trans f1, fun b j h => ?_, ?_, d2, ?_⟩
  · rw [g2 b j (by omega), k b j (by omega)]
  · obtain ⟨a1, a2, a3, a4⟩ := t1
    refine ⟨a1, ?_, fun i hi => ?_, a4⟩
    · rw [g2 _ _ (by omega)]; exact a2
    · rw [g2 _ _ (by omega)]; exact a3 i hi
  · rw [n2, k _ _ (by omega)]
theorem i_names (h25 : zI m 25 3 = i3 N) (h20 : N ≤ 20) (h3 : zI m 20 3 = i3 ((nmC C : Nat) : Int)) (hv : vL C.length 0 C) (h40 : C.length ≤ 40) : f_Loo_checkNames m = some (if (∀ i, i < C.length → ((C.getD i (0, 0)).1 = 4 ∨ (C.getD i (0, 0)).1 = 15) → (C.getD i (0, 0)).2 < N) then .inl () else .inr 1, m) := by
  obtain ⟨n1, n2⟩ := nm_rule (N := N) hv h40
  have hsz : f_Alm_size m = some (i3 N) := by
    unfold f_Alm_size
    rw [h25]
  have zq : ∀ (K : Nat → Option ((Unit ⊕ Nat) × Mm)), zBQ 3 (f_Par_code m) K = K 20 := fun K => by
    show (if zT 20 = 3 then K 20 else none) = K 20
    exact if_pos (by decide)
  unfold f_Loo_checkNames
  rw [zq, hsz, zBP_some, cod_beyond h20 n2 h3, zBP_some]
  by_cases c : nmC C < 2 ^ N
  · rw [decide_eq_true c, if_pos (show b3 (!true) = 0 by decide), if_pos (n1.mp c)]
  · rw [decide_eq_false c, if_neg (show ¬ b3 (!false) = 0 by decide), if_neg (fun z => c (n1.mpr z))]
theorem r_names (h19 : zI m 201 19 = i3 N) (h20 : N ≤ 20) (h11 : zI m 201 11 = i3 C.length) (hA : ∀ i, i < C.length → zI m 206 i = i3 (C.getD i (0, 0)).1 ∧ zI m 207 i = i3 (C.getD i (0, 0)).2) (hv : vL C.length 0 C) (h40 : C.length ≤ 40) : ∃ b : Bool, f_Mod_areThere m = some (b3 b) ∧ (b = true ↔ ∀ i, i < C.length → ((C.getD i (0, 0)).1 = 4 ∨ (C.getD i (0, 0)).1 = 15) → (C.getD i (0, 0)).2 < N) := by
  refine ⟨_, mod_areThere (K := fun i => (C.getD i (0, 0)).1) (A := fun i => (C.getD i (0, 0)).2) h20 (by omega) h19 h11 hA (fun i hi => ?_), thr_iff C.length⟩
  have := (hv i hi).bd h40
  show (-1000000 ≤ (C.getD i (0, 0)).1 ∧ (C.getD i (0, 0)).1 ≤ 1000000) ∧ -1000000 ≤ (C.getD i (0, 0)).2 ∧ (C.getD i (0, 0)).2 ≤ 1000000
  omega
/-- the class after a new feast -/
theorem c_new {m2 : Mm} {r : Int} {b : Bool} (hN : N < 20) (h : iC m N Kc Ac Lc o R mv F Y E nb Tx) (hv : vL C.length 0 C) (h40 : C.length ≤ 40) (h3 : zI m 20 3 = i3 ((nmC C : Nat) : Int))
    (f2 : ∀ b j, ¬ (32 + 6 * N + 1 ≤ b ∧ b ≤ 32 + 6 * N + 5) → zI m2 b j = zI m b j) (t2 : TX m2 (32 + 6 * N + 1) T) (d2 : Cd m2 (32 + 6 * N + 3) (fun i => (C.getD i (0, 0)).1) (fun i => (C.getD i (0, 0)).2) C.length) (n2 : zI m2 (32 + 6 * N + 3) 3 = zI m 20 3) :
    iC (wI (wI (wI (wI m2 27 N (i3 N)) 25 3 (i3 ((N + 1 : Nat) : Int))) (32 + 6 * N) 2 (i3 r)) (32 + 6 * N) 3 (b3 b)) (N + 1) (uK Kc N C) (uA Ac N C) (uL Lc N C.length) (fun i => if i = N then N else o i) (fun g => if g = N then r else R g) (fun g => if g = N then b else mv g) F Y E nb (uT Tx N T) := by
  generalize hV : wI (wI (wI (wI m2 27 N (i3 N)) 25 3 (i3 ((N + 1 : Nat) : Int))) (32 + 6 * N) 2 (i3 r)) (32 + 6 * N) 3 (b3 b) = V
  have v2 : ∀ b j, (b ≠ 27 ∨ j ≠ N) → (b ≠ 25 ∨ j ≠ 3) → b ≠ 32 + 6 * N → zI V b j = zI m2 b j := by
    intro b j a1 a2 a3
    rw [← hV, zI_ne a3, zI_ne a3]
    by_cases e : b = 25
    · subst e
      rw [zI_nk (by omega), zI_ne (by decide)]
    · rw [zI_ne e]
      by_cases e2 : b = 27
      · subst e2
        exact zI_nk (by omega)
      · exact zI_ne e2
  have v1 : ∀ b j, (b ≠ 27 ∨ j ≠ N) → (b ≠ 25 ∨ j ≠ 3) → ¬ (32 + 6 * N ≤ b ∧ b ≤ 32 + 6 * N + 5) → zI V b j = zI m b j := fun b j a1 a2 a3 => by rw [v2 b j a1 a2 (by omega), f2 b j (by omega)]
  obtain ⟨⟨h1, h2⟩, h3', h4, ⟨h5, h6⟩, h7, h8⟩ := h
  refine ⟨⟨?_, fun f hf => ?_⟩, fun i hi => ?_, fun g hg => ?_, ⟨?_, fun i hi => ⟨?_, ?_, ?_⟩⟩, fun f hf => ?_, fun f hf => ?_⟩
  · rw [← hV, zI_ne (by omega), zI_ne (by omega), zI_eq]
  · by_cases e : f = N
    · subst e
      obtain ⟨e1, e2, e3⟩ := uK_eq (Kc := Kc) (Ac := Ac) (Lc := Lc) (C := C) (p := f)
      rw [e1, e2, e3, ← hV]
      exact (((d2.ne (by omega)).ne (by omega)).ne (by omega)).ne (by omega)
    · obtain ⟨e1, e2, e3⟩ := uK_ne (Kc := Kc) (Ac := Ac) (Lc := Lc) (C := C) e
      rw [e1, e2, e3]
      obtain ⟨a1, a2, a3⟩ := h2 f (by omega)
      refine ⟨a1, ?_, fun i hi => ⟨?_, ?_⟩⟩
      · rw [v1 _ _ (by omega) (by omega) (by omega)]; exact a2
      · rw [v1 _ _ (by omega) (by omega) (by omega)]; exact (a3 i hi).1
      · rw [v1 _ _ (by omega) (by omega) (by omega)]; exact (a3 i hi).2
  · show _ = i3 (((if i = N then N else o i : Nat) : Nat) : Int)
    by_cases e : i = N
    · rw [if_pos e, e, ← hV, zI_ne (by omega), zI_ne (by omega), zI_ne (by decide), zI_eq]
    · rw [if_neg e, v1 _ _ (by omega) (by omega) (by omega)]
      exact h3' i (by omega)
  · show _ = i3 (if g = N then r else R g) ∧ _ = b3 (if g = N then b else mv g)
    by_cases e : g = N
    · subst e
      rw [if_pos rfl, if_pos rfl, ← hV, zI_nk (by decide), zI_eq, zI_eq]
      exact ⟨rfl, rfl⟩
    · rw [if_neg e, if_neg e, v1 _ _ (by omega) (by omega) (by omega), v1 _ _ (by omega) (by omega) (by omega)]
      exact h4 g (by omega)
  · rw [v1 _ _ (by omega) (by omega) (by omega)]; exact h5
  · rw [v1 _ _ (Or.inl (by decide)) (Or.inl (by decide)) (by omega)]; exact (h6 i hi).1
  · rw [v1 _ _ (Or.inl (by decide)) (Or.inl (by decide)) (by omega)]; exact (h6 i hi).2.1
  · rw [v1 _ _ (Or.inl (by decide)) (Or.inl (by decide)) (by omega)]; exact (h6 i hi).2.2
  · by_cases e : f = N
    · subst e
      obtain ⟨a1, a2, a3, a4⟩ := t2
      unfold uT
      rw [if_pos rfl]
      refine ⟨a1, ?_, fun i hi => ?_, a4⟩
      · rw [v2 _ _ (by omega) (by omega) (by omega)]; exact a2
      · rw [v2 _ _ (by omega) (by omega) (by omega)]; exact a3 i hi
    · obtain ⟨a1, a2, a3, a4⟩ := h7 f (by omega)
      unfold uT
      rw [if_neg e]
      refine ⟨a1, ?_, fun i hi => ?_, a4⟩
      · rw [v1 _ _ (by omega) (by omega) (by omega)]; exact a2
      · rw [v1 _ _ (by omega) (by omega) (by omega)]; exact a3 i hi
  · by_cases e : f = N
    · subst e
      obtain ⟨e1, e2, e3⟩ := uK_eq (Kc := Kc) (Ac := Ac) (Lc := Lc) (C := C) (p := f)
      rw [e1, e2, e3, v2 _ _ (by omega) (by omega) (by omega), n2, h3, nmC_nms hv h40]
    · obtain ⟨e1, e2, e3⟩ := uK_ne (Kc := Kc) (Ac := Ac) (Lc := Lc) (C := C) e
      rw [e1, e2, e3, v1 _ _ (by omega) (by omega) (by omega)]
      exact h8 f (by omega)
/-- the reference after it -/
theorem r_new {m1 : Mm} {r : Int} {b : Bool} (hN : N < 20) (h : iR m N Kc Ac Lc R mv F Y E nb) (hA : ∀ i, i < C.length → zI m 206 i = i3 (C.getD i (0, 0)).1 ∧ zI m 207 i = i3 (C.getD i (0, 0)).2) (hF : FxK N (wI m 201 0 0) m1) (h210 : zI m1 210 N = i3 C.length) (hk : ∀ i, i < C.length → zI m1 211 (80 * N + i) = zI m 206 i ∧ zI m1 212 (80 * N + i) = zI m 207 i) (h40 : ∀ f, f < N → Lc f ≤ 40) :
    iR (wI (wI (wI m1 208 N (i3 r)) 209 N (b3 b)) 201 19 (i3 ((N + 1 : Nat) : Int))) (N + 1) (uK Kc N C) (uA Ac N C) (uL Lc N C.length) (fun g => if g = N then r else R g) (fun g => if g = N then b else mv g) F Y E nb := by
  generalize hV : wI (wI (wI m1 208 N (i3 r)) 209 N (b3 b)) 201 19 (i3 ((N + 1 : Nat) : Int)) = V
  have v1 : ∀ b j, b ≠ 208 → b ≠ 209 → (b ≠ 201 ∨ j ≠ 19) → zI V b j = zI m1 b j := by
    intro b j a1 a2 a3
    rw [← hV]
    by_cases e : b = 201
    · subst e
      rw [zI_nk (by omega), zI_ne (by decide), zI_ne (by decide)]
    · rw [zI_ne e, zI_ne a2, zI_ne a1]
  obtain ⟨k1, k2, k3, k4, k5⟩ := hF
  obtain ⟨⟨h1, h2⟩, h3, h4, h5⟩ := h
  have w0 : ∀ b j, b ≠ 201 → zI (wI m 201 0 0) b j = zI m b j := fun b j h => zI_ne h
  refine ⟨⟨?_, fun f hf => ?_⟩, fun g hg => ?_, ?_, fun i hi => ⟨?_, ?_, ?_⟩⟩
  · rw [← hV, zI_eq]
  · by_cases e : f = N
    · subst e
      obtain ⟨e1, e2, e3⟩ := uK_eq (Kc := Kc) (Ac := Ac) (Lc := Lc) (C := C) (p := f)
      rw [e1, e2, e3]
      refine ⟨?_, fun i hi => ⟨?_, ?_⟩⟩
      · rw [v1 _ _ (by decide) (by decide) (Or.inl (by decide))]; exact h210
      · rw [v1 _ _ (by decide) (by decide) (Or.inl (by decide)), (hk i hi).1]; exact (hA i hi).1
      · rw [v1 _ _ (by decide) (by decide) (Or.inl (by decide)), (hk i hi).2]; exact (hA i hi).2
    · obtain ⟨e1, e2, e3⟩ := uK_ne (Kc := Kc) (Ac := Ac) (Lc := Lc) (C := C) e
      rw [e1, e2, e3]
      obtain ⟨a1, a2⟩ := h2 f (by omega)
      refine ⟨?_, fun i hi => ?_⟩
      · rw [v1 _ _ (by decide) (by decide) (Or.inl (by decide)), k4 _ e, w0 _ _ (by decide)]; exact a1
      · have := k5 (80 * f + i) (by
          have := h40 f (by omega)
          omega)
        rw [v1 _ _ (by decide) (by decide) (Or.inl (by decide)), v1 _ _ (by decide) (by decide) (Or.inl (by decide)), this.1, this.2, w0 _ _ (by decide), w0 _ _ (by decide)]
        exact a2 i hi
  · show _ = i3 (if g = N then r else R g) ∧ _ = b3 (if g = N then b else mv g)
    by_cases e : g = N
    · subst e
      rw [if_pos rfl, if_pos rfl, ← hV, zI_ne (by decide), zI_ne (by decide), zI_eq, zI_ne (by decide), zI_eq]
      exact ⟨rfl, rfl⟩
    · rw [if_neg e, if_neg e, ← hV, zI_ne (by decide), zI_ne (by decide), zI_nk e, zI_ne (by decide), zI_nk e, zI_ne (by decide), k2 _ _ (by decide) (by decide) (by decide) (by decide), k2 _ _ (by decide) (by decide) (by decide) (by decide), w0 _ _ (by decide), w0 _ _ (by decide)]
      exact h3 g (by omega)
  · rw [v1 _ _ (by decide) (by decide) (by decide), k3 _ (by decide), zI_nk (by decide)]; exact h4
  · rw [v1 _ _ (by decide) (by decide) (Or.inl (by decide)), k2 _ _ (by decide) (by decide) (by decide) (by decide), w0 _ _ (by decide)]; exact (h5 i hi).1
  · rw [v1 _ _ (by decide) (by decide) (Or.inl (by decide)), k2 _ _ (by decide) (by decide) (by decide) (by decide), w0 _ _ (by decide)]; exact (h5 i hi).2.1
  · rw [v1 _ _ (by decide) (by decide) (Or.inl (by decide)), k2 _ _ (by decide) (by decide) (by decide) (by decide), w0 _ _ (by decide)]; exact (h5 i hi).2.2
end FEA
section FEB
variable {m : Mm}
/-- comps that a rule's writing leaves -/
theorem i_keep {m m1 m2 m3 M V : Mm} (h1 : RdC m m1) (h2 : ∀ b j, ¬ (25 ≤ b ∧ b ≤ 151) → (b ≠ 17 ∨ j ≠ 1) → zI m2 b j = zI m1 b j) (h3 : EQ m2 m3) (h4 : RdR m3 M) (h5 : ∀ b j, ¬ ((208 ≤ b ∧ b ≤ 215) ∨ (b = 201 ∧ (j = 0 ∨ j = 3 ∨ j = 19 ∨ j = 25))) → zI V b j = zI M b j) : SFc cT m V ∧ SFc cB m V ∧ SFc cQ m V := by
  have mid : ∀ c : Nat → Nat → Bool, (∀ b j, 25 ≤ b ∧ b ≤ 151 → c b j = false) → c 17 1 = false → SFc c m1 m2 := fun c q1 q2 b j q => h2 b j (fun e => by rw [q1 b j e] at q; exact nomatch q) (by
    by_cases e : b = 17 ∧ j = 1
    · rw [e.1, e.2, q2] at q
      exact nomatch q
    · omega)
  refine ⟨?_, ?_, ?_⟩
  · exact (((h1.c cT_s rfl).trans (mid _ (fun b j e => (lo_x e).1) rfl)).trans (h3.c.trans (h4.c cT_s rfl rfl rfl))).trans (SFc.hi h5 (fun b j e => (hi_x e).1) rfl)
  · exact (((h1.c cB_s rfl).trans (mid _ (fun b j e => (lo_x e).2.2.2.1) rfl)).trans (h3.c.trans (h4.c cB_s rfl rfl rfl))).trans (SFc.hi h5 (fun b j e => (hi_x e).2.2.2.1) rfl)
  · exact (((h1.c cQ_s rfl).trans (mid _ (fun b j e => (lo_x e).2.2.2.2) rfl)).trans (h3.c.trans (h4.c cQ_s rfl rfl rfl))).trans (SFc.hi h5 (fun b j e => (hi_x e).2.2.2.2) rfl)
/-- what was read is of no use: a throw behind a reading -/
theorem Bo.rth {c : Nat → Int} {A : Option ((Int32 ⊕ Nat) × Mm)} {G : Mm → Option (Int32 × Mm)} {m1 : Mm} {e : Nat} (hI : Inv m) (hF : RdC m m1) (hA : A = some (.inr e, m1)) (hc : 1 ≤ c e ∧ c e ≤ 3) (hG : ∀ m', EQ m1 m' → ∃ M V, G m' = some (0, V) ∧ RdR m' M ∧ RB M ∧ (∀ b j, (b ≠ 201 ∨ j ≠ 0) → zI V b j = zI M b j) ∧ V.2 = M.2 ∧ zI V 201 0 = i3 (c e)) : Bo c A G := by
  obtain ⟨t, T, N, hT, hX, hA', hB, hS⟩ := id hI
  refine ⟨.inr e, m1, hA, fun m' hE => ?_⟩
  obtain ⟨M, V, e1, hR, hRB, hV, hV2, h0⟩ := hG m' hE
  have fr : ∀ c : Nat → Nat → Bool, (∀ b j, c b j = true → Sc b j) → c 19 3 = false → c 201 0 = false → c 201 13 = false → c 201 17 = false → c 201 18 = false → SFc c m V := fun c q1 q2 q3 q4 q5 q6 => ((hF.c q1 q2).trans hE.c).trans ((hR.c q1 q4 q5 q6).trans (fun b j q => hV b j (by
    by_cases e : b = 201 ∧ j = 0
    · rw [e.1, e.2, q3] at q; exact nomatch q
    · omega)))
  have hX1 := ((hX.rc hF (RdC.rb hX.2.2.2.2 hF)).fc hE.c).rr hR hRB
  refine ⟨0, V, e1, ⟨t, T, N, hT.fc (fr cT cT_s rfl rfl rfl rfl rfl), hX1.fc (fun b j q => hV b j ?_), hA'.fc (fr cC cC_s rfl rfl rfl rfl rfl) (fr cR cR_s rfl rfl rfl rfl rfl), hB.fc (fr cB cB_s rfl rfl rfl rfl rfl), hS.fc (fr cQ cQ_s rfl rfl rfl rfl rfl) (fun b j hb => ?_) (Nat.le_refl N)⟩, fun j => ?_, h0, hc⟩
  · by_cases e : b = 201 ∧ j = 0
    · rw [e.1, e.2] at q; exact nomatch q
    · omega
  · rw [zL_of hV2, zL_of hR.2, hE.2 b j hb]
    show m1.2.2.1 b j = m.2.2.1 b j
    rw [hF.2]
  · rw [zL_of hV2, zL_of hR.2]
theorem w0_ne {M : Mm} {v : Int32} (b j : Nat) (h : b ≠ 201 ∨ j ≠ 0) : zI (wI M 201 0 v) b j = zI M b j := by
  by_cases e : b = 201
  · subst e; exact zI_nk (by omega)
  · exact zI_ne e
end FEB
