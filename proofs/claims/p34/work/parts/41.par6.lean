section PAR6
variable {m : Mm} {T : List Int}
theorem pB_assoc {α β γ : Type} {x : Rd α} {f : α → List Int → Rd β} {g : β → List Int → Rd γ} : pB (pB x f) g = pB x fun a r => pB (f a r) g := by
  cases x with
  | inl s => rfl
  | inr z => rfl
def brS (u n : Nat) (r : List Int) : Rd Cx :=
  pB (pLog true u n r) fun a r1 => pB (pChr 123 r1) fun _ r2 => pB (pStp u (n + a.length + 1) r2) fun b r3 => pB (pChr 125 r3) fun _ r4 => match r4 with
        | [] => .inr (a ++ [(19, ((n + a.length + 1 + b.length : Nat) : Int))] ++ b, [])
        | o :: r5 => if o = 123 then
            pB (pStp u (n + a.length + 1 + b.length + 1) r5) fun d r6 => pB (pChr 125 r6) fun _ r7 =>
              .inr (a ++ [(19, ((n + a.length + 1 + b.length + 1 : Nat) : Int))] ++ b ++ [(18, ((n + a.length + 1 + b.length + 1 + d.length : Nat) : Int))] ++ d, r7)
          else .inr (a ++ [(19, ((n + a.length + 1 + b.length : Nat) : Int))] ++ b, o :: r5)
theorem br_ne {u n : Nat} {r r1 : List Int} {a : Cx} (h : brS u n r = .inr (a, r1)) : 1 ≤ a.length := by
  unfold brS at h
  obtain ⟨a1, q1, -, z2⟩ := pB_inv h
  obtain ⟨a2, q2, -, z5⟩ := pB_inv z2
  obtain ⟨a3, q3, -, z8⟩ := pB_inv z5
  obtain ⟨a4, q4, -, z10⟩ := pB_inv z8
  cases q4 with
  | nil =>
    cases z10
    simp
    omega
  | cons o r5 =>
    by_cases c : o = 123
    · simp only [if_pos c] at z10
      obtain ⟨a5, q5, -, z11⟩ := pB_inv z10
      obtain ⟨a6, q6, -, z12⟩ := pB_inv z11
      cases z12
      simp
      omega
    · simp only [if_neg c] at z10
      cases z10
      simp
      omega
def dyS (c : Int) (r : List Int) : Rd Cx := pB (pDays (r.length + 2) 0 (c :: r)) fun σ r1 => .inr (cDays σ, r1)
theorem pStp_cons (u n : Nat) (c : Int) (r : List Int) : pStp (u + 1) n (c :: r) = if c = 43 ∨ c = 45 then pB (dyS c r) fun a r1 => pB (pStp u (n + a.length) r1) fun b r2 => .inr (a ++ b, r2)
    else if c = 63 then pB (brS u n r) fun a r1 => pB (pStp u (n + a.length) r1) fun b r2 => .inr (a ++ b, r2)
    else if mvK c = 0 then .inr ([], c :: r)
    else pB (pPart (mvK c) (mvF c) r) fun a r1 => pB (pStp u (n + a.length) r1) fun b r2 => .inr (a ++ b, r2) := by
  show (if c = 43 ∨ c = 45 then _ else if c = 63 then _ else if mvK c = 0 then _ else _) = _
  by_cases h1 : c = 43 ∨ c = 45
  · rw [if_pos h1, if_pos h1]
    unfold dyS
    rw [pB_assoc]
    rfl
  · rw [if_neg h1, if_neg h1]
    by_cases h2 : c = 63
    · rw [if_pos h2, if_pos h2]
      rfl
    · rw [if_neg h2, if_neg h2]
      by_cases h3 : mvK c = 0
      · rw [if_pos h3, if_pos h3]
      · rw [if_neg h3, if_neg h3]
        cases e : pPart (mvK c) (mvF c) r with
        | inl q => rfl
        | inr z =>
          obtain ⟨a, r1⟩ := z
          obtain ⟨v, e2, -⟩ := part_ne e
          rw [e2]
          rfl
def mvI (c : Int) : Nat := if c = 62 ∨ c = 60 ∨ c = 93 ∨ c = 91 then 4 else 5
theorem mv_ok {c : Int} (h : ¬ mvK c = 0) : (mvK c, mvI c) ∈ kdS ∧ fS (mvI c) = mvF c := by
  obtain ⟨e0, e1, e2, e3, e4, e5, e6, e7, e8⟩ := fS_eq
  unfold mvK at h
  have : c = 62 ∨ c = 60 ∨ c = 93 ∨ c = 91 ∨ c = 79 ∨ c = 81 ∨ c = 88 := by
    by_cases q1 : c = 62
    · omega
    by_cases q2 : c = 60
    · omega
    by_cases q3 : c = 93
    · omega
    by_cases q4 : c = 91
    · omega
    by_cases q5 : c = 79
    · omega
    by_cases q6 : c = 81
    · omega
    by_cases q7 : c = 88
    · omega
    simp [q1, q2, q3, q4, q5, q6, q7] at h
  rcases this with rfl | rfl | rfl | rfl | rfl | rfl | rfl
  · exact ⟨by decide, e4⟩
  · exact ⟨by decide, e4⟩
  · exact ⟨by decide, e4⟩
  · exact ⟨by decide, e4⟩
  · exact ⟨by decide, e5⟩
  · exact ⟨by decide, e5⟩
  · exact ⟨by decide, e5⟩
theorem par_days (h : PT m T) {c : Int} {r : List Int} (hs : Sf T (c :: r)) {n N : Nat} {vv : Int} {FK FA : Nat → Int32} (hn : (n : Int) ≤ pl T (c :: r)) (hc : c = 43 ∨ c = 45) :
    PX m T n N FK FA (f_Par_takesDays (pM m (i3 (pl T (c :: r))) (i3 vv) FK FA (i3 n) (i3 N))) (dyS c r) := by
  have hl := hs.le
  have h40 := h.2.1
  have q := par_dloop (FK := FK) (FA := FA) (n := i3 n) (nm := i3 N) h (r.length + 2) 0 zFu 0 vv (c :: r) (by simp) (by unfold zFu; omega) (pl_bd hs h40).1 (by omega) hs
  rw [show (((0 : Nat) : Int)) = 0 from rfl] at q
  rw [e_Par_takesDays, i3_z]
  unfold dyS
  have hok := ok_days1 (u := r.length + 1) (r := r) hc
  cases e : pDays (r.length + 2) 0 (c :: r) with
  | inl q' =>
    rw [e] at q
    obtain ⟨v', q⟩ := q
    rw [q]
    exact ⟨v', FK, FA, _, _, rfl⟩
  | inr z =>
    obtain ⟨σ, r1⟩ := z
    rw [e] at q
    obtain ⟨hr, hσ, v', q⟩ := q
    have hok : r1.length + 1 ≤ (c :: r).length := by
      have h9 := ok_days1 (u := r.length + 1) (r := r) hc
      rw [e] at h9
      unfold okR at h9
      simp only at h9
      omega
    have hlt : (n : Int) < pl T r1 := by
      have : pl T (c :: r) < pl T r1 := by unfold pl; omega
      omega
    have hb1 := pl_bd hr h40
    rw [q, pB_inr rfl]
    unfold cFin cDays
    by_cases h0 : σ = 0
    · rw [if_pos h0, if_pos h0]
      refine ⟨hr, v', FK, FA, ?_, fun i _ => ⟨rfl, rfl⟩, fun i hi => absurd hi (Nat.not_lt_zero i)⟩
      rw [show nmC [] = 0 from rfl, Nat.or_zero]
      rfl
    · rw [if_neg h0, if_neg h0, cod_add (by omega), zBI_some, if_neg (by decide)]
      refine ⟨hr, v', up FK n (i3 5), up FA n (i3 (5000 + σ)), ?_, fun i hi => ⟨up_ne _ _ (by omega), up_ne _ _ (by omega)⟩, CA.one⟩
      rw [show nmC [((5 : Int), 5000 + σ)] = 0 from by simp [nmC, cNm], Nat.or_zero]
      rfl
/-- a step, and the loop behind it -/
theorem step_cat {n N : Nat} {FK FA : Nat → Int32} {res : Option (Int32 × Mm)} {Ra : Rd Cx} {R : Int32 → Int32 → Mm → Option (Int32 × Mm)} {x : Int32} {G : Nat → List Int → Rd Cx} (hq : PX m T n N FK FA res Ra) (h0 : ∀ m', R (i3 0) x m' = some (i3 0, m'))
    (hk : ∀ (a : Cx) (r : List Int) (v' : Int) (FK' FA' : Nat → Int32), Ra = .inr (a, r) → Sf T r → PX m T (n + a.length) (N ||| nmC a) FK' FA' (R (i3 1) x (pM m (i3 (pl T r)) (i3 v') FK' FA' (i3 ((n + a.length : Nat) : Int)) (i3 ((N ||| nmC a : Nat) : Int)))) (G (n + a.length) r)) :
    PX m T n N FK FA (zBI res fun v m => R v x m) (pB Ra fun a r1 => pB (G (n + a.length) r1) fun b r2 => .inr (a ++ b, r2)) := by
  cases Ra with
  | inl q =>
    obtain ⟨v', FK', FA', n', nm', e⟩ := hq
    rw [e, zBI_some, h0]
    exact ⟨v', FK', FA', n', nm', rfl⟩
  | inr z =>
    obtain ⟨a, r⟩ := z
    obtain ⟨hr, v', FK', FA', e, e1, e2⟩ := hq
    rw [e, zBI_some, pB_inr rfl]
    have q := hk a r v' FK' FA' rfl hr
    cases e5 : G (n + a.length) r with
    | inl q' =>
      rw [e5] at q
      exact q
    | inr z =>
      obtain ⟨b, r2⟩ := z
      rw [e5] at q
      obtain ⟨hr2, w', FK2, FA2, f1, f2, f3⟩ := q
      rw [f1, pB_inr rfl]
      refine ⟨hr2, w', FK2, FA2, ?_, fun i hi => ?_, (CA.lift e2).app f2 f3⟩
      · rw [nmC_app, ← Nat.or_assoc, List.length_append, Nat.add_assoc]
      · rw [(f2 i (by omega)).1, (f2 i (by omega)).2]
        exact e1 i hi
set_option maxHeartbeats 4000000 in
theorem stp_body (h : PT m T) {s : List Int} (hs : Sf T s) {d : Int} {i : Nat} (hi : (i : Int) ≤ 40) (hd : 0 ≤ d ∧ d ≤ 41) {v : Int32} {FK FA : Nat → Int32} {n nm : Int32} (C : Int32 → Mm → Option (Int32 × Mm)) (R : Int32 → Int32 → Mm → Option (Int32 × Mm)) :
    l_g_Par_takesSteps_0 C (i3 d) R (i3 1) (i3 i) (pM m (i3 (pl T s)) v FK FA n nm) = if (40 : Int) ≤ i then some (i3 1, pM m (i3 (pl T s)) v FK FA n nm)
      else if s.headD 0 = 43 ∨ s.headD 0 = 45 then (zBI (f_Par_takesDays (pM m (i3 (pl T s)) v FK FA n nm)) fun v m => R v (i3 ((i + 1 : Nat) : Int)) m)
      else if s.headD 0 = 63 then (zBI (C (i3 (d + 1)) (pM m (i3 (pl T s)) v FK FA n nm)) fun v m => R v (i3 ((i + 1 : Nat) : Int)) m)
      else if mvK (s.headD 0) = 0 then some (i3 1, pM m (i3 (pl T s)) v FK FA n nm)
      else (zBI (f_Par_takesPart (i3 (mvK (s.headD 0))) (mvI (s.headD 0)) (pM m (i3 (pl T s)) v FK FA n nm)) fun v m => R v (i3 ((i + 1 : Nat) : Int)) m) := by
  have hh := hd_bd h hs
  have hi1 : i3 (i : Int) + i3 1 = i3 ((i + 1 : Nat) : Int) := by rw [i3_add]; rfl
  unfold l_g_Par_takesSteps_0
  simp only [zLet, zGR, pM_R, h.1, show zT 17 = 8 from by decide +kernel, if_true, pM_p, par_at h hs, zBP_some, i3_lit, hi1, i3_add]
  rw [it_le ⟨by decide, by decide⟩ ⟨by omega, by omega⟩, if_pos (show zBo (i3 1) by decide), if_neg (show ¬ i3 1 = i3 0 by decide)]
  by_cases c0 : (40 : Int) ≤ i
  · rw [if_pos c0, if_pos c0]
  rw [if_neg c0, if_neg c0]
  generalize s.headD 0 = c at hh ⊢
  simp (maxSteps := 3000000) (disch := omega) only [i3_eq]
  by_cases h43 : c = 43
  · subst h43; rfl
  by_cases h45 : c = 45
  · subst h45; rfl
  by_cases h60 : c = 60
  · subst h60; rfl
  by_cases h62 : c = 62
  · subst h62; rfl
  by_cases h63 : c = 63
  · subst h63; rfl
  by_cases h79 : c = 79
  · subst h79; rfl
  by_cases h81 : c = 81
  · subst h81; rfl
  by_cases h88 : c = 88
  · subst h88; rfl
  by_cases h91 : c = 91
  · subst h91; rfl
  by_cases h93 : c = 93
  · subst h93; rfl
  have e : mvK c = 0 := by unfold mvK; simp only [if_neg h60, if_neg h62, if_neg h79, if_neg h81, if_neg h88, if_neg h91, if_neg h93]
  simp only [if_neg h43, if_neg h45, if_neg h60, if_neg h62, if_neg h63, if_neg h79, if_neg h81, if_neg h88, if_neg h91, if_neg h93, if_neg (show ¬ (c = 43 ∨ c = 45) by omega), if_pos e]
theorem stp_stop {C : Int32 → Mm → Option (Int32 × Mm)} {p1 x : Int32} {f : Nat} (m' : Mm) : zLp2 (l_g_Par_takesSteps_0 C p1) (f + 1) (i3 0) x m' = some (i3 0, m') := by
  show l_g_Par_takesSteps_0 C p1 (zLp2 (l_g_Par_takesSteps_0 C p1) f) (i3 0) x m' = _
  generalize zLp2 (l_g_Par_takesSteps_0 C p1) f = R
  unfold l_g_Par_takesSteps_0
  rw [if_pos (show zBo (i3 0) by decide), if_pos (show i3 0 = 0 by decide)]
  split <;> rfl
set_option maxHeartbeats 4000000 in
theorem br_body (h : PT m T) {c : Int} {r : List Int} (hs : Sf T (c :: r)) {v : Int32} {FK FA : Nat → Int32} {n nm : Int32} (p : Int32) (L S : Int32 → Mm → Option (Int32 × Mm)) :
    g_Par_takesBranch L S p (pM m (i3 (pl T (c :: r))) v FK FA n nm) = zBI (L p (pM m (i3 (pl T r)) v FK FA n nm)) fun v3 m2 => if v3 = i3 0 then some (i3 0, m2) else
      zBP (f_Cod_size 20 m2) fun v5 => zBI (f_Cod_add 20 (i3 19) (i3 0) m2) fun v7 m6 => if v7 = i3 0 then some (i3 0, m6) else
      zBI (f_Par_takes (i3 123) m6) fun v10 m9 => if v10 = i3 0 then some (i3 0, m9) else
      zBI (S p m9) fun v13 m12 => if v13 = i3 0 then some (i3 0, m12) else
      zBI (f_Par_takes (i3 125) m12) fun v16 m15 => if v16 = i3 0 then some (i3 0, m15) else
      zBI (f_Par_takes (i3 123) m15) fun v19 m18 => if v19 = i3 0 then (zBI (f_Cod_landHere 20 v5 m18) fun v40 m39 => if zBo v40 then some (v40, m39) else none) else
      zBP (f_Cod_size 20 m18) fun v21 => zBI (f_Cod_add 20 (i3 18) (i3 0) m18) fun v23 m22 => if v23 = i3 0 then some (i3 0, m22) else
      zBI (f_Cod_landHere 20 v5 m22) fun v28 m27 => if v28 = i3 0 then some (i3 0, m27) else
      zBI (S p m27) fun v31 m30 => if v31 = i3 0 then some (i3 0, m30) else
      zBI (f_Par_takes (i3 125) m30) fun v34 m33 => if v34 = i3 0 then some (i3 0, m33) else
      zBI (f_Cod_landHere 20 v21 m33) fun v37 m36 => if v37 = i3 0 then some (i3 0, m36) else some (i3 1, m36) := by
  unfold g_Par_takesBranch
  simp only [zLet, pM_p, i3_lit, i3_add, pM_wp, hs.tl.2]
theorem sz_pM {p v : Int32} {FK FA : Nat → Int32} {n nm : Int32} : f_Cod_size 20 (pM m p v FK FA n nm) = some n := by unfold f_Cod_size; rw [pM_n]
theorem chr_no {x : Int} {s : List Int} (h : s.headD 0 ≠ x) : pChr x s = .inl s := by
  cases s with
  | nil => rfl
  | cons c r => rw [pChr_cons, if_neg (show ¬ c = x from h)]
theorem hd_cons {s : List Int} {x : Int} (h : s.headD 0 = x) (hx : x ≠ 0) : ∃ r, s = x :: r := by
  cases s with
  | nil => exact absurd h.symm hx
  | cons c r => exact ⟨r, by rw [show c = x from h]⟩
/-- a branch, when the steps within are as told -/
theorem par_br (h : PT m T) (hrl : zI m 19 4 = b3 true) {u f n N : Nat} {d vv : Int} {c : Int} {r : List Int} {FK FA : Nat → Int32} (h1 : r.length < u) (h2 : 2 * r.length + 2 ≤ f) (h3 : 0 ≤ d ∧ d + r.length ≤ 41) (h4 : (n : Int) ≤ pl T (c :: r)) (hs : Sf T (c :: r)) (S : Int32 → Mm → Option (Int32 × Mm))
    (hS : ∀ (n N : Nat) (vv : Int) (s : List Int) (FK FA : Nat → Int32), s.length < r.length → (n : Int) ≤ pl T s → Sf T s → PX m T n N FK FA (S (i3 d) (pM m (i3 (pl T s)) (i3 vv) FK FA (i3 n) (i3 N))) (pStp u n s)) :
    PX m T n N FK FA (g_Par_takesBranch (zP_Par f).2.2.1 S (i3 d) (pM m (i3 (pl T (c :: r))) (i3 vv) FK FA (i3 n) (i3 N))) (brS u n r) := by
  rw [br_body h hs]
  have htl := hs.tl
  have h40 := h.2.1
  have hbr := pl_bd htl.1 h40
  have q := par_log h hrl u f n N d vv r FK FA h1 h2 h3 (by omega) htl.1
  unfold brS
  cases e : pLog true u n r with
  | inl q' =>
    rw [e] at q
    obtain ⟨v', FK', FA', n', nm', e2⟩ := q
    rw [e2, zBI_some, if_pos rfl]
    exact ⟨v', FK', FA', n', nm', rfl⟩
  | inr z =>
    obtain ⟨a, r1⟩ := z
    have hlt := log_lt e
    rw [e] at q
    obtain ⟨hr1, v', FK', FA', e2, e3, e4⟩ := q
    have hb1 := pl_bd hr1 h40
    have hp1 : pl T r + a.length ≤ pl T r1 := by unfold pl; omega
    rw [e2, zBI_some, if_neg (by decide), sz_pM, zBP_some, cod_add (by omega), zBI_some, if_neg (by decide), pB_inr rfl]
    have hA1 : CA (up FK' (n + a.length) (i3 19)) (up FA' (n + a.length) (i3 0)) n (a ++ [(19, 0)]) := (CA.lift e4).app (fun i hi => ⟨up_ne _ _ (by omega), up_ne _ _ (by omega)⟩) CA.one
    by_cases c1 : r1.headD 0 = 123
    · obtain ⟨r2, rfl⟩ := hd_cons c1 (by decide)
      have ht2 := hr1.tl
      have hl2 : (123 :: r2).length = r2.length + 1 := rfl
      have hb2 := pl_bd ht2.1 h40
      rw [tk_ok h hr1 ⟨by decide, by decide⟩, zBI_some, if_neg (by decide), pB_inr (by rw [pChr_cons, if_pos rfl])]
      have q2 := hS (n + a.length + 1) (N ||| nmC a) v' r2 (up FK' (n + a.length) (i3 19)) (up FA' (n + a.length) (i3 0)) (by omega) (by omega) ht2.1
      have hok := ok_stp u (n + a.length + 1) r2
      cases e5 : pStp u (n + a.length + 1) r2 with
      | inl q' =>
        rw [e5] at q2
        obtain ⟨w', FK2, FA2, n2, nm2, e6⟩ := q2
        rw [e6, zBI_some, if_pos rfl]
        exact ⟨w', FK2, FA2, n2, nm2, rfl⟩
      | inr z =>
        obtain ⟨b, r3⟩ := z
        rw [e5] at q2 hok
        unfold okR at hok
        simp only at hok
        obtain ⟨hr3, w', FK2, FA2, e6, e7, e8⟩ := q2
        have hb3 := pl_bd hr3 h40
        have hp3 : pl T r2 + b.length ≤ pl T r3 := by unfold pl; omega
        rw [e6, zBI_some, if_neg (by decide), pB_inr rfl]
        have hA2 : CA FK2 FA2 n (a ++ [(19, 0)] ++ b) := by
          refine hA1.app (fun i hi => e7 i (by simp at hi; omega)) ?_
          have : n + (a ++ [((19 : Int), (0 : Int))]).length = n + a.length + 1 := by simp; omega
          rw [this]
          exact e8
        have hlow : ∀ i, i < n → FK2 i = FK i ∧ FA2 i = FA i := fun i hi => by
          obtain ⟨z1, z2⟩ := e7 i (by omega)
          rw [up_ne _ _ (by omega)] at z1 z2
          rw [z1, z2]
          exact e3 i hi
        by_cases c3 : r3.headD 0 = 125
        · obtain ⟨r4, rfl⟩ := hd_cons c3 (by decide)
          have ht4 := hr3.tl
          have hb4 := pl_bd ht4.1 h40
          have hl4 : (125 :: r4).length = r4.length + 1 := rfl
          rw [tk_ok h hr3 ⟨by decide, by decide⟩, zBI_some, if_neg (by decide), pB_inr (by rw [pChr_cons, if_pos rfl])]
          have hel : ∀ b' : Cx, (a ++ [((19 : Int), ((n + a.length + 1 + b.length : Nat) : Int))] ++ b).length = a.length + 1 + b.length := fun _ => by simp; omega
          have hnm : ∀ x : Int, nmC (a ++ [((19 : Int), x)] ++ b) = nmC a ||| nmC b := fun x => by
            rw [nmC_app, nmC_app, show nmC [((19 : Int), x)] = 0 from by simp [nmC, cNm], Nat.or_zero]
          -- without an else
          have noelse : r4.headD 0 ≠ 123 → PX m T n N FK FA (zBI (f_Par_takes (i3 123) (pM m (i3 (pl T r4)) (i3 w') FK2 FA2 (i3 ((n + a.length + 1 + b.length : Nat) : Int)) (i3 ((N ||| nmC a ||| nmC b : Nat) : Int)))) fun v19 m18 => if v19 = i3 0 then (zBI (f_Cod_landHere 20 (i3 ((n + a.length : Nat) : Int)) m18) fun v40 m39 => if zBo v40 then some (v40, m39) else none) else
      zBP (f_Cod_size 20 m18) fun v21 => zBI (f_Cod_add 20 (i3 18) (i3 0) m18) fun v23 m22 => if v23 = i3 0 then some (i3 0, m22) else
      zBI (f_Cod_landHere 20 (i3 ((n + a.length : Nat) : Int)) m22) fun v28 m27 => if v28 = i3 0 then some (i3 0, m27) else
      zBI (S (i3 d) m27) fun v31 m30 => if v31 = i3 0 then some (i3 0, m30) else
      zBI (f_Par_takes (i3 125) m30) fun v34 m33 => if v34 = i3 0 then some (i3 0, m33) else
      zBI (f_Cod_landHere 20 v21 m33) fun v37 m36 => if v37 = i3 0 then some (i3 0, m36) else some (i3 1, m36)) (.inr (a ++ [(19, ((n + a.length + 1 + b.length : Nat) : Int))] ++ b, r4)) := by
            intro hne
            rw [tk_no h ht4.1 ⟨by decide, by decide⟩ hne, zBI_some, if_pos rfl, cod_land (by omega) (by omega), zBI_some, if_pos (show zBo (i3 1) by decide)]
            refine ⟨ht4.1, w', FK2, up FA2 (n + a.length) (i3 ((n + a.length + 1 + b.length : Nat) : Int)), ?_, fun i hi => ?_, hA2.set⟩
            · rw [hel b, hnm, ← Nat.or_assoc, show n + (a.length + 1 + b.length) = n + a.length + 1 + b.length by omega]
            · rw [up_ne _ _ (by omega)]; exact hlow i hi
          cases r4 with
          | nil => exact noelse (by decide)
          | cons o r5 =>
            show PX m T n N FK FA _ (if o = 123 then _ else _)
            by_cases c5 : o = 123
            · rw [if_pos c5]
              subst c5
              have ht5 := ht4.1.tl
              have hb5 := pl_bd ht5.1 h40
              have hl5 : (123 :: r5).length = r5.length + 1 := rfl
              rw [tk_ok h ht4.1 ⟨by decide, by decide⟩, zBI_some, if_neg (by decide), sz_pM, zBP_some, cod_add (by omega), zBI_some, if_neg (by decide), cod_land (by omega) (by omega), zBI_some, if_neg (by decide)]
              have q3 := hS (n + a.length + 1 + b.length + 1) (N ||| nmC a ||| nmC b) w' r5 (up FK2 (n + a.length + 1 + b.length) (i3 18)) (up (up FA2 (n + a.length + 1 + b.length) (i3 0)) (n + a.length) (i3 ((n + a.length + 1 + b.length + 1 : Nat) : Int))) (by omega) (by omega) ht5.1
              have hok2 := ok_stp u (n + a.length + 1 + b.length + 1) r5
              cases e9 : pStp u (n + a.length + 1 + b.length + 1) r5 with
              | inl q' =>
                rw [e9] at q3
                obtain ⟨x', FK3, FA3, n3, nm3, e10⟩ := q3
                rw [e10, zBI_some, if_pos rfl]
                exact ⟨x', FK3, FA3, n3, nm3, rfl⟩
              | inr z =>
                obtain ⟨dd, r6⟩ := z
                rw [e9] at q3 hok2
                unfold okR at hok2
                simp only at hok2
                obtain ⟨hr6, x', FK3, FA3, e10, e11, e12⟩ := q3
                have hb6 := pl_bd hr6 h40
                have hp6 : pl T r5 + dd.length ≤ pl T r6 := by unfold pl; omega
                rw [e10, zBI_some, if_neg (by decide), pB_inr rfl]
                by_cases c6 : r6.headD 0 = 125
                · obtain ⟨r7, rfl⟩ := hd_cons c6 (by decide)
                  rw [tk_ok h hr6 ⟨by decide, by decide⟩, zBI_some, if_neg (by decide), cod_land (by omega) (by omega), zBI_some, if_neg (by decide), pB_inr (by rw [pChr_cons, if_pos rfl])]
                  have hlen2 : (a ++ [((19 : Int), ((n + a.length + 1 + b.length + 1 : Nat) : Int))] ++ b).length = a.length + 1 + b.length := by simp; omega
                  have hA3 : CA (up FK2 (n + a.length + 1 + b.length) (i3 18)) (up (up FA2 (n + a.length + 1 + b.length) (i3 0)) (n + a.length) (i3 ((n + a.length + 1 + b.length + 1 : Nat) : Int))) n (a ++ [(19, ((n + a.length + 1 + b.length + 1 : Nat) : Int))] ++ b ++ [(18, 0)]) := by
                    have s1 : CA (up FK2 (n + a.length + 1 + b.length) (i3 18)) (up FA2 (n + a.length + 1 + b.length) (i3 0)) n (a ++ [(19, 0)] ++ (b ++ [(18, 0)])) := by
                      rw [← List.append_assoc]
                      refine hA2.app (fun i hi => ?_) ?_
                      · have : (a ++ [((19 : Int), (0 : Int))] ++ b).length = a.length + 1 + b.length := by simp; omega
                        exact ⟨up_ne _ _ (by omega), up_ne _ _ (by omega)⟩
                      · have : n + (a ++ [((19 : Int), (0 : Int))] ++ b).length = n + a.length + 1 + b.length := by simp; omega
                        rw [this]
                        exact CA.one
                    have := s1.set (x := ((n + a.length + 1 + b.length + 1 : Nat) : Int))
                    rw [← List.append_assoc] at this
                    exact this
                  have hA4 : CA FK3 FA3 n ((a ++ [(19, ((n + a.length + 1 + b.length + 1 : Nat) : Int))] ++ b) ++ [(18, 0)] ++ dd) := by
                    have hl9 : ((a ++ [((19 : Int), ((n + a.length + 1 + b.length + 1 : Nat) : Int))] ++ b) ++ [((18 : Int), (0 : Int))]).length = a.length + 1 + b.length + 1 := by simp; omega
                    refine hA3.app (fun i hi => e11 i (by omega)) ?_
                    rw [hl9, show n + (a.length + 1 + b.length + 1) = n + a.length + 1 + b.length + 1 by omega]
                    exact e12
                  have hA5 := hA4.set (x := ((n + a.length + 1 + b.length + 1 + dd.length : Nat) : Int))
                  rw [hlen2, show n + (a.length + 1 + b.length) = n + a.length + 1 + b.length by omega] at hA5
                  refine ⟨hr6.tl.1, x', FK3, up FA3 (n + a.length + 1 + b.length) (i3 ((n + a.length + 1 + b.length + 1 + dd.length : Nat) : Int)), ?_, fun i hi => ?_, hA5⟩
                  · have l1 : (a ++ [((19 : Int), ((n + a.length + 1 + b.length + 1 : Nat) : Int))] ++ b ++ [((18 : Int), ((n + a.length + 1 + b.length + 1 + dd.length : Nat) : Int))] ++ dd).length = a.length + 1 + b.length + 1 + dd.length := by simp; omega
                    have l2 : nmC (a ++ [((19 : Int), ((n + a.length + 1 + b.length + 1 : Nat) : Int))] ++ b ++ [((18 : Int), ((n + a.length + 1 + b.length + 1 + dd.length : Nat) : Int))] ++ dd) = nmC a ||| nmC b ||| nmC dd := by
                      rw [nmC_app, nmC_app, hnm, show nmC [((18 : Int), ((n + a.length + 1 + b.length + 1 + dd.length : Nat) : Int))] = 0 from by simp [nmC, cNm], Nat.or_zero]
                    rw [l1, l2, show n + (a.length + 1 + b.length + 1 + dd.length) = n + a.length + 1 + b.length + 1 + dd.length by omega, Nat.or_assoc N, Nat.or_assoc N, Nat.or_assoc (nmC a)]
                  · rw [up_ne _ _ (by omega)]
                    obtain ⟨z1, z2⟩ := e11 i (by omega)
                    rw [up_ne _ _ (by omega)] at z1
                    rw [up_ne _ _ (by omega), up_ne _ _ (by omega)] at z2
                    rw [z1, z2]
                    exact hlow i hi
                · rw [tk_no h hr6 ⟨by decide, by decide⟩ c6, zBI_some, if_pos rfl, pB_inl (chr_no c6)]
                  exact ⟨i3 x', FK3, FA3, _, _, rfl⟩
            · rw [if_neg c5]
              exact noelse c5
        · rw [tk_no h hr3 ⟨by decide, by decide⟩ c3, zBI_some, if_pos rfl, pB_inl (chr_no c3)]
          exact ⟨i3 w', FK2, FA2, _, _, rfl⟩
    · rw [tk_no h hr1 ⟨by decide, by decide⟩ c1, zBI_some, if_pos rfl, pB_inl (chr_no c1)]
      exact ⟨i3 v', _, _, _, _, rfl⟩
theorem stp_enter {C : Int32 → Mm → Option (Int32 × Mm)} {d : Int} (hd : 0 ≤ d ∧ d ≤ 41) (M : Mm) : g_Par_takesSteps C (i3 d) M = zLp2 (l_g_Par_takesSteps_0 C (i3 d)) zFu (i3 1) (i3 0) M := by
  rw [e_g_Par_takesSteps]
  simp only [zLet]
  rw [if_neg (show ¬ (41 : Int32) < i3 d by rw [show (41 : Int32) = i3 41 from rfl, i3_lt ⟨by decide, by decide⟩ ⟨by omega, by omega⟩]; omega), i3_o, i3_z]
theorem par_sloop (h : PT m T) (hrl : zI m 19 4 = b3 true) : ∀ (u f fuel n N i : Nat) (d vv : Int) (s : List Int) (FK FA : Nat → Int32), s.length < u → 2 * s.length + 2 ≤ f → s.length + 2 ≤ fuel → (0 ≤ d ∧ d + s.length ≤ 41) → (n : Int) ≤ pl T s → (i : Int) ≤ pl T s → Sf T s →
    PX m T n N FK FA (zLp2 (l_g_Par_takesSteps_0 (zP_Par f).2.1 (i3 d)) fuel (i3 1) (i3 i) (pM m (i3 (pl T s)) (i3 vv) FK FA (i3 n) (i3 N))) (pStp u n s) := by
  intro u
  induction u with
  | zero => intro f fuel n N i d vv s FK FA h1; exact absurd h1 (Nat.not_lt_zero _)
  | succ u ih =>
    intro f fuel n N i d vv s FK FA h1 h2 h3 h4 h5 h6 hs
    obtain ⟨g, rfl⟩ : ∃ g, fuel = g + 1 := ⟨fuel - 1, by omega⟩
    have h40 := h.2.1
    have hb := pl_bd hs h40
    show PX m T n N FK FA (l_g_Par_takesSteps_0 (zP_Par f).2.1 (i3 d) (zLp2 (l_g_Par_takesSteps_0 (zP_Par f).2.1 (i3 d)) g) (i3 1) (i3 i) _) _
    rw [stp_body h hs (by omega) ⟨by omega, by omega⟩]
    have triv : ∀ r : List Int, r = s → PX m T n N FK FA (some (i3 1, pM m (i3 (pl T s)) (i3 vv) FK FA (i3 n) (i3 N))) (.inr ([], r)) := fun r hr => by
      subst hr
      refine ⟨hs, vv, FK, FA, ?_, fun i _ => ⟨rfl, rfl⟩, fun i hi => absurd hi (Nat.not_lt_zero i)⟩
      rw [show nmC [] = 0 from rfl, Nat.or_zero]
      rfl
    cases s with
    | nil =>
      show PX m T n N FK FA _ (.inr ([], []))
      split
      · exact triv [] rfl
      · rw [if_neg (by decide), if_neg (by decide), if_pos (by decide)]
        exact triv [] rfl
    | cons c r =>
      have hl : (c :: r).length = r.length + 1 := rfl
      have htl := hs.tl
      have hbr := pl_bd htl.1 h40
      rw [if_neg (by omega), pStp_cons]
      show PX m T n N FK FA (if c = 43 ∨ c = 45 then _ else if c = 63 then _ else if mvK c = 0 then _ else _) _
      obtain ⟨g1, rfl⟩ : ∃ g1, g = g1 + 1 := ⟨g - 1, by omega⟩
      have more : ∀ (a : Cx) (r1 : List Int) (v' : Int) (FK' FA' : Nat → Int32), r1.length + a.length ≤ (c :: r).length → r1.length < (c :: r).length → Sf T r1 → PX m T (n + a.length) (N ||| nmC a) FK' FA' (zLp2 (l_g_Par_takesSteps_0 (zP_Par f).2.1 (i3 d)) (g1 + 1) (i3 1) (i3 ((i + 1 : Nat) : Int)) (pM m (i3 (pl T r1)) (i3 v') FK' FA' (i3 ((n + a.length : Nat) : Int)) (i3 ((N ||| nmC a : Nat) : Int)))) (pStp u (n + a.length) r1) := by
        intro a r1 v' FK' FA' k1 k2 k3
        have hp : pl T (c :: r) + a.length ≤ pl T r1 ∧ pl T (c :: r) + 1 ≤ pl T r1 := by unfold pl; omega
        exact ih f (g1 + 1) (n + a.length) (N ||| nmC a) (i + 1) d v' r1 FK' FA' (by omega) (by omega) (by omega) (by omega) (by omega) (by omega) k3
      by_cases c1 : c = 43 ∨ c = 45
      · rw [if_pos c1, if_pos c1]
        refine step_cat (par_days h hs h5 c1) (fun m' => stp_stop m') (fun a r1 v' FK' FA' e hr => more a r1 v' FK' FA' ?_ ?_ hr)
        all_goals
          unfold dyS at e
          obtain ⟨σ, r2, e2, e3⟩ := pB_inv e
          cases e3
          have h9 := ok_days1 (u := r.length + 1) (r := r) c1
          rw [e2] at h9
          unfold okR at h9
          simp only at h9
          have := cDays_len σ
          omega
      rw [if_neg c1, if_neg c1]
      by_cases c2 : c = 63
      · rw [if_pos c2, if_pos c2]
        obtain ⟨f1, rfl⟩ : ∃ f1, f = f1 + 1 := ⟨f - 1, by omega⟩
        obtain ⟨f2, rfl⟩ : ∃ f2, f1 = f2 + 1 := ⟨f1 - 1, by omega⟩
        rw [zP_br]
        refine step_cat (par_br h hrl (u := u) (by omega) (by omega) ⟨by omega, by omega⟩ h5 hs _ (fun n' N' vv' s' FK' FA' k1 k2 k3 => ?_)) (fun m' => stp_stop m') (fun a r1 v' FK' FA' e hr => more a r1 v' FK' FA' ?_ ?_ hr)
        · rw [zP_stp, stp_enter ⟨by omega, by omega⟩]
          have hb3 := pl_bd k3 h40
          have := ih f2 zFu n' N' 0 (d + 1) vv' s' FK' FA' (by omega) (by omega) (by have := k3.le; unfold zFu; omega) (by omega) k2 (by omega) k3
          exact this
        all_goals
          have h9 : okR List.length 0 (c :: r) (brS u n r) := ok_br (u := u) (n := n) (c := c) (r := r) (ok_stp u)
          have h11 := br_ne e
          rw [e] at h9
          unfold okR at h9
          simp only at h9
          omega
      rw [if_neg c2, if_neg c2]
      by_cases c3 : mvK c = 0
      · rw [if_pos c3, if_pos c3]
        exact triv _ rfl
      · rw [if_neg c3, if_neg c3]
        obtain ⟨k1, k2⟩ := mv_ok c3
        have q := par_part (n := n) (N := N) (vv := vv) (FK := FK) (FA := FA) h hs k1 (by omega)
        rw [k2] at q
        refine step_cat q (fun m' => stp_stop m') (fun a r1 v' FK' FA' e hr => more a r1 v' FK' FA' ?_ ?_ hr)
        all_goals
          have h9 := ok_part (kd := mvK c) (fs := mvF c) r (c :: r) (by omega)
          rw [e] at h9
          unfold okR at h9
          simp only at h9
          obtain ⟨v9, e9, -⟩ := part_ne e
          have e10 : a.length = 1 := by rw [e9]; rfl
          omega
end PAR6
