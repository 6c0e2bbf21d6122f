/-! THE CLASS'S PARSER, conditions and steps -/
section PAR5
variable {m : Mm} {T : List Int}
theorem PX_w1 {n N : Nat} {FK FA : Nat → Int32} {res : Option (Int32 × Mm)} {R : Rd Cx} (h : PX m T n N FK FA res R) : PX m T n N FK FA (zBI res fun v m => if zBo v then some (v, m) else none) R := by
  cases R with
  | inl q =>
    obtain ⟨v', FK', FA', n', nm', e⟩ := h
    exact ⟨v', FK', FA', n', nm', by rw [e, zBI_some, if_pos (show zBo (i3 0) by decide)]⟩
  | inr z =>
    obtain ⟨c, r⟩ := z
    obtain ⟨h0, v', FK', FA', e, h1, h2⟩ := h
    exact ⟨h0, v', FK', FA', by rw [e, zBI_some, if_pos (show zBo (i3 1) by decide)], h1, h2⟩
theorem PX_w2 {n N : Nat} {FK FA : Nat → Int32} {res : Option (Int32 × Mm)} {R : Rd Cx} (h : PX m T n N FK FA res R) : PX m T n N FK FA (zBI res fun v m => if v = i3 0 then some (i3 0, m) else some (i3 1, m)) R := by
  cases R with
  | inl q =>
    obtain ⟨v', FK', FA', n', nm', e⟩ := h
    exact ⟨v', FK', FA', n', nm', by rw [e, zBI_some, if_pos rfl]⟩
  | inr z =>
    obtain ⟨c, r⟩ := z
    obtain ⟨h0, v', FK', FA', e, h1, h2⟩ := h
    exact ⟨h0, v', FK', FA', by rw [e, zBI_some, if_neg (by decide)], h1, h2⟩
def lgI (rl : Bool) (c : Int) : Nat := if rl then (if c = 87 then 4 else if c = 89 then 5 else if c = 65 then 3 else 0) else (if c = 67 then 5 else if c = 68 then 7 else if c = 87 then 6 else if c = 78 then 3 else 8)
def wrp (c : Int) (res : Option (Int32 × Mm)) : Option (Int32 × Mm) := if c = 87 then (zBI res fun v m => if zBo v then some (v, m) else none) else (zBI res fun v m => if v = i3 0 then some (i3 0, m) else some (i3 1, m))
theorem zP_log (f : Nat) : (zP_Par (f + 1)).2.2.1 = g_Par_takesLogic (zP_Par f).2.2.1 (zP_Par f).2.2.2 := rfl
theorem zP_pair (f : Nat) : (zP_Par (f + 1)).2.2.2 = g_Par_takesPair (zP_Par f).2.2.1 := rfl
theorem zP_stp (f : Nat) : (zP_Par (f + 1)).1 = g_Par_takesSteps (zP_Par f).2.1 := rfl
theorem zP_br (f : Nat) : (zP_Par (f + 1)).2.1 = g_Par_takesBranch (zP_Par f).2.2.1 (zP_Par f).1 := rfl
set_option maxHeartbeats 4000000 in
theorem log_body (h : PT m T) {s : List Int} (hs : Sf T s) {rl : Bool} (hrl : zI m 19 4 = b3 rl) {d : Int} (hd : 0 ≤ d ∧ d ≤ 41) {v : Int32} {FK FA : Nat → Int32} {n nm : Int32} (L P : Int32 → Mm → Option (Int32 × Mm)) :
    g_Par_takesLogic L P (i3 d) (pM m (i3 (pl T s)) v FK FA n nm) = if s.headD 0 = 33 then (zBI (L (i3 (d + 1)) (pM m (i3 (pl T s + 1)) v FK FA n nm)) fun v7 m6 => if v7 = i3 0 then some (i3 0, m6) else zBI (f_Cod_add 20 (i3 17) (i3 0) m6) fun v12 m11 => if v12 = i3 0 then some (i3 0, m11) else some (i3 1, m11))
      else if s.headD 0 = 40 then (zBI (P (i3 (d + 1)) (pM m (i3 (pl T s)) v FK FA n nm)) fun v m => if zBo v then some (v, m) else none)
      else if lgK rl (s.headD 0) = 0 then some (i3 0, pM m (i3 (pl T s)) v FK FA n nm)
      else wrp (s.headD 0) (f_Par_takesPart (i3 (lgK rl (s.headD 0))) (lgI rl (s.headD 0)) (pM m (i3 (pl T s)) v FK FA n nm)) := by
  have hh := hd_bd h hs
  have hpl := pl_bd hs h.2.1
  unfold g_Par_takesLogic
  simp only [zLet, zGR, pM_R, h.1, show zT 17 = 8 from by decide +kernel, if_true, pM_p, pM_4, hrl, par_at h hs, zBP_some, i3_lit, pM_wp, i3_add]
  rw [it_le ⟨by omega, by omega⟩ ⟨by decide, by decide⟩, if_pos (by omega)]
  generalize s.headD 0 = c at hh ⊢
  simp (maxSteps := 3000000) (disch := omega) only [i3_eq, b3_i0]
  by_cases h33 : c = 33
  · simp only [if_pos h33]
  by_cases h40 : c = 40
  · simp only [if_neg h33, if_pos h40]
  simp only [if_neg h33, if_neg h40]
  by_cases h65 : c = 65
  · subst h65; cases rl <;> rfl
  by_cases h66 : c = 66
  · subst h66; cases rl <;> rfl
  by_cases h67 : c = 67
  · subst h67; cases rl <;> rfl
  by_cases h68 : c = 68
  · subst h68; cases rl <;> rfl
  by_cases h69 : c = 69
  · subst h69; cases rl <;> rfl
  by_cases h78 : c = 78
  · subst h78; cases rl <;> rfl
  by_cases h87 : c = 87
  · subst h87; cases rl <;> rfl
  by_cases h89 : c = 89
  · subst h89; cases rl <;> rfl
  simp only [if_neg h65, if_neg h66, if_neg h67, if_neg h68, if_neg h69, if_neg h78, if_neg h87, if_neg h89]
  have e : lgK rl c = 0 := by
    unfold lgK
    cases rl
    · simp only [if_neg h65, if_neg h66, if_neg h67, if_neg h68, if_neg h69, if_neg h78, if_neg h87, if_neg h89]; rfl
    · simp only [if_neg h65, if_neg h66, if_neg h67, if_neg h68, if_neg h69, if_neg h78, if_neg h87, if_neg h89]; rfl
  rw [if_pos e]
theorem lg_ok {rl : Bool} {c : Int} (h : ¬ lgK rl c = 0) : (lgK rl c, lgI rl c) ∈ kdS ∧ fS (lgI rl c) = lgF rl c := by
  obtain ⟨e0, e1, e2, e3, e4, e5, e6, e7, e8⟩ := fS_eq
  unfold lgK at h
  cases rl
  · have : c = 67 ∨ c = 68 ∨ c = 87 ∨ c = 78 ∨ c = 66 := by
      by_cases q1 : c = 67
      · exact Or.inl q1
      by_cases q2 : c = 68
      · exact Or.inr (Or.inl q2)
      by_cases q3 : c = 87
      · exact Or.inr (Or.inr (Or.inl q3))
      by_cases q4 : c = 78
      · exact Or.inr (Or.inr (Or.inr (Or.inl q4)))
      by_cases q5 : c = 66
      · exact Or.inr (Or.inr (Or.inr (Or.inr q5)))
      simp [q1, q2, q3, q4, q5] at h
    rcases this with rfl | rfl | rfl | rfl | rfl
    · exact ⟨by decide, e5⟩
    · exact ⟨by decide, e7⟩
    · exact ⟨by decide, e6⟩
    · exact ⟨by decide, e3⟩
    · exact ⟨by decide, e8⟩
  · have : c = 87 ∨ c = 89 ∨ c = 65 ∨ c = 69 := by
      by_cases q1 : c = 87
      · exact Or.inl q1
      by_cases q2 : c = 89
      · exact Or.inr (Or.inl q2)
      by_cases q3 : c = 65
      · exact Or.inr (Or.inr (Or.inl q3))
      by_cases q4 : c = 69
      · exact Or.inr (Or.inr (Or.inr q4))
      simp [q1, q2, q3, q4] at h
    rcases this with rfl | rfl | rfl | rfl
    · exact ⟨by decide, e4⟩
    · exact ⟨by decide, e5⟩
    · exact ⟨by decide, e3⟩
    · exact ⟨by decide, e0⟩
theorem tk_ok (h : PT m T) {x : Int} {r : List Int} (hs : Sf T (x :: r)) (hx : 1 ≤ x ∧ x ≤ 126) {v : Int32} {FK FA : Nat → Int32} {n nm : Int32} : f_Par_takes (i3 x) (pM m (i3 (pl T (x :: r))) v FK FA n nm) = some (i3 1, pM m (i3 (pl T r)) v FK FA n nm) := by
  have := par_takes (v := v) (FK := FK) (FA := FA) (n := n) (nm := nm) h hs hx
  rw [pChr_cons, if_pos rfl] at this
  exact this
theorem tk_no (h : PT m T) {x : Int} {s : List Int} (hs : Sf T s) (hx : 1 ≤ x ∧ x ≤ 126) (hn : s.headD 0 ≠ x) {v : Int32} {FK FA : Nat → Int32} {n nm : Int32} : f_Par_takes (i3 x) (pM m (i3 (pl T s)) v FK FA n nm) = some (i3 0, pM m (i3 (pl T s)) v FK FA n nm) := by
  have := par_takes (v := v) (FK := FK) (FA := FA) (n := n) (nm := nm) h hs hx
  cases s with
  | nil => exact this
  | cons c r =>
    rw [pChr_cons, if_neg (show ¬ c = x from hn)] at this
    exact this
theorem CA.lift {FK FA : Nat → Int32} {n : Nat} {c : Cx} (h : ∀ i, i < c.length → FK (n + i) = i3 (c.getD i (0, 0)).1 ∧ FA (n + i) = i3 (c.getD i (0, 0)).2) : CA FK FA n c := h
set_option maxHeartbeats 4000000 in
theorem par_log (h : PT m T) {rl : Bool} (hrl : zI m 19 4 = b3 rl) : ∀ (u f n N : Nat) (d vv : Int) (s : List Int) (FK FA : Nat → Int32), s.length < u → 2 * s.length + 2 ≤ f → (0 ≤ d ∧ d + s.length ≤ 41) → (n : Int) ≤ pl T s → Sf T s →
    PX m T n N FK FA ((zP_Par f).2.2.1 (i3 d) (pM m (i3 (pl T s)) (i3 vv) FK FA (i3 n) (i3 N))) (pLog rl u n s) := by
  intro u
  induction u with
  | zero => intro f n N d vv s FK FA h1; exact absurd h1 (Nat.not_lt_zero _)
  | succ u ih =>
    intro f n N d vv s FK FA h1 h2 h3 h4 hs
    obtain ⟨f1, rfl⟩ : ∃ f1, f = f1 + 1 := ⟨f - 1, by omega⟩
    rw [zP_log, log_body h hs hrl ⟨by omega, by omega⟩]
    have hb := pl_bd hs h.2.1
    cases s with
    | nil =>
      rw [if_neg (by decide), if_neg (by decide), if_pos (by cases rl <;> decide)]
      exact ⟨i3 vv, FK, FA, i3 n, i3 N, rfl⟩
    | cons c r =>
      have hl : (c :: r).length = r.length + 1 := rfl
      have htl := hs.tl
      have hbr := pl_bd htl.1 h.2.1
      show PX m T n N FK FA (if c = 33 then _ else if c = 40 then _ else _) (if c = 33 then _ else if c = 40 then _ else _)
      by_cases h33 : c = 33
      · rw [if_pos h33, if_pos h33, htl.2]
        have q := ih f1 n N (d + 1) vv r FK FA (by omega) (by omega) (by omega) (by omega) htl.1
        cases e : pLog rl u n r with
        | inl q' =>
          rw [e] at q
          obtain ⟨v', FK', FA', n', nm', e2⟩ := q
          rw [e2, zBI_some, if_pos rfl]
          exact ⟨v', FK', FA', n', nm', rfl⟩
        | inr z =>
          obtain ⟨a, r1⟩ := z
          have hlt := log_lt e
          rw [e] at q
          obtain ⟨hr1, v', FK', FA', e2, e3, e4⟩ := q
          have hb1 := pl_bd hr1 h.2.1
          have hp1 : pl T r + a.length ≤ pl T r1 := by unfold pl; omega
          rw [e2, zBI_some, if_neg (by decide), cod_add (by omega), zBI_some, if_neg (by decide), pB_inr rfl]
          refine ⟨hr1, v', up FK' (n + a.length) (i3 17), up FA' (n + a.length) (i3 0), ?_, fun i hi => ?_, ?_⟩
          · rw [nmC_app, show nmC [((17 : Int), (0 : Int))] = 0 from by simp [nmC, cNm], Nat.or_zero]
            simp only [List.length_append, List.length_cons, List.length_nil]
            rfl
          · rw [up_ne _ _ (by omega), up_ne _ _ (by omega)]; exact e3 i hi
          · exact (CA.lift e4).app (fun i hi => ⟨up_ne _ _ (by omega), up_ne _ _ (by omega)⟩) CA.one
      rw [if_neg h33, if_neg h33]
      by_cases h40 : c = 40
      · rw [if_pos h40, if_pos h40]
        obtain ⟨f2, rfl⟩ : ∃ f2, f1 = f2 + 1 := ⟨f1 - 1, by omega⟩
        refine PX_w1 ?_
        rw [zP_pair]
        have e0 : ∀ L : Int32 → Mm → Option (Int32 × Mm), g_Par_takesPair L (i3 (d + 1)) (pM m (i3 (pl T (c :: r))) (i3 vv) FK FA (i3 n) (i3 N)) = zBI (L (i3 (d + 1)) (pM m (i3 (pl T r)) (i3 vv) FK FA (i3 n) (i3 N))) fun v3 m2 => if v3 = i3 0 then some (i3 0, m2) else
            zBI (f_Par_takes (i3 38) m2) fun v6 m5 => (fun (J : Mm → Option (Int32 × Mm)) => if v6 = i3 0 then (zBI (f_Par_takes (i3 124) m5) fun v29 m28 => if v29 = i3 0 then some (i3 0, m28) else J m28) else J m5)
              fun m8 => zBP (f_Cod_size 20 m8) fun v10 => (fun x12 => zBI (f_Cod_add 20 x12 (i3 0) m8) fun v15 m14 => if v15 = i3 0 then some (i3 0, m14) else zBI (L (i3 (d + 1)) m14) fun v20 m19 => if v20 = i3 0 then some (i3 0, m19) else zBI (f_Par_takes (i3 41) m19) fun v23 m22 => if v23 = i3 0 then some (i3 0, m22) else zBI (f_Cod_landHere 20 v10 m22) fun v26 m25 => if v26 = i3 0 then some (i3 0, m25) else some (i3 1, m25)) (if v6 = i3 0 then i3 20 else i3 19) := by
          intro L
          unfold g_Par_takesPair
          simp only [zLet, pM_p, i3_lit, i3_add, pM_wp, htl.2]
          refine congrArg (zBI _) (funext fun v3 => funext fun m2 => ?_)
          refine congrArg (ite _ _) ?_
          refine congrArg (zBI _) (funext fun v6 => funext fun m5 => ?_)
          by_cases c6 : v6 = i3 0
          · simp only [if_pos c6]
          · simp only [if_neg c6]
        rw [e0]
        have q := ih f2 n N (d + 1) vv r FK FA (by omega) (by omega) (by omega) (by omega) htl.1
        cases e : pLog rl u n r with
        | inl q' =>
          rw [e] at q
          obtain ⟨v', FK', FA', n', nm', e2⟩ := q
          rw [e2, zBI_some, if_pos rfl]
          exact ⟨v', FK', FA', n', nm', rfl⟩
        | inr z =>
          obtain ⟨a, r1⟩ := z
          have hlt := log_lt e
          rw [e] at q
          obtain ⟨hr1, v', FK', FA', e2, e3, e4⟩ := q
          have hb1 := pl_bd hr1 h.2.1
          have hp1 : pl T r + a.length ≤ pl T r1 := by unfold pl; omega
          rw [e2, zBI_some, if_neg (by decide), pB_inr rfl]
          cases r1 with
          | nil =>
            rw [tk_no h hr1 ⟨by decide, by decide⟩ (by decide), zBI_some]
            simp only [if_true]
            rw [tk_no h hr1 ⟨by decide, by decide⟩ (by decide), zBI_some, if_pos rfl]
            exact ⟨i3 v', FK', FA', _, _, rfl⟩
          | cons o r2 =>
            have htl2 := hr1.tl
            have hll : (o :: r2).length = r2.length + 1 := rfl
            have hb2 := pl_bd htl2.1 h.2.1
            -- the rest, behind the operator
            have rest : ∀ k : Int, (k = 19 ∨ k = 20) → PX m T n N FK FA (zBI (f_Cod_add 20 (i3 k) (i3 0) (pM m (i3 (pl T r2)) (i3 v') FK' FA' (i3 ((n + a.length : Nat) : Int)) (i3 ((N ||| nmC a : Nat) : Int)))) fun v15 m14 => if v15 = i3 0 then some (i3 0, m14) else zBI ((zP_Par f2).2.2.1 (i3 (d + 1)) m14) fun v20 m19 => if v20 = i3 0 then some (i3 0, m19) else zBI (f_Par_takes (i3 41) m19) fun v23 m22 => if v23 = i3 0 then some (i3 0, m22) else zBI (f_Cod_landHere 20 (i3 ((n + a.length : Nat) : Int)) m22) fun v26 m25 => if v26 = i3 0 then some (i3 0, m25) else some (i3 1, m25))
                (pB (pLog rl u (n + a.length + 1) r2) fun b r3 => pB (pChr 41 r3) fun _ r4 => .inr (a ++ [(k, ((n + a.length + 1 + b.length : Nat) : Int))] ++ b, r4)) := by
              intro k hk
              rw [cod_add (by omega), zBI_some, if_neg (by decide)]
              have q2 := ih f2 (n + a.length + 1) (N ||| nmC a) (d + 1) v' r2 (up FK' (n + a.length) (i3 k)) (up FA' (n + a.length) (i3 0)) (by omega) (by omega) (by omega) (by omega) htl2.1
              cases e5 : pLog rl u (n + a.length + 1) r2 with
              | inl q' =>
                rw [e5] at q2
                obtain ⟨w', FK2, FA2, n2, nm2, e6⟩ := q2
                rw [e6, zBI_some, if_pos rfl]
                exact ⟨w', FK2, FA2, n2, nm2, rfl⟩
              | inr z =>
                obtain ⟨b, r3⟩ := z
                have hlt2 := log_lt e5
                rw [e5] at q2
                obtain ⟨hr3, w', FK2, FA2, e6, e7, e8⟩ := q2
                have hb3 := pl_bd hr3 h.2.1
                have hp3 : pl T r2 + b.length ≤ pl T r3 := by unfold pl; omega
                rw [e6, zBI_some, if_neg (by decide), pB_inr rfl]
                by_cases c41 : r3.headD 0 = 41
                · cases r3 with
                  | nil => exact absurd c41 (by decide)
                  | cons x r4 =>
                    have : x = 41 := c41
                    subst this
                    rw [tk_ok h hr3 ⟨by decide, by decide⟩, zBI_some, if_neg (by decide), cod_land (by omega) (by omega), zBI_some, if_neg (by decide), pB_inr (by rw [pChr_cons, if_pos rfl])]
                    have hA : CA FK2 FA2 n (a ++ [(k, 0)] ++ b) := by
                      have s1 : CA (up FK' (n + a.length) (i3 k)) (up FA' (n + a.length) (i3 0)) n (a ++ [(k, 0)]) := (CA.lift e4).app (fun i hi => ⟨up_ne _ _ (by omega), up_ne _ _ (by omega)⟩) CA.one
                      refine s1.app (fun i hi => e7 i (by simp at hi; omega)) ?_
                      have : n + (a ++ [(k, (0 : Int))]).length = n + a.length + 1 := by simp; omega
                      rw [this]
                      exact e8
                    refine ⟨hr3.tl.1, w', FK2, up FA2 (n + a.length) (i3 ((n + a.length + 1 + b.length : Nat) : Int)), ?_, fun i hi => ?_, hA.set⟩
                    · have e9 : (a ++ [(k, ((n + a.length + 1 + b.length : Nat) : Int))] ++ b).length = a.length + 1 + b.length := by simp; omega
                      have e10 : nmC (a ++ [(k, ((n + a.length + 1 + b.length : Nat) : Int))] ++ b) = nmC a ||| nmC b := by
                        rw [nmC_app, nmC_app]
                        rcases hk with rfl | rfl
                        · rw [show nmC [((19 : Int), ((n + a.length + 1 + b.length : Nat) : Int))] = 0 from by simp [nmC, cNm], Nat.or_zero]
                        · rw [show nmC [((20 : Int), ((n + a.length + 1 + b.length : Nat) : Int))] = 0 from by simp [nmC, cNm], Nat.or_zero]
                      rw [e9, e10, Nat.or_assoc, show n + (a.length + 1 + b.length) = n + a.length + 1 + b.length by omega]
                    · rw [up_ne _ _ (by omega)]
                      obtain ⟨z1, z2⟩ := e7 i (by omega)
                      rw [up_ne _ _ (by omega)] at z1 z2
                      rw [z1, z2]
                      exact e3 i hi
                · rw [tk_no h hr3 ⟨by decide, by decide⟩ c41, zBI_some, if_pos rfl]
                  have : pChr 41 r3 = .inl r3 := by
                    cases r3 with
                    | nil => rfl
                    | cons x r4 => rw [pChr_cons, if_neg (show ¬ x = 41 from c41)]
                  rw [pB_inl this]
                  exact ⟨i3 w', FK2, FA2, _, _, rfl⟩
            show PX m T n N FK FA _ (if o = 38 ∨ o = 124 then _ else _)
            have hsz : ∀ (p v : Int32) (FK FA : Nat → Int32) (nm : Int32), f_Cod_size 20 (pM m p v FK FA (i3 ((n + a.length : Nat) : Int)) nm) = some (i3 ((n + a.length : Nat) : Int)) := fun _ _ _ _ _ => by unfold f_Cod_size; rw [pM_n]
            by_cases o38 : o = 38
            · subst o38
              rw [tk_ok h hr1 ⟨by decide, by decide⟩, zBI_some, if_pos (Or.inl rfl)]
              simp only [hsz, zBP_some]
              rw [if_neg (by decide), if_neg (by decide)]
              exact rest 19 (Or.inl rfl)
            · rw [tk_no h hr1 ⟨by decide, by decide⟩ o38, zBI_some]
              simp only [if_true]
              by_cases o124 : o = 124
              · subst o124
                rw [tk_ok h hr1 ⟨by decide, by decide⟩, zBI_some, if_neg (by decide), if_pos (Or.inr rfl)]
                simp only [hsz, zBP_some]
                exact rest 20 (Or.inr rfl)
              · rw [tk_no h hr1 ⟨by decide, by decide⟩ o124, zBI_some, if_pos rfl, if_neg (by omega)]
                exact ⟨i3 v', FK', FA', _, _, rfl⟩
      rw [if_neg h40, if_neg h40]
      show PX m T n N FK FA (if lgK rl c = 0 then _ else _) (if lgK rl c = 0 then _ else _)
      by_cases h0 : lgK rl c = 0
      · rw [if_pos h0, if_pos h0]
        exact ⟨i3 vv, FK, FA, _, _, rfl⟩
      · rw [if_neg h0, if_neg h0]
        obtain ⟨k1, k2⟩ := lg_ok h0
        have q := par_part (n := n) (N := N) (vv := vv) (FK := FK) (FA := FA) h hs k1 (by omega)
        rw [k2] at q
        unfold wrp
        split
        · exact PX_w1 q
        · exact PX_w2 q
end PAR5
