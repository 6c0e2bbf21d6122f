/-! THE TEXT IS READ: by the class, by the reference -/
def kR (m : Mm) (rl : Bool) : Mm := wI (wR m 19 1 17) 19 4 (b3 rl)
theorem kR_o {m : Mm} {rl : Bool} {b j : Nat} (h : b ≠ 19 ∨ j ≠ 4) : zI (kR m rl) b j = zI m b j := by
  unfold kR
  by_cases hb : b = 19
  · subst hb
    rw [zI_nk (by omega)]
    rfl
  · rw [zI_ne (by omega)]
    rfl
section RDG
variable {m : Mm} {T : List Int}
theorem kR_pt (h : TX m 17 T) (rl : Bool) : PT (kR m rl) T := by
  refine ⟨?_, h.1, ?_, fun i hi => ?_, h.2.2.2⟩
  · unfold kR
    rfl
  · rw [kR_o (by omega)]; exact h.2.1
  · rw [kR_o (by omega)]; exact h.2.2.1 i hi
theorem par_on (rl : Bool) : f_Par_startOn 17 (b3 rl) m = some (pM (kR m rl) (i3 0) (zI m 19 3) (zI m 21) (zI m 22) (i3 0) (i3 0)) := by
  unfold f_Par_startOn
  simp only [zLet]
  rw [if_pos (b3_bo rl)]
  unfold f_Cod_clear
  simp only [zLet]
  rw [zBV_some]
  refine congrArg some ?_
  change wI (wI (wI (kR m rl) 19 2 (i3 0)) 20 2 (i3 0)) 20 3 (i3 0) = _
  conv => lhs; rw [pM_self (m := kR m rl)]
  rw [pM_wp, pM_wn, pM_wnm]
  have e3 : zI (kR m rl) 19 3 = zI m 19 3 := kR_o (by omega)
  have e21 : zI (kR m rl) 21 = zI m 21 := funext fun j => kR_o (by omega)
  have e22 : zI (kR m rl) 22 = zI m 22 := funext fun j => kR_o (by omega)
  rw [e3, e21, e22]
theorem par_start (h : PT m T) {vv : Int} {FK FA : Nat → Int32} : PX m T 0 0 FK FA (f_Par_takesStart (pM m (i3 (pl T T)) (i3 vv) FK FA (i3 (0 : Nat)) (i3 (0 : Nat)))) (pSta T) := by
  have hs : Sf T T := ⟨[], rfl⟩
  have hh := hd_bd h hs
  obtain ⟨e0, e1, e2, e3, e4, e5, e6, e7, e8⟩ := fS_eq
  unfold f_Par_takesStart
  simp only [zLet, zGR, pM_R, h.1, show zT 17 = 8 from by decide +kernel, if_true, pM_p, par_at h hs, zBP_some, i3_lit]
  rw [it_eq ⟨by omega, by omega⟩ ⟨by decide, by decide⟩, it_eq ⟨by omega, by omega⟩ ⟨by decide, by decide⟩, it_eq ⟨by omega, by omega⟩ ⟨by decide, by decide⟩, it_eq ⟨by omega, by omega⟩ ⟨by decide, by decide⟩]
  have wr : ∀ {res : Option (Int32 × Mm)} {x : Rd Cx}, PX m T 0 0 FK FA res x → PX m T 0 0 FK FA (zBI res fun v m => if zBo v then some (v, m) else none) x := by
    intro res x q
    cases x with
    | inl z =>
      obtain ⟨v', FK', FA', n', nm', e⟩ := q
      exact ⟨v', FK', FA', n', nm', by rw [e, zBI_some, if_pos (by decide)]⟩
    | inr z =>
      obtain ⟨c, r⟩ := z
      obtain ⟨hr, v', FK', FA', e, q1, q2⟩ := q
      exact ⟨hr, v', FK', FA', by rw [e, zBI_some, if_pos (by decide)], q1, q2⟩
  have no : ∀ s, s = T → stK (s.headD 0) = 0 → PX m T 0 0 FK FA (some (i3 0, pM m (i3 (pl T T)) (i3 vv) FK FA (i3 (0 : Nat)) (i3 (0 : Nat)))) (pSta s) := by
    intro s hs h0
    cases s with
    | nil =>
      subst hs
      exact ⟨_, FK, FA, _, _, rfl⟩
    | cons c r =>
      have e : pSta (c :: r) = .inl (c :: r) := if_pos h0
      rw [e, ← hs]
      exact ⟨_, FK, FA, _, _, rfl⟩
  have yes : ∀ (c kd : Int) (i : Nat) (F : List Int), stK c = kd → kd ≠ 0 → (kd, i) ∈ kdS → fS i = stF c → c ≠ 0 → T.headD 0 = c → PX m T 0 0 FK FA (zBI (f_Par_takesPart (i3 kd) i (pM m (i3 (pl T T)) (i3 vv) FK FA (i3 (0 : Nat)) (i3 (0 : Nat)))) fun v m => if zBo v then some (v, m) else none) (pSta T) := by
    intro c kd i F h1 h2 h3 h4 h5 h6
    obtain ⟨r, hr⟩ := hd_cons h6 h5
    have hs2 : Sf T (c :: r) := by rw [← hr]; exact hs
    have q := par_part (n := 0) (N := 0) (vv := vv) (FK := FK) (FA := FA) h hs2 h3 (by omega)
    have e : pSta T = pPart kd (fS i) r := by
      rw [hr, h4, ← h1]
      exact if_neg (by rw [h1]; exact h2)
    have ep : pl T (c :: r) = pl T T := by rw [← hr]
    rw [ep] at q
    rw [e]
    exact wr q
  by_cases c68 : T.headD 0 = 68
  · rw [if_pos c68]
    exact yes 68 1 0 [] rfl (by decide) (by decide) e0 (by decide) c68
  rw [if_neg c68]
  by_cases c70 : T.headD 0 = 70
  · rw [if_pos c70]
    exact yes 70 4 3 [] rfl (by decide) (by decide) e3 (by decide) c70
  rw [if_neg c70]
  by_cases c76 : T.headD 0 = 76
  · rw [if_pos c76]
    exact yes 76 3 2 [] rfl (by decide) (by decide) e2 (by decide) c76
  rw [if_neg c76]
  by_cases c78 : T.headD 0 = 78
  · rw [if_pos c78]
    exact yes 78 2 1 [] rfl (by decide) (by decide) e1 (by decide) c78
  rw [if_neg c78]
  refine no T rfl ?_
  unfold stK
  rw [if_neg c68, if_neg c78, if_neg c76, if_neg c70]
theorem sta_ne {a : Cx} {s r : List Int} (h : pSta s = .inr (a, r)) : a.length = 1 ∧ r.length < s.length := by
  cases s with
  | nil => cases h
  | cons c s =>
    have h : (if stK c = 0 then .inl (c :: s) else pPart (stK c) (stF c) s) = (.inr (a, r) : Rd Cx) := h
    by_cases h0 : stK c = 0
    · rw [if_pos h0] at h
      cases h
    · rw [if_neg h0] at h
      obtain ⟨v, rfl, -⟩ := part_ne h
      have hok := ok_part (kd := stK c) (fs := stF c) s (c :: s) (by simp)
      rw [h] at hok
      unfold okR at hok
      simp only [List.length_cons, List.length_nil] at hok
      exact ⟨rfl, by rw [List.length_cons]; omega⟩
/-- what the class has read of a rule -/
theorem par_rule (hT : TX m 17 T) (hv : ∃ vv : Int, zI m 19 3 = i3 vv) : match pRule T with
    | .inl q => ∃ v' FK FA n nm, f_Par_readRule 17 m = some (i3 (pl T q), pM (kR m true) (i3 (pl T q)) v' FK FA n nm)
    | .inr C => ∃ (v' : Int) (FK FA : Nat → Int32), f_Par_readRule 17 m = some (i3 (-1), pM (kR m true) (i3 T.length) (i3 v') FK FA (i3 C.length) (i3 (nmC C))) ∧ CA FK FA 0 C := by
  obtain ⟨vv, hv⟩ := hv
  have h := kR_pt hT true
  have hs : Sf T T := ⟨[], rfl⟩
  have h40 := hT.1
  have e0 : pl T T = 0 := Int.sub_self _
  have hrl : zI (kR m true) 19 4 = b3 true := by unfold kR; rw [zI_eq]
  have on : f_Par_startOn 17 1 m = some (pM (kR m true) (i3 (pl T T)) (i3 vv) (zI m 21) (zI m 22) (i3 0) (i3 0)) := by
    have hone : (1 : Int32) = b3 true := by decide
    rw [hone, par_on, hv, e0]
  have q := par_start h (vv := vv) (FK := zI m 21) (FA := zI m 22)
  unfold f_Par_readRule
  rw [on, zBV_some]
  have lenE : ∀ M, zR M 19 1 = 17 → zI M 17 1 = i3 T.length → (∀ (α : Type) (K : Nat → Option α), zGR 8 (zR M 19 1) K = K 17) ∧ f_Txt_length 17 M = some (i3 T.length) := by
    intro M h1 h2
    refine ⟨fun α K => ?_, by unfold f_Txt_length; rw [h2]⟩
    rw [h1]
    unfold zGR
    rw [if_pos (show zT 17 = 8 from by decide +kernel)]
  unfold pRule
  cases ea : pSta T with
  | inl q' =>
    rw [ea] at q
    obtain ⟨v', FK, FA, n, nm, e⟩ := q
    refine ⟨v', FK, FA, n, nm, ?_⟩
    have e' : f_Par_takesStart (pM (kR m true) (i3 (pl T T)) (i3 vv) (zI m 21) (zI m 22) (i3 0) (i3 0)) = _ := e
    rw [e', zBI_some]
    simp only [zLet]
    rw [if_pos (show i3 0 = 0 from rfl), pM_p]
  | inr z =>
    obtain ⟨a, r⟩ := z
    obtain ⟨hal, hrl2⟩ := sta_ne ea
    rw [ea] at q
    obtain ⟨hr, v', FK, FA, e, q1, q2⟩ := q
    have e' : f_Par_takesStart (pM (kR m true) (i3 (pl T T)) (i3 vv) (zI m 21) (zI m 22) (i3 0) (i3 0)) = _ := e
    rw [e', zBI_some]
    simp only [zLet]
    rw [if_neg (show ¬ i3 1 = 0 by decide), pB_inr rfl]
    have hpl : ((a.length : Nat) : Int) ≤ pl T r := by unfold pl; omega
    have es : ∀ M, f_Par_takesSteps 0 M = zLp2 (l_g_Par_takesSteps_0 (zP_Par 99).2.1 (i3 0)) zFu (i3 1) (i3 0) M := fun M => by
      have : f_Par_takesSteps 0 M = g_Par_takesSteps (zP_Par 99).2.1 (i3 0) M := rfl
      rw [this, stp_enter ⟨by decide, by decide⟩]
    rw [es, Nat.zero_add, Nat.zero_or]
    have qs := par_sloop h hrl 41 99 zFu a.length (nmC a) 0 0 v' r FK FA (by omega) (by omega) (by unfold zFu; omega) ⟨by omega, by omega⟩ hpl (by omega) hr
    have qs' : PX (kR m true) T a.length (nmC a) FK FA (zLp2 (l_g_Par_takesSteps_0 (zP_Par 99).2.1 (i3 0)) zFu (i3 1) (i3 0) (pM (kR m true) (i3 (pl T r)) (i3 v') FK FA (i3 (a.length : Nat)) (i3 ((nmC a : Nat) : Int)))) (pStp 41 a.length r) := qs
    cases eb : pStp 41 a.length r with
    | inl q' =>
      rw [eb] at qs'
      obtain ⟨w', FK', FA', n, nm, e2⟩ := qs'
      refine ⟨w', FK', FA', n, nm, ?_⟩
      rw [e2, zBI_some, if_pos (show i3 0 = 0 from rfl), pM_p]
    | inr z =>
      obtain ⟨b, r2⟩ := z
      rw [eb] at qs'
      obtain ⟨hr2, w', FK', FA', e2, q3, q4⟩ := qs'
      have hb2 := pl_bd hr2 h40
      obtain ⟨l1, l2⟩ := lenE (pM (kR m true) (i3 (pl T r2)) (i3 w') FK' FA' (i3 ((a.length + b.length : Nat) : Int)) (i3 ((nmC a ||| nmC b : Nat) : Int))) h.1 (by rw [pM_o (by omega)]; exact h.2.2.1)
      rw [e2, zBI_some, if_neg (show ¬ i3 1 = 0 by decide), l1, l2, zBP_some, pM_p, it_eq ⟨by omega, by omega⟩ ⟨by omega, by omega⟩, pB_inr rfl]
      cases r2 with
      | nil =>
        have ep : pl T [] = T.length := by unfold pl; simp
        have hA : CA FK' FA' 0 (a ++ b) := by
          refine CA.app (CA.lift q2) (fun i hi => q3 i (by omega)) ?_
          rw [Nat.zero_add]
          exact CA.lift q4
        refine ⟨w', FK', FA', ?_, hA⟩
        rw [if_pos ep, ep, List.length_append, nmC_app]
        rfl
      | cons c r3 =>
        have ep : pl T (c :: r3) ≠ T.length := by unfold pl; simp; omega
        exact ⟨i3 w', FK', FA', _, _, if_neg ep⟩
/-- what the class has read of a question -/
theorem par_ask (hT : TX m 17 T) (hv : ∃ vv : Int, zI m 19 3 = i3 vv) : match pAsk T with
    | .inl q => ∃ v' FK FA n nm, f_Par_readQuestion 17 m = some (i3 (pl T q), pM (kR m false) (i3 (pl T q)) v' FK FA n nm)
    | .inr C => ∃ (v' : Int) (FK FA : Nat → Int32), f_Par_readQuestion 17 m = some (i3 (-1), pM (kR m false) (i3 T.length) (i3 v') FK FA (i3 C.length) (i3 (nmC C))) ∧ CA FK FA 0 C := by
  obtain ⟨vv, hv⟩ := hv
  have h := kR_pt hT false
  have hs : Sf T T := ⟨[], rfl⟩
  have h40 := hT.1
  have e0 : pl T T = 0 := Int.sub_self _
  have hrl : zI (kR m false) 19 4 = b3 false := by unfold kR; rw [zI_eq]
  have on : f_Par_startOn 17 0 m = some (pM (kR m false) (i3 (pl T T)) (i3 vv) (zI m 21) (zI m 22) (i3 0) (i3 0)) := by
    have hone : (0 : Int32) = b3 false := by decide
    rw [hone, par_on, hv, e0]
  have q := par_log h hrl 41 100 0 0 0 vv T (zI m 21) (zI m 22) (by omega) (by omega) ⟨by omega, by omega⟩ (by omega) hs
  have q' : PX (kR m false) T 0 0 (zI m 21) (zI m 22) (f_Par_takesLogic 0 (pM (kR m false) (i3 (pl T T)) (i3 vv) (zI m 21) (zI m 22) (i3 0) (i3 0))) (pLog false 41 0 T) := q
  unfold f_Par_readQuestion
  rw [on, zBV_some]
  unfold pAsk
  cases ea : pLog false 41 0 T with
  | inl q' =>
    rename_i qq
    rw [ea] at qq
    obtain ⟨v', FK, FA, n, nm, e⟩ := qq
    refine ⟨v', FK, FA, n, nm, ?_⟩
    rw [e, zBI_some]
    simp only [zLet]
    rw [if_pos (show i3 0 = 0 from rfl), pM_p]
  | inr z =>
    obtain ⟨a, r⟩ := z
    rw [ea] at q'
    obtain ⟨hr, v', FK, FA, e, q1, q2⟩ := q'
    have hb2 := pl_bd hr h40
    rw [e, zBI_some]
    simp only [zLet]
    have l1 : zR (pM (kR m false) (i3 (pl T r)) (i3 v') FK FA (i3 ((0 + a.length : Nat) : Int)) (i3 ((0 ||| nmC a : Nat) : Int))) 19 1 = 17 := h.1
    have l2 : f_Txt_length 17 (pM (kR m false) (i3 (pl T r)) (i3 v') FK FA (i3 ((0 + a.length : Nat) : Int)) (i3 ((0 ||| nmC a : Nat) : Int))) = some (i3 T.length) := by
      unfold f_Txt_length
      rw [pM_o (by omega)]
      exact congrArg some h.2.2.1
    rw [if_neg (show ¬ i3 1 = 0 by decide), l1]
    have lG : ∀ (α : Type) (K : Nat → Option α), zGR 8 17 K = K 17 := fun α K => if_pos (show zT 17 = 8 from by decide +kernel)
    rw [lG, l2, zBP_some, pM_p, it_eq ⟨by omega, by omega⟩ ⟨by omega, by omega⟩]
    cases r with
    | nil =>
      have ep : pl T [] = T.length := by unfold pl; simp
      refine ⟨v', FK, FA, ?_, CA.lift q2⟩
      rw [if_pos ep, ep, Nat.zero_add, Nat.zero_or]
      rfl
    | cons c r3 =>
      have ep : pl T (c :: r3) ≠ T.length := by unfold pl; simp; omega
      exact ⟨i3 v', FK, FA, _, _, if_neg ep⟩
/-- what the reference has read -/
def pEnd (x : Rd Cx) : List Int ⊕ Cx := match x with
  | .inl q => .inl q
  | .inr (c, []) => .inr c
  | .inr (_, q) => .inl q
def GR (m : Mm) (T : List Int) (S : List (Int × Int)) (y : List Int ⊕ Cx) (X : Option (Int32 × Mm)) : Prop := match y with
  | .inl q => ∃ M dg mo nu dn, X = some (i3 (pl T q), M) ∧ Bd dg mo nu dn ∧ QF m dg mo nu dn M
  | .inr C => ∃ M dg mo nu dn, X = some (i3 (-1), M) ∧ Bd dg mo nu dn ∧ RQ m S [] C 0 dg mo false 0 nu dn M
theorem ref_rule (hT : MT m T) (hR : RB m) : GR m T [(1, 0)] (pRule T) (f_Mod_reads 0 m) := by
  have e0 : f_Mod_reads 0 m = f_Mod_reads (i3 0) m := rfl
  have ep : pRule T = pEnd (pB (pSta T) fun a r => pB (pStp 41 a.length r) fun b r2 => .inr (a ++ b, r2)) := rfl
  rw [e0]
  refine reads_go (G := GR m T [(1, 0)] (pRule T)) hT hR (by omega) (sim_rule hT ⟨[], rfl⟩ hT.1 ?_)
  rw [ep]
  generalize (pB (pSta T) fun a r => pB (pStp 41 a.length r) fun b r2 => (.inr (a ++ b, r2) : Rd Cx)) = x
  cases x with
  | inl q => exact fun M dg mo nu dn hb hq => ⟨M, dg, mo, nu, dn, rfl, hb, hq⟩
  | inr z =>
    obtain ⟨C, r⟩ := z
    intro hr
    unfold EN
    rw [if_neg (by decide)]
    cases r with
    | nil =>
      rw [if_pos rfl]
      exact fun dg mo nu dn M hb hq => ⟨M, dg, mo, nu, dn, rfl, hb, hq⟩
    | cons c r =>
      rw [if_neg (List.cons_ne_nil _ _)]
      exact fun M dg mo nu dn hb hq => ⟨M, dg, mo, nu, dn, rfl, hb, hq⟩
theorem ref_ask (hT : MT m T) (hR : RB m) : GR m T [] (pEnd (pPst 41 T)) (f_Mod_reads 20 m) := by
  have e0 : f_Mod_reads 20 m = f_Mod_reads (i3 20) m := rfl
  have h40 := hT.1
  rw [e0]
  refine reads_go (G := GR m T [] (pEnd (pPst 41 T))) hT hR (by omega) ?_
  have hq : QA m T (999 - T.length) (GR m T [] (pEnd (pPst 41 T))) T [(20, 0)] [] [] := by
    refine sim_pst hT 41 T [] [] [] (by omega) ⟨[], rfl⟩ ⟨by simp; omega, by simp; omega, by show 0 + 0 + 0 + T.length ≤ 70; omega⟩ ?_
    generalize hx : pPst 41 T = x
    cases x with
    | inl q => exact fun M dg mo nu dn hb hq => ⟨M, dg, mo, nu, dn, rfl, hb, hq⟩
    | inr z =>
      obtain ⟨C, r⟩ := z
      intro hr dg mo nu dn hb
      refine gd_nil hT hr ?_
      intro M hM
      have e6 : zI M 201 6 = i3 0 := (mp_18 hM).2.2.2
      cases r with
      | nil =>
        have e3 : kS T (999 - T.length) [] M = some (i3 (-1), M) := by
          show kZ M = _
          unfold kZ
          simp only [zLet]
          rw [e6, if_neg (by decide), if_pos (by decide)]
          rfl
        rw [e3]
        exact ⟨M, dg, mo, nu, dn, rfl, hb, hM⟩
      | cons c r =>
        rw [kS_cons]
        have ek : kT (i3 c) M = some (i3 0, M) := by
          unfold kT
          rw [if_pos (show zI M 201 6 = 0 from e6)]
          rfl
        rw [ek, zBI_some, if_pos rfl]
        exact ⟨M, dg, mo, nu, dn, rfl, hb, hM.qf⟩
  intro dg mo nu dn hb
  exact hq dg mo nu dn hb
end RDG
