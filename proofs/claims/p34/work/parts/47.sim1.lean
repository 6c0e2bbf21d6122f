/-! THE REFERENCE READS AS IS TOLD: from sign to sign -/
def MR (T : List Int) (u : Nat) (s : List Int) (M : Mm) : Option (Int32 × Mm) := zLp1 l_Mod_reads_0 (u + s.length + 1) (i3 (pl T s)) M
def kZ (m13 : Mm) : Option (Int32 × Mm) :=
    zLet (if (zI m13 201 6) = 0 then
      some ((-1), m13)
    else
      some ((zI m13 201 3), m13)) fun j15 =>
    if (zI m13 201 6) = 1 then
      if zIn 0 500 then
        if (zI m13 203 (zIx 0)) = 1 then
          zBV (f_Mod_endsDays m13) fun m18 =>
          some ((-1), m18)
        else
          j15
      else none
    else
      j15
def kS (T : List Int) (u : Nat) : List Int → Mm → Option (Int32 × Mm)
  | [], M => kZ M
  | c :: r, M => zBI (kT (i3 c) M) fun v m' => if v = i3 0 then some (i3 (pl T (c :: r)), m') else zBV (f_Mod_acts m') fun m2 => MR T u r m2
theorem kS_cons {T : List Int} {u : Nat} {c : Int} {r : List Int} {M : Mm} : kS T u (c :: r) M = zBI (kT (i3 c) M) fun v m' => if v = i3 0 then some (i3 (pl T (c :: r)), m') else zBV (f_Mod_acts m') fun m2 => MR T u r m2 := rfl
theorem zBI_BV {α : Type} {o : Option Mm} {K : Mm → Option (Int32 × Mm)} {L : Int32 → Mm → Option α} : zBI (zBV o K) L = zBV o fun M => zBI (K M) L := by
  cases o with
  | none => rfl
  | some M => rw [zBV_some, zBV_some]
def Bd (dg mo nu dn : Int) : Prop := (0 ≤ dg ∧ dg ≤ 9) ∧ (0 ≤ mo ∧ mo ≤ 12) ∧ (0 ≤ nu ∧ nu ≤ 366) ∧ (0 ≤ dn ∧ dn ≤ 3)
def dN (D : Bool) : Nat := if D then 1 else 0
def Sz (s : List Int) (S : List (Int × Int)) (J : List Int) (C : Cx) (D : Bool) : Prop := S.length + 6 * s.length ≤ 450 ∧ J.length + s.length ≤ 85 ∧ C.length + nE S + dN D + s.length ≤ 70
section SIM
variable {m : Mm} {T : List Int} {u : Nat} {G : Option (Int32 × Mm) → Prop} {s : List Int} {S : List (Int × Int)} {J : List Int} {C : Cx} {ar dg mo : Int} {D : Bool} {sm nu dn : Int} {M : Mm}
theorem mt_c (hT : MT m T) {c : Int} {r : List Int} (hs : Sf T (c :: r)) : 33 ≤ c ∧ c ≤ 126 := hT.2.2.2 c (hs.mem (by simp))
theorem mt_h (hT : MT m T) (hs : Sf T s) : 0 ≤ s.headD 0 ∧ s.headD 0 ≤ 126 := by
  cases s with
  | nil => exact ⟨by decide, by decide⟩
  | cons c r =>
    have := mt_c hT hs
    show 0 ≤ c ∧ c ≤ 126
    omega
theorem MR_eq (hT : MT m T) (hs : Sf T s) (h : RQ m S J C ar dg mo D sm nu dn M) : MR T u s M = zBV (LV zFu (s.headD 0) M) (kS T u s) := by
  obtain ⟨t1, t2, t3, t4⟩ := hT
  have e3 : zI M 201 3 = i3 T.length := by
    obtain ⟨F3, F4, F5, F6, F7, rfl, -⟩ := h
    rw [qM_k (by omega), t2]
  have e2 : ∀ i, i < T.length → zI M 202 i = i3 (T.getD i 0) := by
    obtain ⟨F3, F4, F5, F6, F7, rfl, -⟩ := h
    intro i hi
    rw [qM_o (by omega), t3 i hi]
  cases s with
  | nil =>
    have hp : pl T [] = T.length := by unfold pl; simp
    show l_Mod_reads_0 (zLp1 l_Mod_reads_0 (u + 0)) (i3 (pl T [])) M = _
    generalize zLp1 l_Mod_reads_0 (u + 0) = R
    unfold l_Mod_reads_0
    have e0 : f_Mod_leaves 0 M = LV zFu 0 M := LV_eq 0 M
    rw [e3, hp, if_pos (show i3 (T.length : Int) ≤ i3 (T.length : Int) from Int32.le_refl _), e0]
    rfl
  | cons c r =>
    have htl := hs.tl
    have hb := pl_bd hs t1
    have hb2 := pl_bd htl.1 t1
    have hlt : pl T (c :: r) < T.length := by unfold pl; simp; omega
    have hg : T.getD (pl T (c :: r)).toNat 0 = c := by
      obtain ⟨pre, rfl⟩ := hs
      have : (pl (pre ++ c :: r) (c :: r)).toNat = pre.length := by unfold pl; simp
      rw [this]
      simp
    show l_Mod_reads_0 (zLp1 l_Mod_reads_0 (u + r.length + 1)) (i3 (pl T (c :: r))) M = zBV (LV zFu c M) fun M => zBI (kT (i3 c) M) fun v m' => if v = i3 0 then some (i3 (pl T (c :: r)), m') else zBV (f_Mod_acts m') fun m2 => zLp1 l_Mod_reads_0 (u + r.length + 1) (i3 (pl T r)) m2
    generalize zLp1 l_Mod_reads_0 (u + r.length + 1) = R
    unfold l_Mod_reads_0
    rw [e3, if_neg (show ¬ i3 (T.length : Int) ≤ i3 (pl T (c :: r)) by rw [i3_le ⟨by omega, by omega⟩ ⟨by omega, by omega⟩]; omega), if_pos ((i3_in ⟨by omega, by omega⟩).mpr ⟨by omega, by omega⟩), i3_ix ⟨by omega, by omega⟩, e2 _ (by omega), hg, e_takes, LV_eq, zBI_BV]
    refine congrArg (zBV _) (funext fun M' => ?_)
    refine congrArg (zBI _) (funext fun v => funext fun m' => ?_)
    rw [i3_z]
    simp only [zLet]
    rw [i3_add1, htl.2]
variable (m T u G) in
def Fl (q : List Int) : Prop := ∀ M dg mo nu dn, Bd dg mo nu dn → QF m dg mo nu dn M → G (some (i3 (pl T q), M))
variable (m T u G) in
def GK (s : List Int) (S : List (Int × Int)) (J : List Int) (C : Cx) (ar dg mo : Int) (D : Bool) (sm nu dn : Int) : Prop := ∀ M, RQ m S J C ar dg mo D sm nu dn M → G (kS T u s M)
variable (m T u G) in
def GD (s : List Int) (S : List (Int × Int)) (J : List Int) (C : Cx) (ar dg mo : Int) (D : Bool) (sm nu dn : Int) : Prop := ∀ M, RQ m S J C ar dg mo D sm nu dn M → G (MR T u s M)
variable (m T u G) in
def GA (s : List Int) (S : List (Int × Int)) (J : List Int) (C : Cx) (ar dg mo : Int) (D : Bool) (sm nu dn : Int) : Prop := GD m T u G s (acS S ar C).1 J (acS S ar C).2.2 (acS S ar C).2.1 dg mo D sm nu dn
theorem ga_gd {q : Int × Int} (hq : q.1 ≠ 10) (h : GD m T u G s (q :: S) J C ar dg mo D sm nu dn) : GA m T u G s (q :: S) J C ar dg mo D sm nu dn := by
  unfold GA acS
  rw [if_neg hq]
  exact h
theorem ga_10 {k : Int} (h : GA m T u G s S J (C ++ [(k, ar)]) 0 dg mo D sm nu dn) : GA m T u G s ((10, k) :: S) J C ar dg mo D sm nu dn := by
  unfold GA acS
  rw [if_pos rfl]
  exact h
theorem gd_id (hT : MT m T) (hs : Sf T s) {q : Int × Int} (hS : S.length < 490) (hd : 0 ≤ dn ∧ dn ≤ 3) (h1 : ¬ (q.1 = 11 ∧ 0 < dn ∧ ¬ (48 ≤ s.headD 0 ∧ s.headD 0 ≤ 57))) (h2 : ¬ (q.1 = 6 ∧ s.headD 0 ≠ 123)) (h3 : ¬ (q.1 = 2 ∧ s.headD 0 = 125)) (h : GK m T u G s (q :: S) J C ar dg mo D sm nu dn) : GD m T u G s (q :: S) J C ar dg mo D sm nu dn := by
  intro M hM
  rw [MR_eq hT hs hM]
  have e : zFu = 998 + 2 := rfl
  rw [e, LV_id hM hS (mt_h hT hs) hd h1 h2 h3, zBV_some]
  exact h M hM
theorem gd_nil (hT : MT m T) (hs : Sf T s) (h : GK m T u G s [] J C ar dg mo D sm nu dn) : GD m T u G s [] J C ar dg mo D sm nu dn := by
  intro M hM
  rw [MR_eq hT hs hM]
  have e : zFu = 999 + 1 := rfl
  rw [e, LV_nil hM, zBV_some]
  exact h M hM
theorem gk_ok {c : Int} {r : List Int} (hk : KO m c M S J C ar dg mo D sm nu dn) (hS : S.length < 490) (hC : C.length + nE S ≤ 79) (h : GA m T u G r S J C ar dg mo D sm nu dn) : G (kS T u (c :: r) M) := by
  obtain ⟨M', e, hR⟩ := hk
  obtain ⟨M2, e2, hR2⟩ := mp_acts hR hS hC
  rw [kS_cons, e, zBI_some, if_neg (by decide), e2, zBV_some]
  exact h M2 hR2
theorem gk_no {c : Int} {r : List Int} (hk : KN m c dg mo nu dn M) (h : Fl m T G (c :: r)) (hb : Bd dg mo nu dn := by assumption) : G (kS T u (c :: r) M) := by
  obtain ⟨M', e, hR⟩ := hk
  rw [kS_cons, e, zBI_some, if_pos rfl]
  exact h M' _ _ _ _ hb hR
theorem gk_end (hT : MT m T) {q : Int × Int} (hq : S ≠ [] ∨ q.1 ≠ 1) (hS : S.length < 490) (h : Fl m T G []) (hb : Bd dg mo nu dn := by assumption) : GK m T u G [] (q :: S) J C ar dg mo D sm nu dn := by
  intro M hM
  obtain ⟨t1, t2, t3, t4, t5⟩ := mp_top hM (by omega)
  have e3 : zI M 201 3 = i3 (pl T []) := by
    obtain ⟨F3, F4, F5, F6, F7, rfl, -⟩ := hM
    rw [qM_k (by omega), hT.2.1]
    unfold pl
    simp
  show G (kZ M)
  have : kZ M = some (i3 (pl T []), M) := by
    unfold kZ
    simp only [zLet]
    have n0 : ¬ i3 ((S.length + 1 : Nat) : Int) = 0 := by
      rw [i3_z, i3_eq ⟨by omega, by omega⟩ ⟨by decide, by decide⟩]
      omega
    rw [t1, if_neg n0, e3]
    by_cases c1 : S = []
    · subst c1
      have hq : q.1 ≠ 1 := by
        rcases hq with h | h
        · exact absurd rfl h
        · exact h
      have e6 : zI M 203 (zIx 0) = i3 q.1 := by
        rw [← t3, t1]
        congr 1
      have n1 : ¬ i3 q.1 = 1 := by
        rw [i3_o, i3_eq ⟨by omega, by omega⟩ ⟨by decide, by decide⟩]
        exact hq
      rw [if_pos (show i3 (((([] : List (Int × Int)).length + 1 : Nat) : Int)) = 1 from rfl), if_pos (show zIn 0 500 by decide), e6, if_neg n1]
    · have : 0 < S.length := List.length_pos_iff.mpr c1
      have n1 : ¬ i3 ((S.length + 1 : Nat) : Int) = 1 := by
        rw [i3_o, i3_eq ⟨by omega, by omega⟩ ⟨by decide, by decide⟩]
        omega
      rw [if_neg n1]
  rw [this]
  exact h M _ _ _ _ hb hM.qf
/-- from what is told of a piece to what is told behind it -/
def CT {α : Type} (m : Mm) (T : List Int) (G : Option (Int32 × Mm) → Prop) (x : Rd α) (K : α → List Int → Prop) : Prop := match x with
  | .inl q => Fl m T G q
  | .inr (a, r) => K a r
theorem CT_B {α β : Type} {x : Rd α} {f : α → List Int → Rd β} {K : β → List Int → Prop} : CT m T G (pB x f) K = CT m T G x fun a r => CT m T G (f a r) K := by
  cases x with
  | inl s => rfl
  | inr z => rfl
theorem gd_dig (hT : MT m T) (hs : Sf T s) {w x lo hi : Int} (hw : 12 ≤ w ∧ w ≤ 19) (hz : Sz s ((w, x) :: S) J C D) (hb : Bd dg mo nu dn) (hok : ∀ c r, s = c :: r → (okD w c dg mo ↔ lo ≤ c - 48 ∧ c - 48 ≤ hi))
    (h : CT m T G (pDig lo hi s) fun d r => Sf T r → r.length + 1 = s.length → (0 ≤ d ∧ d ≤ 9) → GA m T u G r S J C (10 * ar + d) d (if w = 13 then 10 * dg + d else mo) D sm nu dn) : GD m T u G s ((w, x) :: S) J C ar dg mo D sm nu dn := by
  obtain ⟨b1, b2, b3, b4⟩ := id hb
  obtain ⟨z1, z2, z3⟩ := hz
  rw [List.length_cons] at z1
  refine gd_id hT hs (by omega) b4 (by simp only; omega) (by simp only; omega) (by simp only; omega) ?_
  cases s with
  | nil => exact gk_end hT (Or.inr (by simp only; omega)) (by omega) h
  | cons c r =>
    rw [List.length_cons] at z1
    have hc := mt_c hT hs
    intro M hM
    have q := kt_digit hw hM (by omega) (c := c) (by omega) b1 b2
    have ho := hok c r rfl
    rw [pDig_cons] at h
    by_cases e : lo ≤ c - 48 ∧ c - 48 ≤ hi
    · rw [if_pos e] at h
      have hd : 48 ≤ c ∧ c ≤ 57 := (ho.mpr e).1
      have hn : nE ((w, x) :: S) = nE S := by
        show nE S + (if w = 10 then 1 else 0) = nE S
        rw [if_neg (by omega), Nat.add_zero]
      exact gk_ok (q.1 (ho.mpr e)) (by omega) (by omega) (h hs.tl.1 rfl (by omega))
    · rw [if_neg e] at h
      exact gk_no (q.2 (fun z => e (ho.mp z))) h
end SIM
