/-! THE CLASS READS A RULE PLAINLY: steps -/
section PLN6
variable {m : Mm} {q y t N : Nat} {T : List Int} {B K A : Nat → Int}
theorem rs_body (h : LT m q T y t) {c : Int} {r0 : List Int} (hs : Sf T (c :: r0)) {i dep : Nat} (hi : i < 40) (hdep : dep ≤ 41) {d : Int32} {lv : Bool} (C : Int32 → Int32 → Mm → Option Mm) (R : Int32 → Mm → Option Mm) :
    l_g_Pla_readSteps_0 (i3 dep) C (b3 lv) R (i3 i) (lM m (i3 (pl T (c :: r0))) d) = if c = 125 then some (lM m (i3 (pl T (c :: r0))) d) else if c = 63 then zBV (C (b3 lv) (i3 ((dep + 1 : Nat) : Int)) (lM m (i3 (pl T r0)) d)) (R (i3 ((i + 1 : Nat) : Int)))
      else if c = 43 ∨ c = 45 then zBV (f_Pla_readDays (b3 lv) (lM m (i3 (pl T (c :: r0))) d)) (R (i3 ((i + 1 : Nat) : Int))) else zBV (f_Pla_readMove (i3 c) (b3 lv) (lM m (i3 (pl T r0)) d)) (R (i3 ((i + 1 : Nat) : Int))) := by
  obtain ⟨g, e2⟩ := pln_at h hs (d := d)
  have hc := pln_c h hs
  have ei : i3 (i : Int) + 1 = i3 ((i + 1 : Nat) : Int) := i3_add1 _
  have ed : i3 (dep : Int) + 1 = i3 ((dep + 1 : Nat) : Int) := i3_add1 _
  have ep : wI (lM m (i3 (pl T (c :: r0))) d) 164 5 (zI (lM m (i3 (pl T (c :: r0))) d) 164 5 + 1) = lM m (i3 (pl T r0)) d := by rw [lM_p, i3_add1, hs.tl.2, lM_wp]
  unfold l_g_Pla_readSteps_0
  rw [if_neg (show ¬ (40 : Int32) ≤ i3 (i : Int) by rw [show (40 : Int32) = i3 40 from rfl, i3_le ⟨by decide, by decide⟩ ⟨by omega, by omega⟩]; omega), if_neg (show ¬ (41 : Int32) < i3 (dep : Int) by rw [show (41 : Int32) = i3 41 from rfl, i3_lt ⟨by decide, by decide⟩ ⟨by omega, by omega⟩]; omega), g, e2, zBP_some, List.headD_cons]
  simp only [zLet, ei, ed, ep]
  have n0 : ¬ i3 c = 0 := by rw [show (0 : Int32) = i3 0 from rfl, i3_eq ⟨by omega, by omega⟩ ⟨by decide, by decide⟩]; omega
  have e125 : (i3 c = 125) ↔ c = 125 := i3_eq (b := 125) ⟨by omega, by omega⟩ ⟨by decide, by decide⟩
  have e63 : (i3 c = 63) ↔ c = 63 := i3_eq (b := 63) ⟨by omega, by omega⟩ ⟨by decide, by decide⟩
  have e43 : (i3 c = 43) ↔ c = 43 := i3_eq (b := 43) ⟨by omega, by omega⟩ ⟨by decide, by decide⟩
  have e45 : (i3 c = 45) ↔ c = 45 := i3_eq (b := 45) ⟨by omega, by omega⟩ ⟨by decide, by decide⟩
  simp only [e125, e63, e43, e45, if_neg n0]
  by_cases c1 : c = 125
  · rw [if_pos c1, if_pos c1]
  rw [if_neg c1, if_neg c1]
  by_cases c2 : c = 63
  · rw [if_pos c2, if_pos c2]
  rw [if_neg c2, if_neg c2]
  by_cases c3 : c = 43
  · rw [if_pos c3, if_pos (Or.inl c3)]
  rw [if_neg c3]
  by_cases c4 : c = 45
  · rw [if_pos c4, if_pos (Or.inr c4)]
  rw [if_neg c4, if_neg (by omega)]
theorem rs_nil (h : LT m q T y t) (hs : Sf T []) {i dep : Nat} (hi : i ≤ 40) {d p1 : Int32} (C : Int32 → Int32 → Mm → Option Mm) (R : Int32 → Mm → Option Mm) : l_g_Pla_readSteps_0 (i3 dep) C p1 R (i3 i) (lM m (i3 (pl T [])) d) = some (lM m (i3 (pl T [])) d) := by
  obtain ⟨g, e2⟩ := pln_at h hs (d := d)
  unfold l_g_Pla_readSteps_0
  split
  · rfl
  · split
    · rfl
    · rw [g, e2, zBP_some, if_neg (show ¬ i3 (([] : List Int).headD 0) = 125 by decide), if_pos (show i3 (([] : List Int).headD 0) = 0 by decide)]
set_option maxHeartbeats 4000000 in
theorem pln_steps (h : LT m q T y t) (hV : cV K A N) (hN : N ≤ 40) (hB : ∀ i, i < N → (K i = 4 ∨ K i = 15) → zI m 166 (A i).toNat = i3 (B (A i).toNat) ∧ -1 ≤ B (A i).toNat ∧ B (A i).toNat < sLen y) : ∀ (u f fuel n dep i : Nat) (s r : List Int) (b : Cx) (d : Int) (f0 : Bool), s.length < u → 2 * s.length + 2 ≤ f → s.length + 1 ≤ fuel → dep + s.length ≤ 41 → (i : Int) ≤ pl T s → pStp u n s = .inr (b, r) → (r.headD 0 = 125 ∨ r = []) → At K A n b → n + b.length ≤ N → Sf T s → (-1 ≤ d ∧ d < sLen y) →
    (∃ (d' : Int) (f' : Bool), (-1 ≤ d' ∧ d' < sLen y) ∧ Go y t B K A N n d f0 (n + b.length) d' f' ∧ zLp1 (l_g_Pla_readSteps_0 (i3 dep) (zP_Pla f).2.1 (b3 true)) fuel (i3 i) (lM m (i3 (pl T s)) (i3 d)) = some (lM m (i3 (pl T r)) (i3 d'))) ∧ zLp1 (l_g_Pla_readSteps_0 (i3 dep) (zP_Pla f).2.1 (b3 false)) fuel (i3 i) (lM m (i3 (pl T s)) (i3 d)) = some (lM m (i3 (pl T r)) (i3 d)) ∧ Sf T r := by
  have hL := sLen_bd y
  have h40 := h.2.2.2.1.1
  intro u
  induction u with
  | zero => intro f fuel n dep i s r b d f0 h1; exact absurd h1 (Nat.not_lt_zero _)
  | succ u ih =>
    intro f fuel n dep i s r b d f0 hu hf hfu hdep hi hp hr hA hn hs hd
    obtain ⟨g, rfl⟩ : ∃ g, fuel = g + 1 := ⟨fuel - 1, by omega⟩
    have hb := pl_bd hs h40
    have un : ∀ lv M, zLp1 (l_g_Pla_readSteps_0 (i3 dep) (zP_Pla f).2.1 (b3 lv)) (g + 1) (i3 i) M = l_g_Pla_readSteps_0 (i3 dep) (zP_Pla f).2.1 (b3 lv) (zLp1 (l_g_Pla_readSteps_0 (i3 dep) (zP_Pla f).2.1 (b3 lv)) g) (i3 i) M := fun _ _ => rfl
    rw [un, un]
    have stop : b = [] → r = s → (∀ lv, l_g_Pla_readSteps_0 (i3 dep) (zP_Pla f).2.1 (b3 lv) (zLp1 (l_g_Pla_readSteps_0 (i3 dep) (zP_Pla f).2.1 (b3 lv)) g) (i3 i) (lM m (i3 (pl T s)) (i3 d)) = some (lM m (i3 (pl T s)) (i3 d))) →
        (∃ (d' : Int) (f' : Bool), (-1 ≤ d' ∧ d' < sLen y) ∧ Go y t B K A N n d f0 (n + b.length) d' f' ∧ l_g_Pla_readSteps_0 (i3 dep) (zP_Pla f).2.1 (b3 true) (zLp1 (l_g_Pla_readSteps_0 (i3 dep) (zP_Pla f).2.1 (b3 true)) g) (i3 i) (lM m (i3 (pl T s)) (i3 d)) = some (lM m (i3 (pl T r)) (i3 d'))) ∧ l_g_Pla_readSteps_0 (i3 dep) (zP_Pla f).2.1 (b3 false) (zLp1 (l_g_Pla_readSteps_0 (i3 dep) (zP_Pla f).2.1 (b3 false)) g) (i3 i) (lM m (i3 (pl T s)) (i3 d)) = some (lM m (i3 (pl T r)) (i3 d)) ∧ Sf T r := by
      intro e1 e2 e3
      subst e1 e2
      exact ⟨⟨d, f0, hd, Go.refl, e3 true⟩, e3 false, hs⟩
    cases s with
    | nil =>
      have hp : (.inr ([], []) : Rd Cx) = .inr (b, r) := hp
      cases hp
      exact stop rfl rfl (fun lv => rs_nil h hs (by omega) _ _)
    | cons c r0 =>
      have hc := pln_c h hs
      have htl := hs.tl
      have hbr := pl_bd htl.1 h40
      rw [List.length_cons] at hu hf hfu hdep
      have body := fun (lv : Bool) => rs_body h hs (i := i) (dep := dep) (by omega) (by omega) (d := i3 d) (lv := lv) (zP_Pla f).2.1 (zLp1 (l_g_Pla_readSteps_0 (i3 dep) (zP_Pla f).2.1 (b3 lv)) g)
      rw [body, body]
      rw [pStp_cons] at hp
      -- a step, and what is behind it
      have cat : ∀ (a : Cx) (r1 : List Int) (b' : Cx), r1.length ≤ r0.length → pStp u (n + a.length) r1 = .inr (b', r) → b = a ++ b' → Sf T r1 → ∀ (st : Bool → Option Mm),
          (∃ (d1 : Int) (f1 : Bool), (-1 ≤ d1 ∧ d1 < sLen y) ∧ Go y t B K A N n d f0 (n + a.length) d1 f1 ∧ st true = some (lM m (i3 (pl T r1)) (i3 d1))) → st false = some (lM m (i3 (pl T r1)) (i3 d)) →
          (∃ (d' : Int) (f' : Bool), (-1 ≤ d' ∧ d' < sLen y) ∧ Go y t B K A N n d f0 (n + b.length) d' f' ∧ zBV (st true) (zLp1 (l_g_Pla_readSteps_0 (i3 dep) (zP_Pla f).2.1 (b3 true)) g (i3 ((i + 1 : Nat) : Int))) = some (lM m (i3 (pl T r)) (i3 d'))) ∧ zBV (st false) (zLp1 (l_g_Pla_readSteps_0 (i3 dep) (zP_Pla f).2.1 (b3 false)) g (i3 ((i + 1 : Nat) : Int))) = some (lM m (i3 (pl T r)) (i3 d)) ∧ Sf T r := by
        intro a r1 b' hl hp1 hbe hs1 st hst hsf
        obtain ⟨d1, f1, bd1, g1, e1⟩ := hst
        subst hbe
        have hle := htl.1.le
        have hpl : pl T r0 ≤ pl T r1 := by unfold pl; omega
        rw [List.length_append] at hn ⊢
        obtain ⟨⟨d', f', bd', g2, e2⟩, -, sf⟩ := ih f g (n + a.length) dep (i + 1) r1 r b' d1 f1 (by omega) (by omega) (by omega) (by omega) (by omega) hp1 hr hA.r (by omega) hs1 bd1
        obtain ⟨-, e3, -⟩ := ih f g (n + a.length) dep (i + 1) r1 r b' d f1 (by omega) (by omega) (by omega) (by omega) (by omega) hp1 hr hA.r (by omega) hs1 hd
        refine ⟨⟨d', f', bd', ?_, ?_⟩, ?_, sf⟩
        · rw [show n + (a.length + b'.length) = n + a.length + b'.length by omega]
          exact g1.trans g2
        · rw [e1, zBV_some, e2]
        · rw [hsf, zBV_some, e3]
      by_cases c125 : c = 125
      · rw [if_pos c125, if_pos c125]
        subst c125
        rw [if_neg (by decide), if_neg (by decide), if_pos (by decide)] at hp
        cases hp
        exact ⟨⟨d, f0, hd, Go.refl, rfl⟩, rfl, hs⟩
      rw [if_neg c125, if_neg c125]
      by_cases c1 : c = 43 ∨ c = 45
      · have hok9 := ok_days1 (u := r0.length + 1) (r := r0) c1
        rw [if_pos c1] at hp
        rw [if_neg (show ¬ c = 63 by omega), if_neg (show ¬ c = 63 by omega), if_pos c1, if_pos c1]
        unfold dyS at hp
        rw [pB_assoc] at hp
        obtain ⟨σ, r1, p1, p2⟩ := pB_inv hp
        have p2 : (pB (pStp u (n + (cDays σ).length) r1) fun b r2 => (.inr (cDays σ ++ b, r2) : Rd Cx)) = .inr (b, r) := p2
        obtain ⟨b', r2, p3, p4⟩ := pB_inv p2
        cases p4
        rw [p1] at hok9
        unfold okR at hok9
        simp only [List.length_cons] at hok9
        have hnd : ¬ (48 ≤ r1.headD 0 ∧ r1.headD 0 ≤ 57) := by
          intro hz
          cases r1 with
          | nil => exact absurd hz (by decide)
          | cons z r3 =>
            have hz : 48 ≤ z ∧ z ≤ 57 := hz
            rw [pStp_dig hz] at p3
            cases p3
            rcases hr with h1 | h1
            · have h1 : z = 125 := h1
              omega
            · cases h1
        have dy := fun (lv : Bool) => pln_days h hs (show (c :: r0).length < r0.length + 2 by simp) p1 hnd (d := d) ⟨by omega, by omega⟩ lv
        refine cat (cDays σ) r1 b' (by omega) p3 rfl (dy true).2 (fun lv => f_Pla_readDays (b3 lv) (lM m (i3 (pl T (c :: r0))) (i3 d))) ?_ (dy false).1
        refine ⟨sLater y d σ, f0, sLater_bd y d σ, ?_, (dy true).1⟩
        unfold cDays at hA hn ⊢
        by_cases h0 : σ = 0
        · have e : sLater y d σ = d := by
            unfold sLater
            split
            · omega
            · rw [h0, Int.add_zero, sTo_in hd]
          rw [if_pos h0, e]
          exact Go.refl
        · rw [if_neg h0] at hA hn ⊢
          obtain ⟨k1, k2⟩ := hA.l.hd
          simp only [List.length_append, List.length_cons, List.length_nil] at hn
          have g4 := Go.one (y := y) (t := t) (B := B) (d := d) (f := f0) hV (pc := n) (by omega)
          rw [k1, k2] at g4
          have eD : xD y t B 5 (5000 + σ) d = sLater y d σ := by
            show sLater y d (5000 + σ - 5000) = _
            rw [show 5000 + σ - 5000 = σ by omega]
          have eF : ∀ v, xF y B 5 v d f0 = f0 := fun v => rfl
          have eN : ∀ v, xN 5 v n f0 = n + 1 := fun v => by unfold xN; rw [if_neg (by simp)]
          simp only at g4
          rw [eD, eF, eN] at g4
          exact g4
      rw [if_neg c1] at hp
      by_cases c63 : c = 63
      · subst c63
        rw [if_pos rfl] at hp
        rw [if_pos rfl, if_pos rfl]
        obtain ⟨a, r1, p1, p2⟩ := pB_inv hp
        obtain ⟨b', r2, p3, p4⟩ := pB_inv p2
        cases p4
        have hok : okR List.length 0 (63 :: r0) (brS u n r0) := ok_br (u := u) (n := n) (c := 63) (r := r0) (ok_stp u)
        have h11 := br_ne p1
        rw [p1] at hok
        unfold okR at hok
        simp only [List.length_cons] at hok
        obtain ⟨f1, rfl⟩ : ∃ f1, f = f1 + 1 := ⟨f - 1, by omega⟩
        obtain ⟨f2, rfl⟩ : ∃ f2, f1 = f2 + 1 := ⟨f1 - 1, by omega⟩
        have eb : (zP_Pla (f2 + 1 + 1)).2.1 = g_Pla_readBranch (zP_Pla (f2 + 1)).2.2 (g_Pla_readSteps (zP_Pla f2).2.1) := rfl
        have hb1 : (1 : Int32) = b3 true := by decide
        have hb0 : (0 : Int32) = b3 false := by decide
        have z0 : (0 : Int32) = i3 ((0 : Nat) : Int) := rfl
        rw [List.length_append] at hn
        have br := pln_br h hV hN hB (u := u) (f := f2 + 1) (n := n) (dep := dep + 1) (g_Pla_readSteps (zP_Pla f2).2.1) (fun n' s' r' b'' d1 f1' k1 k2 k3 k4 k5 k6 => by
          have hb3 := pl_bd k5 h40
          have := ih f2 zFu n' (dep + 1) 0 s' (125 :: r') b'' d1 f1' (by omega) (by omega) (by have := k5.le; unfold zFu; omega) (by omega) (by omega) k2 (Or.inl rfl) k3 k4 k5 k6
          rw [e_g_Pla_readSteps, e_g_Pla_readSteps, hb1]
          exact this) (by omega) (by omega) (by omega) p1 hA.l (by omega) htl.1 hd f0
        obtain ⟨⟨d1, f1', bd1, g1, e1⟩, e2, sf⟩ := br
        refine cat a r1 b' (by omega) p3 rfl sf (fun lv => (zP_Pla (f2 + 1 + 1)).2.1 (b3 lv) (i3 ((dep + 1 : Nat) : Int)) (lM m (i3 (pl T r0)) (i3 d))) ?_ ?_
        · rw [eb, ← hb1]
          exact ⟨d1, f1', bd1, g1, e1⟩
        · rw [eb, ← hb0]
          exact e2
      rw [if_neg c63] at hp
      rw [if_neg c63, if_neg c63, if_neg c1, if_neg c1]
      by_cases c0 : mvK c = 0
      · rw [if_pos c0] at hp
        cases hp
        rcases hr with h1 | h1
        · exact absurd h1 c125
        · cases h1
      rw [if_neg c0] at hp
      obtain ⟨a, r1, p1, p2⟩ := pB_inv hp
      obtain ⟨b', r2, p3, p4⟩ := pB_inv p2
      cases p4
      obtain ⟨v, rfl, -⟩ := part_ne p1
      have hok := ok_part (kd := mvK c) (fs := mvF c) r0 (c :: r0) (by simp)
      rw [p1] at hok
      unfold okR at hok
      simp only [List.length_cons, List.length_nil] at hok
      have mv := fun (lv : Bool) => pln_move h htl.1 c0 p1 (d := d) ⟨by omega, by omega⟩ lv
      refine cat [(mvK c, v)] r1 b' (by omega) p3 rfl (mv true).2 (fun lv => f_Pla_readMove (i3 c) (b3 lv) (lM m (i3 (pl T r0)) (i3 d))) ?_ (mv false).1
      refine ⟨sMove y t (mvK c) v d, f0, sMove_bd y t (mvK c) v d, ?_, (mv true).1⟩
      obtain ⟨k1, k2⟩ := hA.l.hd
      simp only [List.length_append, List.length_cons, List.length_nil] at hn
      have hkd : 6 ≤ mvK c ∧ mvK c ≤ 12 := by
        have : mvK c = 0 ∨ (6 ≤ mvK c ∧ mvK c ≤ 12) := by
          unfold mvK
          repeat (first | omega | split)
        omega
      have g4 := Go.one (y := y) (t := t) (B := B) (d := d) (f := f0) hV (pc := n) (by omega)
      rw [k1, k2] at g4
      simp only at g4
      have eD : xD y t B (mvK c) v d = sMove y t (mvK c) v d := by unfold xD; rw [if_neg (by omega), if_neg (by omega), if_pos (by omega)]
      have eF : xF y B (mvK c) v d f0 = f0 := by unfold xF; rw [if_neg (by omega), if_neg (by omega)]
      have eN : xN (mvK c) v n f0 = n + 1 := by unfold xN; rw [if_neg (by omega)]
      rw [eD, eF, eN] at g4
      exact g4
end PLN6
