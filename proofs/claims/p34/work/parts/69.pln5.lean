/-! THE CLASS READS A RULE PLAINLY: branches -/
section PLN5
variable {m : Mm} {q y t N : Nat} {T : List Int} {B K A : Nat → Int}
set_option maxHeartbeats 4000000 in
theorem pln_br (h : LT m q T y t) (hV : cV K A N) (hN : N ≤ 40) (hB : ∀ i, i < N → (K i = 4 ∨ K i = 15) → zI m 166 (A i).toNat = i3 (B (A i).toNat) ∧ -1 ≤ B (A i).toNat ∧ B (A i).toNat < sLen y) {u f n dep : Nat} {s r : List Int} {a : Cx} (S : Int32 → Int32 → Mm → Option Mm)
    (hS : ∀ (n' : Nat) (s' r' : List Int) (b' : Cx) (d1 : Int) (f1 : Bool), s'.length < s.length → pStp u n' s' = .inr (b', 125 :: r') → At K A n' b' → n' + b'.length ≤ N → Sf T s' → (-1 ≤ d1 ∧ d1 < sLen y) →
      (∃ (d' : Int) (f' : Bool), (-1 ≤ d' ∧ d' < sLen y) ∧ Go y t B K A N n' d1 f1 (n' + b'.length) d' f' ∧ S 1 (i3 dep) (lM m (i3 (pl T s')) (i3 d1)) = some (lM m (i3 (pl T (125 :: r'))) (i3 d'))) ∧ S 0 (i3 dep) (lM m (i3 (pl T s')) (i3 d1)) = some (lM m (i3 (pl T (125 :: r'))) (i3 d1)) ∧ Sf T (125 :: r'))
    (hu : s.length < u) (hf : s.length + 1 ≤ f) (hdep : dep + s.length ≤ 42) (hp : brS u n s = .inr (a, r)) (hA : At K A n a) (hn : n + a.length ≤ N) (hs : Sf T s) {d : Int} (hd : -1 ≤ d ∧ d < sLen y) (f0 : Bool) :
    (∃ (d' : Int) (f' : Bool), (-1 ≤ d' ∧ d' < sLen y) ∧ Go y t B K A N n d f0 (n + a.length) d' f' ∧ g_Pla_readBranch (zP_Pla f).2.2 S 1 (i3 dep) (lM m (i3 (pl T s)) (i3 d)) = some (lM m (i3 (pl T r)) (i3 d'))) ∧ g_Pla_readBranch (zP_Pla f).2.2 S 0 (i3 dep) (lM m (i3 (pl T s)) (i3 d)) = some (lM m (i3 (pl T r)) (i3 d)) ∧ Sf T r := by
  unfold brS at hp
  obtain ⟨a1, r1, p1, p2⟩ := pB_inv hp
  obtain ⟨_, r2, p3, p4⟩ := pB_inv p2
  have e1 := chr_inv p3
  subst e1
  obtain ⟨b, r3, p5, p6⟩ := pB_inv p4
  obtain ⟨_, r4, p7, p8⟩ := pB_inv p6
  have e2 := chr_inv p7
  subst e2
  have hl1 := log_lt p1
  rw [List.length_cons] at hl1
  have okb := ok_stp u (n + a1.length + 1) r2
  rw [p5] at okb
  unfold okR at okb
  simp only [List.length_cons] at okb
  -- the condition
  have hcond : ∀ f1, At K A n a1 → n + a1.length ≤ N → _ := fun f1 h1 h2 => pln_cond h hV hN hB hd u f n dep s (123 :: r2) a1 f1 hu hf hdep p1 h1 h2 hs
  have F0 : (b3 false = 0) = True := eq_true (by decide)
  have F1 : (b3 true = 0) = False := eq_false (by decide)
  have F2 : ((0 : Int32) = 0) = True := eq_true rfl
  have F3 : ((1 : Int32) = 0) = False := eq_false (by decide)
  -- what comes of the first steps
  have jump : ∀ (w : Bool) (L : Nat) (rest : Cx), At K A (n + a1.length) ((19, (L : Int)) :: rest) → n + a1.length < N → Go y t B K A N (n + a1.length) d w (if w then n + a1.length + 1 else L) d w := by
    intro w L rest hA2 hlt
    obtain ⟨k1, k2⟩ := hA2.hd
    have g7 := Go.one (y := y) (t := t) (B := B) (d := d) (f := w) hV (pc := n + a1.length) hlt
    rw [k1, k2] at g7
    have eD : ∀ v, xD y t B 19 v d = d := fun v => rfl
    have eF : ∀ v, xF y B 19 v d w = w := fun v => rfl
    simp only at g7
    rw [eD, eF] at g7
    cases w with
    | false =>
      have eN : xN 19 (L : Int) (n + a1.length) false = L := by unfold xN; rw [if_pos (Or.inr (Or.inl ⟨rfl, rfl⟩))]; omega
      rw [eN] at g7
      exact g7
    | true =>
      have eN : xN 19 (L : Int) (n + a1.length) true = n + a1.length + 1 := by unfold xN; rw [if_neg (by simp)]
      rw [eN] at g7
      exact g7
  -- without an else
  have noelse : r4.headD 0 ≠ 123 → a = a1 ++ [(19, ((n + a1.length + 1 + b.length : Nat) : Int))] ++ b → r = r4 → ((∃ (d' : Int) (f' : Bool), (-1 ≤ d' ∧ d' < sLen y) ∧ Go y t B K A N n d f0 (n + a.length) d' f' ∧ g_Pla_readBranch (zP_Pla f).2.2 S 1 (i3 dep) (lM m (i3 (pl T s)) (i3 d)) = some (lM m (i3 (pl T r)) (i3 d'))) ∧ g_Pla_readBranch (zP_Pla f).2.2 S 0 (i3 dep) (lM m (i3 (pl T s)) (i3 d)) = some (lM m (i3 (pl T r)) (i3 d)) ∧ Sf T r) := by
    intro hne ea er
    subst er
    have hA' := hA
    rw [ea] at hA'
    have hlen : a.length = a1.length + 1 + b.length := by rw [ea]; simp; omega
    have hAj : At K A (n + a1.length) ((19, ((n + a1.length + 1 + b.length : Nat) : Int)) :: b) := by
      rw [List.append_assoc] at hA'
      exact hA'.r
    have hAb : At K A (n + a1.length + 1) b := by
      have := hA'.r
      simp only [List.length_append, List.length_cons, List.length_nil] at this
      rw [show n + (a1.length + (0 + 1)) = n + a1.length + 1 by omega] at this
      exact this
    obtain ⟨w, g1, g2, g3⟩ := hcond f0 hA'.l.l (by omega)
    have hr2 := g3.tl
    obtain ⟨⟨d', f', bd', go', s1⟩, s0, sf⟩ := hS (n + a1.length + 1) r2 r b d w (by omega) p5 hAb (by omega) hr2.1 hd
    have hr4 := sf.tl
    have at1 := fun dd => pln_at h hr4.1 (d := dd)
    have hh := pln_h h hr4.1
    have ne : ∀ X : Option Mm, ∀ Y, (if i3 (r.headD 0) = 123 then X else Y) = Y := fun X Y => if_neg (by rw [show (123 : Int32) = i3 123 from rfl, i3_eq ⟨by omega, by omega⟩ ⟨by decide, by decide⟩]; exact hne)
    refine ⟨⟨if w then d' else d, if w then f' else w, by split <;> assumption, ?_, ?_⟩, ?_, hr4.1⟩
    · rw [hlen, show n + (a1.length + 1 + b.length) = n + a1.length + 1 + b.length by omega]
      have gj := jump w _ _ hAj (by omega)
      cases w with
      | false => exact g1.trans gj
      | true => exact g1.trans (gj.trans go')
    · unfold g_Pla_readBranch
      rw [g2, zBI_some]
      simp only [zLet]
      cases w with
      | false =>
        simp only [F0, F3, if_true, if_false, lM_p, i3_add1, hr2.2, lM_wp, s0, zBV_some, hr4.2, (at1 (i3 d)).1, lM_R]
        have e5 := (at1 (i3 d)).2
        rw [lM_p] at e5
        have gz := (at1 (i3 d)).1
        rw [lM_R] at gz
        rw [gz, e5, zBP_some, ne]
        rfl
      | true =>
        simp only [F1, F3, if_true, if_false, lM_p, i3_add1, hr2.2, lM_wp, s1, zBV_some, hr4.2, lM_R]
        have e5 := (at1 (i3 d')).2
        rw [lM_p] at e5
        have gz := (at1 (i3 d')).1
        rw [lM_R] at gz
        rw [gz, e5, zBP_some, ne]
    · unfold g_Pla_readBranch
      rw [g2, zBI_some]
      simp only [zLet]
      simp only [F2, if_true, lM_p, i3_add1, hr2.2, lM_wp, s0, zBV_some, hr4.2, lM_R]
      have e5 := (at1 (i3 d)).2
      rw [lM_p] at e5
      have gz := (at1 (i3 d)).1
      rw [lM_R] at gz
      rw [gz, e5, zBP_some, ne]
  cases r4 with
  | nil =>
    cases p8
    exact noelse (by decide) rfl rfl
  | cons o r5 =>
    by_cases co : o = 123
    case neg =>
      have p8 : (if o = 123 then _ else _) = (.inr (a, r) : Rd Cx) := p8
      rw [if_neg co] at p8
      cases p8
      exact noelse co rfl rfl
    subst co
    have p8 : (pB (pStp u (n + a1.length + 1 + b.length + 1) r5) fun d r6 => pB (pChr 125 r6) fun _ r7 => (.inr (a1 ++ [(19, ((n + a1.length + 1 + b.length + 1 : Nat) : Int))] ++ b ++ [(18, ((n + a1.length + 1 + b.length + 1 + d.length : Nat) : Int))] ++ d, r7) : Rd Cx)) = .inr (a, r) := p8
    obtain ⟨c, r6, p9, p10⟩ := pB_inv p8
    obtain ⟨_, r7, p11, p12⟩ := pB_inv p10
    have e3 := chr_inv p11
    subst e3
    cases p12
    simp only [List.length_cons] at okb
    simp only [List.length_append, List.length_cons, List.length_nil] at hn
    have hAj : At K A (n + a1.length) ((19, ((n + a1.length + 1 + b.length + 1 : Nat) : Int)) :: (b ++ ([(18, ((n + a1.length + 1 + b.length + 1 + c.length : Nat) : Int))] ++ c))) := by
      have := hA
      simp only [List.append_assoc] at this
      exact this.r
    have hAb : At K A (n + a1.length + 1) b := by
      have := hA.l.l.r
      simp only [List.length_append, List.length_cons, List.length_nil] at this
      rw [show n + (a1.length + (0 + 1)) = n + a1.length + 1 by omega] at this
      exact this
    have hA18 : At K A (n + a1.length + 1 + b.length) [(18, ((n + a1.length + 1 + b.length + 1 + c.length : Nat) : Int))] := by
      have := hA.l.r
      simp only [List.length_append, List.length_cons, List.length_nil] at this
      rw [show n + (a1.length + (0 + 1) + b.length) = n + a1.length + 1 + b.length by omega] at this
      exact this
    have hAc : At K A (n + a1.length + 1 + b.length + 1) c := by
      have := hA.r
      simp only [List.length_append, List.length_cons, List.length_nil] at this
      rw [show n + (a1.length + (0 + 1) + b.length + (0 + 1)) = n + a1.length + 1 + b.length + 1 by omega] at this
      exact this
    obtain ⟨w, g1, g2, g3⟩ := hcond f0 hA.l.l.l.l (by omega)
    have hr2 := g3.tl
    obtain ⟨⟨d', f', bd', go', s1⟩, s0, sf⟩ := hS (n + a1.length + 1) r2 (123 :: r5) b d w (by omega) p5 hAb (by omega) hr2.1 hd
    have hr4 := sf.tl
    have hr5 := hr4.1.tl
    obtain ⟨⟨d2, f2, bd2, go2, s3⟩, s2, sf2⟩ := hS (n + a1.length + 1 + b.length + 1) r5 r c d w (by omega) p9 hAc (by omega) hr5.1 hd
    obtain ⟨-, s4, -⟩ := hS (n + a1.length + 1 + b.length + 1) r5 r c d' w (by omega) p9 hAc (by omega) hr5.1 bd'
    have hr7 := sf2.tl
    have at1 := fun dd => pln_at h hr4.1 (d := dd)
    have ye : ∀ X : Option Mm, ∀ Y, (if i3 ((123 :: r5).headD 0) = 123 then X else Y) = X := fun X Y => if_pos rfl
    refine ⟨⟨if w then d' else d2, if w then f' else f2, by split <;> assumption, ?_, ?_⟩, ?_, hr7.1⟩
    · have hlen : n + (a1 ++ [((19 : Int), ((n + a1.length + 1 + b.length + 1 : Nat) : Int))] ++ b ++ [((18 : Int), ((n + a1.length + 1 + b.length + 1 + c.length : Nat) : Int))] ++ c).length = n + a1.length + 1 + b.length + 1 + c.length := by simp; omega
      rw [hlen]
      have gj := jump w _ _ hAj (by omega)
      cases w with
      | false => exact g1.trans (gj.trans go2)
      | true =>
        obtain ⟨k1, k2⟩ := hA18.hd
        have g8 := Go.one (y := y) (t := t) (B := B) (d := d') (f := f') hV (pc := n + a1.length + 1 + b.length) (by omega)
        rw [k1, k2] at g8
        have eD : ∀ v, xD y t B 18 v d' = d' := fun v => rfl
        have eF : ∀ v, xF y B 18 v d' f' = f' := fun v => rfl
        simp only at g8
        rw [eD, eF] at g8
        have eN : xN 18 ((n + a1.length + 1 + b.length + 1 + c.length : Nat) : Int) (n + a1.length + 1 + b.length) f' = n + a1.length + 1 + b.length + 1 + c.length := by unfold xN; rw [if_pos (Or.inl rfl)]; omega
        rw [eN] at g8
        exact g1.trans (gj.trans (go'.trans g8))
    · unfold g_Pla_readBranch
      rw [g2, zBI_some]
      simp only [zLet]
      cases w with
      | false =>
        simp only [F0, F3, if_true, if_false, lM_p, i3_add1, hr2.2, lM_wp, s0, zBV_some, hr4.2, lM_R]
        have e5 := (at1 (i3 d)).2
        rw [lM_p] at e5
        have gz := (at1 (i3 d)).1
        rw [lM_R] at gz
        rw [gz, e5, zBP_some, ye]
        simp only [hr5.2, s3, zBV_some, lM_p, i3_add1, hr7.2, lM_wp]
        rfl
      | true =>
        simp only [F1, F3, if_true, if_false, lM_p, i3_add1, hr2.2, lM_wp, s1, zBV_some, hr4.2, lM_R]
        have e5 := (at1 (i3 d')).2
        rw [lM_p] at e5
        have gz := (at1 (i3 d')).1
        rw [lM_R] at gz
        rw [gz, e5, zBP_some, ye]
        simp only [hr5.2, s4, zBV_some, lM_p, i3_add1, hr7.2, lM_wp]
    · unfold g_Pla_readBranch
      rw [g2, zBI_some]
      simp only [zLet]
      simp only [F2, if_true, lM_p, i3_add1, hr2.2, lM_wp, s0, zBV_some, hr4.2, lM_R]
      have e5 := (at1 (i3 d)).2
      rw [lM_p] at e5
      have gz := (at1 (i3 d)).1
      rw [lM_R] at gz
      rw [gz, e5, zBP_some, ye]
      simp only [hr5.2, s2, zBV_some, lM_p, i3_add1, hr7.2, lM_wp]
end PLN5
