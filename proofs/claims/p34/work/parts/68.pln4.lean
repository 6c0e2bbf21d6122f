/-! THE CLASS READS A RULE PLAINLY: conditions -/
section GO
variable {y t n : Nat} {B K A : Nat → Int}
theorem xgo_fuel (hV : cV K A n) : ∀ (u v pc : Nat) (d : Int) (f : Bool) (c : Int), n ≤ u + pc → n ≤ v + pc → xgo y t B K A n u pc d f c = xgo y t B K A n v pc d f c := by
  intro u
  induction u with
  | zero => intro v pc d f c h1 _; rw [xgo_end (by omega), xgo_end (by omega)]
  | succ u ih =>
    intro v pc d f c h1 h2
    by_cases e : n ≤ pc
    · rw [xgo_end e, xgo_end e]
    · obtain ⟨v', rfl⟩ : ∃ v', v = v' + 1 := ⟨v - 1, by omega⟩
      have hn := xN_bd (f := xF y B (K pc) (A pc) d f) (hV pc (by omega)) (by omega)
      rw [xgo_go (by omega), xgo_go (by omega)]
      exact ih v' _ _ _ _ (by omega) (by omega)
/-- going through the code from pc comes to pc' -/
def Go (y t : Nat) (B K A : Nat → Int) (n pc : Nat) (d : Int) (f : Bool) (pc' : Nat) (d' : Int) (f' : Bool) : Prop := ∀ c, ∃ c', xgo y t B K A n (n - pc) pc d f c = xgo y t B K A n (n - pc') pc' d' f' c'
theorem Go.refl {pc : Nat} {d : Int} {f : Bool} : Go y t B K A n pc d f pc d f := fun c => ⟨c, rfl⟩
theorem Go.trans {p1 p2 p3 : Nat} {d1 d2 d3 : Int} {f1 f2 f3 : Bool} (h : Go y t B K A n p1 d1 f1 p2 d2 f2) (h2 : Go y t B K A n p2 d2 f2 p3 d3 f3) : Go y t B K A n p1 d1 f1 p3 d3 f3 := by
  intro c
  obtain ⟨c', e⟩ := h c
  obtain ⟨c'', e2⟩ := h2 c'
  exact ⟨c'', by rw [e, e2]⟩
theorem Go.one (hV : cV K A n) {pc : Nat} {d : Int} {f : Bool} (h : pc < n) : Go y t B K A n pc d f (xN (K pc) (A pc) pc (xF y B (K pc) (A pc) d f)) (xD y t B (K pc) (A pc) d) (xF y B (K pc) (A pc) d f) := by
  intro c
  have hn := xN_bd (f := xF y B (K pc) (A pc) d f) (hV pc h) h
  refine ⟨c + sCost (K pc), ?_⟩
  rw [show n - pc = n - pc - 1 + 1 by omega, xgo_go h]
  exact xgo_fuel hV _ _ _ _ _ _ (by omega) (by omega)
end GO
def At (K A : Nat → Int) (n0 : Nat) (b : Cx) : Prop := ∀ i, i < b.length → K (n0 + i) = (b.getD i (0, 0)).1 ∧ A (n0 + i) = (b.getD i (0, 0)).2
theorem At.l {K A : Nat → Int} {n0 : Nat} {a b : Cx} (h : At K A n0 (a ++ b)) : At K A n0 a := fun i hi => by
  have := h i (by rw [List.length_append]; omega)
  rw [gD_l hi] at this
  exact this
theorem At.r {K A : Nat → Int} {n0 : Nat} {a b : Cx} (h : At K A n0 (a ++ b)) : At K A (n0 + a.length) b := fun i hi => by
  have := h (a.length + i) (by rw [List.length_append]; omega)
  rw [gD_r (by omega), show a.length + i - a.length = i by omega] at this
  rw [show n0 + a.length + i = n0 + (a.length + i) by omega]
  exact this
theorem At.hd {K A : Nat → Int} {n0 : Nat} {q : Int × Int} {b : Cx} (h : At K A n0 (q :: b)) : K n0 = q.1 ∧ A n0 = q.2 := h 0 (by simp)
section PLN4
variable {m : Mm} {q y t N : Nat} {T : List Int} {B K A : Nat → Int}
set_option maxHeartbeats 2000000 in
theorem pln_cond (h : LT m q T y t) (hV : cV K A N) (hN : N ≤ 40) (hB : ∀ i, i < N → (K i = 4 ∨ K i = 15) → zI m 166 (A i).toNat = i3 (B (A i).toNat) ∧ -1 ≤ B (A i).toNat ∧ B (A i).toNat < sLen y) {d : Int} (hd : -1 ≤ d ∧ d < sLen y) : ∀ (u f n dep : Nat) (s r : List Int) (a : Cx) (f0 : Bool), s.length < u → s.length + 1 ≤ f → dep + s.length ≤ 42 → pLog true u n s = .inr (a, r) → At K A n a → n + a.length ≤ N → Sf T s →
    ∃ w : Bool, Go y t B K A N n d f0 (n + a.length) d w ∧ (zP_Pla f).2.2 (i3 dep) (lM m (i3 (pl T s)) (i3 d)) = some (b3 w, lM m (i3 (pl T r)) (i3 d)) ∧ Sf T r := by
  have hL := sLen_bd y
  intro u
  induction u with
  | zero => intro f n dep s r a f0 h1; exact absurd h1 (Nat.not_lt_zero _)
  | succ u ih =>
    intro f n dep s r a f0 hu hf hdep hp hA hn hs
    obtain ⟨f, rfl⟩ : ∃ f', f = f' + 1 := ⟨f - 1, by omega⟩
    have e0 : (zP_Pla (f + 1)).2.2 = g_Pla_readCondition (zP_Pla f).2.2 := rfl
    rw [e0]
    have W : ∀ {p dd : Int32}, Wk (lM m p dd) 165 y t := fun {p dd} => h.lt.2.2.2.2
    have D : ∀ {p : Int32}, zI (lM m p (i3 d)) 165 5 = i3 d := fun {p} => lM_d
    have hd4 : -1 ≤ d ∧ d < 400 := by omega
    cases s with
    | nil => cases hp
    | cons c r0 =>
      have hc := pln_c h hs
      have hr0 := hs.tl.1
      rw [List.length_cons] at hu hf hdep
      unfold g_Pla_readCondition
      rw [if_pos (show i3 (dep : Int) ≤ 41 by rw [show (41 : Int32) = i3 41 from rfl, i3_le ⟨by omega, by omega⟩ ⟨by decide, by decide⟩]; omega), pln_sign h hs, zBI_some]
      have edep : i3 (dep : Int) + 1 = i3 ((dep + 1 : Nat) : Int) := i3_add1 _
      unfold pLog at hp
      by_cases c33 : c = 33
      · subst c33
        rw [if_pos rfl] at hp
        obtain ⟨a1, r1, h1, h2⟩ := pB_inv hp
        cases h2
        rw [List.length_append] at hn
        have hl17 : [((17 : Int), (0 : Int))].length = 1 := rfl
        obtain ⟨w, g1, g2, g3⟩ := ih f n (dep + 1) r0 r a1 f0 (by omega) (by omega) (by omega) h1 hA.l (by omega) hr0
        obtain ⟨k1, k2⟩ := hA.r.hd
        have g4 := Go.one (y := y) (t := t) (B := B) (d := d) (f := w) hV (pc := n + a1.length) (by omega)
        rw [k1, k2] at g4
        have eD : xD y t B 17 0 d = d := rfl
        have eF : xF y B 17 0 d w = !w := rfl
        have eN : xN 17 0 (n + a1.length) (!w) = n + a1.length + 1 := by unfold xN; rw [if_neg (by simp)]
        rw [eD, eF, eN] at g4
        refine ⟨!w, ?_, ?_, g3⟩
        · rw [List.length_append, hl17, show n + (a1.length + 1) = n + a1.length + 1 by omega]
          exact g1.trans g4
        · rw [if_pos (show i3 33 = 33 by decide), edep, g2, zBI_some]
          cases w with
          | true => rw [if_neg (show ¬ b3 true = 0 by decide)]; rfl
          | false => rw [if_pos (show b3 false = 0 by decide)]; rfl
      rw [if_neg c33] at hp
      by_cases c40 : c = 40
      · subst c40
        rw [if_pos rfl] at hp
        obtain ⟨a1, r1, h1, h2⟩ := pB_inv hp
        cases r1 with
        | nil => cases h2
        | cons o r2 =>
          simp only at h2
          by_cases co : o = 38 ∨ o = 124
          case neg =>
            rw [if_neg co] at h2
            cases h2
          rw [if_pos co] at h2
          obtain ⟨b, r3, h3, h4⟩ := pB_inv h2
          obtain ⟨_, r4, h5, h6⟩ := pB_inv h4
          cases h6
          have e5 := chr_inv h5
          subst e5
          have hl1 := log_lt h1
          have hl3 := log_lt h3
          simp only [List.length_append, List.length_cons, List.length_nil] at hn hl1 hl3
          obtain ⟨wa, g1, g2, g3⟩ := ih f n (dep + 1) r0 (o :: r2) a1 f0 (by omega) (by omega) (by omega) h1 hA.l.l (by omega) hr0
          obtain ⟨k1, k2⟩ := hA.l.r.hd
          have hAb : At K A (n + a1.length + 1) b := by
            have := hA.r
            simp only [List.length_append, List.length_cons, List.length_nil] at this
            rw [show n + (a1.length + (0 + 1)) = n + a1.length + 1 by omega] at this
            exact this
          obtain ⟨wb, g4, g5, g6⟩ := ih f (n + a1.length + 1) (dep + 1) r2 (41 :: r) b wa (by omega) (by omega) (by omega) h3 hAb (by omega) g3.tl.1
          have g7 := Go.one (y := y) (t := t) (B := B) (d := d) (f := wa) hV (pc := n + a1.length) (by omega)
          rw [k1, k2] at g7
          have epc : (((n + a1.length + 1 + b.length : Nat) : Int)).toNat = n + a1.length + 1 + b.length := by omega
          have hlen : n + (a1 ++ [((if o = 38 then (19 : Int) else 20), (((n + a1.length + 1 + b.length : Nat) : Int)))] ++ b).length = n + a1.length + 1 + b.length := by simp; omega
          have rest : ∀ X : Int32, (if o = 38 then (1 : Int32) else 0) = X → (zBI ((zP_Pla f).2.2 (i3 ((dep + 1 : Nat) : Int)) (lM m (i3 (pl T r2)) (i3 d))) fun v31 m30 => zLet (wI m30 164 5 ((zI m30 164 5) + 1)) fun m32 =>
                if X = 0 then
                  zLet (some ((1 : Int32), m32)) fun j35 =>
                  if b3 wa = 0 then
                    if v31 = 0 then
                      some (0, m32)
                    else
                      j35
                  else
                    j35
                else
                  zLet (some ((0 : Int32), m32)) fun j38 =>
                  if b3 wa = 0 then
                    j38
                  else
                    if v31 = 0 then
                      j38
                    else
                      some (1, m32)) = some (b3 (if o = 38 then wa && wb else wa || wb), lM m (i3 (pl T r)) (i3 d)) := by
            intro X hX
            subst hX
            rw [g5, zBI_some]
            simp only [zLet]
            rw [lM_p, i3_add1, g6.tl.2, lM_wp]
            by_cases e38 : o = 38
            · rw [if_pos e38, if_pos e38, if_neg (show ¬ (1 : Int32) = 0 by decide)]
              cases wa <;> cases wb <;> rfl
            · rw [if_neg e38, if_neg e38]
              cases wa <;> cases wb <;> rfl
          refine ⟨if o = 38 then wa && wb else wa || wb, ?_, ?_, g6.tl.1⟩
          · rw [hlen]
            by_cases e38 : o = 38
            · rw [if_pos e38] at g7 ⊢
              have eD : ∀ v, xD y t B 19 v d = d := fun v => rfl
              have eF : ∀ v, xF y B 19 v d wa = wa := fun v => rfl
              rw [eD, eF] at g7
              cases wa with
              | false =>
                have eN : xN 19 (((n + a1.length + 1 + b.length : Nat) : Int)) (n + a1.length) false = n + a1.length + 1 + b.length := by unfold xN; rw [if_pos (Or.inr (Or.inl ⟨rfl, rfl⟩)), epc]
                rw [eN] at g7
                exact g1.trans g7
              | true =>
                have eN : xN 19 (((n + a1.length + 1 + b.length : Nat) : Int)) (n + a1.length) true = n + a1.length + 1 := by unfold xN; rw [if_neg (by simp)]
                rw [eN] at g7
                exact g1.trans (g7.trans g4)
            · rw [if_neg e38] at g7 ⊢
              have eD : ∀ v, xD y t B 20 v d = d := fun v => rfl
              have eF : ∀ v, xF y B 20 v d wa = wa := fun v => rfl
              rw [eD, eF] at g7
              cases wa with
              | true =>
                have eN : xN 20 (((n + a1.length + 1 + b.length : Nat) : Int)) (n + a1.length) true = n + a1.length + 1 + b.length := by unfold xN; rw [if_pos (Or.inr (Or.inr ⟨rfl, rfl⟩)), epc]
                rw [eN] at g7
                exact g1.trans g7
              | false =>
                have eN : xN 20 (((n + a1.length + 1 + b.length : Nat) : Int)) (n + a1.length) false = n + a1.length + 1 := by unfold xN; rw [if_neg (by simp)]
                rw [eN] at g7
                exact g1.trans (g7.trans g4)
          · rw [if_neg (show ¬ i3 40 = 33 by decide), if_neg (show ¬ i3 40 = 65 by decide), if_neg (show ¬ i3 40 = 69 by decide), if_neg (show ¬ i3 40 = 87 by decide), if_neg (show ¬ i3 40 = 89 by decide), edep, g2, zBI_some, pln_sign h g3, zBI_some]
            by_cases e38 : o = 38
            · have := rest 1 (if_pos e38)
              exact (if_pos (show i3 o = 38 by rw [e38]; decide)).trans this
            · have := rest 0 (if_neg e38)
              exact (if_neg (show ¬ i3 o = 38 by rw [show (38 : Int32) = i3 38 from rfl, i3_eq ⟨by omega, by omega⟩ ⟨by decide, by decide⟩]; exact e38)).trans this
      rw [if_neg c40] at hp
      by_cases c0 : lgK true c = 0
      · rw [if_pos c0] at hp
        cases hp
      rw [if_neg c0] at hp
      obtain ⟨v, rfl, hfl⟩ := part_ne hp
      obtain ⟨k1, k2⟩ := hA.hd
      simp only [List.length_cons, List.length_nil] at hn
      have hvs := hV n (by omega)
      have g4 := Go.one (y := y) (t := t) (B := B) (d := d) (f := f0) hV (pc := n) (by omega)
      have hBn := hB n (by omega)
      rw [k1, k2] at g4 hvs hBn
      simp only at g4 hvs hBn
      have fin : ∀ kd : Int, lgK true c = kd → 13 ≤ kd → kd ≤ 16 → Go y t B K A N n d f0 (n + [(lgK true c, v)].length) d (sCond y B kd v d) := by
        intro kd e h1 h2
        rw [e] at g4 ⊢
        have eD : xD y t B kd v d = d := by unfold xD; rw [if_neg (by omega), if_neg (by omega), if_neg (by omega)]
        have eF : xF y B kd v d f0 = sCond y B kd v d := by unfold xF; rw [if_pos ⟨h1, h2⟩]
        have eN : xN kd v n (sCond y B kd v d) = n + 1 := by unfold xN; rw [if_neg (by omega)]
        rw [eD, eF, eN] at g4
        exact g4
      by_cases c65 : c = 65
      · subst c65
        have en := fl_feast (show pFlds [102] 0 0 r0 = .inr (v, r) from hfl)
        obtain ⟨q1, q2⟩ := pln_num h hr0 (d := i3 d) (k := 2) (by decide)
        rw [en] at q1 q2
        have q1' : f_Pla_nextNumber 2 (lM m (i3 (pl T r0)) (i3 d)) = _ := q1
        have hv19 : 0 ≤ v ∧ v ≤ 19 := by
          have ek : lgK true 65 = 15 := rfl
          rw [ek] at hvs
          unfold vStep at hvs
          omega
        obtain ⟨b1, b2, b3'⟩ := hBn (Or.inr rfl)
        refine ⟨_, fin 15 rfl (by decide) (by decide), ?_, q2⟩
        rw [if_neg (show ¬ i3 65 = 33 by decide), if_pos (show i3 65 = 65 by decide), q1', zBI_some, pln_bent hv19, zBP_some, b1, wal_onD D hd4 ⟨by omega, by omega⟩, zBP_some, if_pos (b3_bo _)]
        rfl
      by_cases c69 : c = 69
      · subst c69
        have en := fl_date (show pFlds [109, 100] 0 0 r0 = .inr (v, r) from hfl)
        obtain ⟨q1, q2⟩ := pln_num h hr0 (d := i3 d) (k := 4) (by decide)
        rw [en] at q1 q2
        have q1' : f_Pla_nextNumber 4 (lM m (i3 (pl T r0)) (i3 d)) = _ := q1
        have hvv : vDt v := by
          have ek : lgK true 69 = 16 := rfl
          rw [ek] at hvs
          unfold vStep at hvs
          rcases hvs with ⟨z, _⟩ | ⟨z, _⟩ | ⟨z, _⟩ | z | z | z | z | z | z | z | ⟨_, z⟩ | z | z
          all_goals first | exact z | (exfalso; omega)
        refine ⟨_, fin 16 rfl (by decide) (by decide), ?_, q2⟩
        rw [if_neg (show ¬ i3 69 = 33 by decide), if_neg (show ¬ i3 69 = 65 by decide), if_pos (show i3 69 = 69 by decide), q1', zBI_some, wal_before W D hd4 hvv, zBP_some, if_pos (b3_bo _)]
        rfl
      by_cases c87 : c = 87
      · subst c87
        have en := fl_wd (show pFlds [119] 0 0 r0 = .inr (v, r) from hfl)
        obtain ⟨q1, q2⟩ := pln_num h hr0 (d := i3 d) (k := 1) (by decide)
        rw [en] at q1 q2
        have q1' : f_Pla_nextNumber 1 (lM m (i3 (pl T r0)) (i3 d)) = _ := q1
        have hv6 : 0 ≤ v ∧ v ≤ 6 := by
          have ek : lgK true 87 = 13 := rfl
          rw [ek] at hvs
          unfold vStep at hvs
          omega
        refine ⟨_, fin 13 rfl (by decide) (by decide), ?_, q2⟩
        rw [if_neg (show ¬ i3 87 = 33 by decide), if_neg (show ¬ i3 87 = 65 by decide), if_neg (show ¬ i3 87 = 69 by decide), if_pos (show i3 87 = 87 by decide), q1', zBI_some, wal_onW W D hd4 hv6, zBP_some, if_pos (b3_bo _)]
        rfl
      have c89 : c = 89 := by
        unfold lgK at c0
        rw [if_pos rfl, if_neg c87] at c0
        by_cases e : c = 89
        · exact e
        · rw [if_neg e, if_neg c65, if_neg c69] at c0
          exact absurd rfl c0
      subst c89
      have er : r = r0 := by
        have : pFlds [] 0 0 r0 = .inr (v, r) := hfl
        cases this
        rfl
      subst er
      refine ⟨_, fin 14 rfl (by decide) (by decide), ?_, hr0⟩
      rw [if_neg (show ¬ i3 89 = 33 by decide), if_neg (show ¬ i3 89 = 65 by decide), if_neg (show ¬ i3 89 = 69 by decide), if_neg (show ¬ i3 89 = 87 by decide), if_pos (show i3 89 = 89 by decide), wal_leap W, zBP_some, if_pos (b3_bo _)]
      rfl
end PLN4
