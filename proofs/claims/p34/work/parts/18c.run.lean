/-! CODE, AND GOING THROUGH IT -/
def Cd (m : Mm) (o : Nat) (K A : Nat → Int) (n : Nat) : Prop := n ≤ 40 ∧ zI m o 2 = i3 n ∧ ∀ i, i < n → zI m (o + 1) i = i3 (K i) ∧ zI m (o + 2) i = i3 (A i)
def cV (K A : Nat → Int) (n : Nat) : Prop := ∀ i, i < n → vStep n i (K i) (A i)
def xN (kd v : Int) (pc : Nat) (f : Bool) : Nat := if kd = 18 ∨ (kd = 19 ∧ f = false) ∨ (kd = 20 ∧ f = true) then v.toNat else pc + 1
def xD (y t : Nat) (B : Nat → Int) (kd v d : Int) : Int := if kd ≤ 3 then sStart y kd v else if kd = 4 then B v.toNat else if kd ≤ 12 then sMove y t kd v d else d
def xF (y : Nat) (B : Nat → Int) (kd v d : Int) (f : Bool) : Bool := if 13 ≤ kd ∧ kd ≤ 16 then sCond y B kd v d else if kd = 17 then !f else f
def xgo (y t : Nat) (B : Nat → Int) (K A : Nat → Int) (n : Nat) : Nat → Nat → Int → Bool → Int → Int × Int
  | 0, _, d, _, c => (d, c)
  | u + 1, pc, d, f, c => if n ≤ pc then (d, c) else xgo y t B K A n u (xN (K pc) (A pc) pc (xF y B (K pc) (A pc) d f)) (xD y t B (K pc) (A pc) d) (xF y B (K pc) (A pc) d f) (c + sCost (K pc))
theorem xgo_end {y t : Nat} {B K A : Nat → Int} {n u pc : Nat} {d c : Int} {f : Bool} (h : n ≤ pc) : xgo y t B K A n u pc d f c = (d, c) := by
  cases u with
  | zero => rfl
  | succ u => exact if_pos h
theorem xgo_go {y t : Nat} {B K A : Nat → Int} {n u pc : Nat} {d c : Int} {f : Bool} (h : pc < n) : xgo y t B K A n (u + 1) pc d f c = xgo y t B K A n u (xN (K pc) (A pc) pc (xF y B (K pc) (A pc) d f)) (xD y t B (K pc) (A pc) d) (xF y B (K pc) (A pc) d f) (c + sCost (K pc)) := if_neg (Nat.not_le.mpr h)
theorem xN_bd {n pc : Nat} {kd v : Int} {f : Bool} (h : vStep n pc kd v) (hp : pc < n) : pc < xN kd v pc f ∧ xN kd v pc f ≤ n := by
  unfold xN
  split
  · next q =>
    have : 18 ≤ kd ∧ kd ≤ 20 := by omega
    unfold vStep at h
    omega
  · omega
theorem Cd.ne {m : Mm} {o : Nat} {K A : Nat → Int} {n b k : Nat} {v : Int32} (h : Cd m o K A n) (hb : b < o ∨ o + 2 < b) : Cd (wI m b k v) o K A n := by
  refine ⟨h.1, ?_, fun i hi => ⟨?_, ?_⟩⟩
  · rw [zI_ne (by omega)]; exact h.2.1
  · rw [zI_ne (by omega)]; exact (h.2.2 i hi).1
  · rw [zI_ne (by omega)]; exact (h.2.2 i hi).2
section CDS
variable {m : Mm} {o n : Nat} {K A : Nat → Int} {pc : Nat}
theorem cod_size (h : Cd m o K A n) : f_Cod_size o m = some (i3 n) := by
  unfold f_Cod_size
  rw [h.2.1]
theorem cod_kind (h : Cd m o K A n) (hp : pc < n) : f_Cod_kindAt o (i3 pc) m = some (i3 (K pc)) := by
  have h40 := h.1
  unfold f_Cod_kindAt
  simp only [zLet, h.2.1, i3_lit]
  rw [it_lt ⟨by omega, by omega⟩ ⟨by decide, by decide⟩, if_neg (by omega), it_le ⟨by omega, by omega⟩ ⟨by omega, by omega⟩, if_neg (by omega), if_pos ((i3_in ⟨by omega, by omega⟩).mpr ⟨by omega, by omega⟩), i3_ix ⟨by omega, by omega⟩, Int.toNat_natCast, (h.2.2 pc hp).1]
theorem cod_arg (h : Cd m o K A n) (hp : pc < n) : f_Cod_argumentAt o (i3 pc) m = some (i3 (A pc)) := by
  have h40 := h.1
  unfold f_Cod_argumentAt
  simp only [zLet, h.2.1, i3_lit]
  rw [it_lt ⟨by omega, by omega⟩ ⟨by decide, by decide⟩, if_neg (by omega), it_le ⟨by omega, by omega⟩ ⟨by omega, by omega⟩, if_neg (by omega), if_pos ((i3_in ⟨by omega, by omega⟩).mpr ⟨by omega, by omega⟩), i3_ix ⟨by omega, by omega⟩, Int.toNat_natCast, (h.2.2 pc hp).2]
theorem cod_after (h : Cd m o K A n) (hp : pc < n) (hk : 0 ≤ K pc ∧ K pc ≤ 30) (hv : 18 ≤ K pc → K pc ≤ 20 → 0 ≤ A pc) (f : Bool) : f_Cod_placeAfter o (i3 pc) (b3 f) m = some (i3 (xN (K pc) (A pc) pc f)) := by
  have h40 := h.1
  unfold f_Cod_placeAfter
  simp (disch := omega) only [zLet, zBP, cod_kind h hp, cod_arg h hp, ob_s, i3_lit, i3_eq, b3_i0, Int.reduceEq, reduceIte, i3_add]
  unfold xN
  have ha : 18 ≤ K pc → K pc ≤ 20 → (((A pc).toNat : Nat) : Int) = A pc := fun h1 h2 => by have := hv h1 h2; omega
  by_cases h18 : K pc = 18
  · rw [if_pos h18, if_pos (Or.inl h18), ha (by omega) (by omega)]
  · rw [if_neg h18]
    by_cases h19 : K pc = 19
    · have h20 : ¬ K pc = 20 := by omega
      rw [if_pos h19, if_neg h20]
      cases f with
      | true => rw [if_neg (by decide), if_neg (by simp [h18, h19])]; rfl
      | false => rw [if_pos rfl, if_pos (Or.inr (Or.inl ⟨h19, rfl⟩)), ha (by omega) (by omega)]
    · rw [if_neg h19]
      by_cases h20 : K pc = 20
      · rw [if_pos h20]
        cases f with
        | true => rw [if_neg (by decide), if_pos (Or.inr (Or.inr ⟨h20, rfl⟩)), ha (by omega) (by omega)]
        | false => rw [if_pos rfl, if_neg (by simp [h18, h19])]; rfl
      · rw [if_neg h20, if_neg (by simp [h18, h19, h20])]; rfl
end CDS
section BOO
variable {m : Mm} {a y t : Nat} {d v kd : Int}
theorem boo_move (h : Wk m (a + 1) y t) (h5 : zI m (a + 1) 5 = i3 d) (hd : -1 ≤ d ∧ d < 400) {n i : Nat} (hv : vStep n i kd v) (hk : 5 ≤ kd ∧ kd ≤ 12) : f_Boo_move a (i3 kd) (i3 v) m = some (wI m (a + 1) 5 (i3 (sMove y t kd v d))) := by
  unfold f_Boo_move
  have hk' : kd = 5 ∨ kd = 6 ∨ kd = 7 ∨ kd = 8 ∨ kd = 9 ∨ kd = 10 ∨ kd = 11 ∨ kd = 12 := by omega
  unfold vStep at hv
  rcases hk' with rfl | rfl | rfl | rfl | rfl | rfl | rfl | rfl
  · simp (disch := omega) only [i3_lit, i3_eq, Int.reduceEq, reduceIte, i3_sub, zBV]
    rw [wal_toLater h h5 hd ⟨by omega, by omega⟩]
    rfl
  · simp (disch := omega) only [i3_lit, i3_eq, Int.reduceEq, reduceIte, zBV]
    rw [wal_behind h h5 hd ⟨by omega, by omega⟩]
    rfl
  · simp (disch := omega) only [i3_lit, i3_eq, Int.reduceEq, reduceIte, zBV]
    rw [wal_ahead h h5 hd ⟨by omega, by omega⟩]
    rfl
  · simp (disch := omega) only [i3_lit, i3_eq, Int.reduceEq, reduceIte, zBV]
    rw [wal_notahead h h5 hd ⟨by omega, by omega⟩]
    rfl
  · simp (disch := omega) only [i3_lit, i3_eq, Int.reduceEq, reduceIte, zBV]
    rw [wal_notbehind h h5 hd ⟨by omega, by omega⟩]
    rfl
  · simp (disch := omega) only [i3_lit, i3_eq, Int.reduceEq, reduceIte, zBV]
    rw [wal_moon h h5 hd ⟨by omega, by omega⟩]
    rfl
  · simp (disch := omega) only [i3_lit, i3_eq, Int.reduceEq, reduceIte, zBV]
    rw [wal_moon h h5 hd ⟨by omega, by omega⟩]
    rfl
  · simp (disch := omega) only [i3_lit, i3_eq, Int.reduceEq, reduceIte, zBV]
    rw [wal_none]
    rfl
theorem boo_move' (hk : 13 ≤ kd ∧ kd ≤ 30) : f_Boo_move a (i3 kd) (i3 v) m = some m := by
  unfold f_Boo_move
  simp (disch := omega) only [i3_lit, i3_eq]
  rw [if_neg (by omega), if_neg (by omega), if_neg (by omega), if_neg (by omega), if_neg (by omega), if_neg (by omega), if_neg (by omega), if_neg (by omega)]
theorem boo_bent {p : Int} (hp : 0 ≤ p ∧ p < 20) : f_Boo_bentDay a (i3 p) m = some (zI m (a + 2) p.toNat) := by
  unfold f_Boo_bentDay
  simp (disch := omega) only [zLet, i3_lit, i3_lt, i3_le]
  rw [if_neg (by omega), if_neg (by omega), if_pos ((i3_in ⟨by omega, by omega⟩).mpr ⟨by omega, by omega⟩), i3_ix ⟨by omega, by omega⟩]
theorem boo_start (h : Wk m (a + 1) y t) {n i : Nat} (hv : vStep n i kd v) (hk : kd ≤ 3) : f_Boo_goToStart a (i3 kd) (i3 v) m = some (wI m (a + 1) 5 (i3 (sStart y kd v))) := by
  unfold f_Boo_goToStart sStart
  have hs : (kd = 1 ∧ vDt v) ∨ (kd = 2 ∧ (1 ≤ v / 1000 ∧ v / 1000 ≤ 5) ∧ v / 100 % 10 ≤ 6 ∧ vMo (v % 100)) ∨ (kd = 3 ∧ (0 ≤ v / 100 ∧ v / 100 ≤ 6) ∧ vMo (v % 100)) := by
    unfold vStep at hv
    rcases hv with h | h | h | h | h | h | h | h | h | h | h | h | h
    · exact Or.inl h
    · exact Or.inr (Or.inl h)
    · exact Or.inr (Or.inr h)
    all_goals (exfalso; omega)
  rcases hs with ⟨rfl, hd⟩ | ⟨rfl, hn, hw, hm⟩ | ⟨rfl, hw, hm⟩
  · simp (disch := omega) only [i3_lit, i3_eq, Int.reduceEq, reduceIte, zBV]
    rw [wal_toDate h hd]
    rfl
  · simp (disch := omega) only [i3_lit, i3_eq, Int.reduceEq, reduceIte, zBV, i3_div, i3_mod]
    rw [wal_toNth h hn ⟨by omega, hw⟩ hm]
    rfl
  · simp (disch := omega) only [i3_lit, i3_eq, Int.reduceEq, reduceIte, zBV, i3_div, i3_mod]
    rw [wal_toLast h hw hm]
    rfl
theorem boo_feast (h : Wk m (a + 1) y t) {b : Int} (hv : 0 ≤ v ∧ v ≤ 19) (hb : zI m (a + 2) v.toNat = i3 b) (hb2 : -1 ≤ b ∧ b < sLen y) : f_Boo_goToStart a (i3 4) (i3 v) m = some (wI m (a + 1) 5 (i3 b)) := by
  have hL := sLen_bd y
  unfold f_Boo_goToStart
  simp (disch := omega) only [i3_lit, i3_eq, Int.reduceEq, reduceIte, zBV, zBP]
  rw [boo_bent ⟨by omega, by omega⟩, hb]
  simp only [ob_s]
  rw [wal_toDay h ⟨by omega, by omega⟩, sTo_in hb2]
  rfl
theorem boo_cond {B : Nat → Int} (h : Wk m (a + 1) y t) (h5 : zI m (a + 1) 5 = i3 d) (hd : -1 ≤ d ∧ d < 400) {n i : Nat} (hv : vStep n i kd v) (hk : 13 ≤ kd ∧ kd ≤ 16) (hB : kd = 15 → zI m (a + 2) v.toNat = i3 (B v.toNat) ∧ -1 ≤ B v.toNat ∧ B v.toNat < sLen y) : f_Boo_conditionHolds a (i3 kd) (i3 v) m = some (b3 (sCond y B kd v d)) := by
  have hL := sLen_bd y
  unfold f_Boo_conditionHolds sCond
  have hk' : kd = 13 ∨ kd = 14 ∨ kd = 15 ∨ kd = 16 := by omega
  rcases hk' with rfl | rfl | rfl | rfl
  · simp (disch := omega) only [i3_lit, i3_eq, Int.reduceEq, reduceIte, zBP]
    rw [wal_onW h h5 hd (by unfold vStep at hv; omega)]
    simp only [ob_s, if_pos (b3_bo _)]
  · simp (disch := omega) only [i3_lit, i3_eq, Int.reduceEq, reduceIte, zBP]
    rw [wal_leap h]
    simp only [ob_s, if_pos (b3_bo _)]
  · obtain ⟨b1, b2, b4⟩ := hB rfl
    have hv19 : 0 ≤ v ∧ v ≤ 19 := by unfold vStep at hv; omega
    simp (disch := omega) only [i3_lit, i3_eq, Int.reduceEq, reduceIte, zBP]
    rw [boo_bent ⟨by omega, by omega⟩, b1]
    simp only [ob_s]
    rw [wal_onD h5 hd ⟨by omega, by omega⟩]
    simp only [ob_s, if_pos (b3_bo _)]
  · have hdt : vDt v := by
      unfold vStep at hv
      rcases hv with ⟨h, k⟩ | ⟨h, k⟩ | ⟨h, k⟩ | h | h | h | h | h | h | h | ⟨h, k⟩ | h | h
      all_goals first | exact k | (exfalso; omega)
    simp (disch := omega) only [i3_lit, i3_eq, Int.reduceEq, reduceIte, zBP]
    rw [wal_before h h5 hd hdt]
    simp only [ob_s, if_pos (b3_bo _)]
end BOO
theorem xD_bd {y t : Nat} {B : Nat → Int} {n i : Nat} {kd v d : Int} (hv : vStep n i kd v) (hd : -1 ≤ d ∧ d < sLen y) (hB : kd = 4 → -1 ≤ B v.toNat ∧ B v.toNat < sLen y) : -1 ≤ xD y t B kd v d ∧ xD y t B kd v d < sLen y := by
  unfold xD
  split
  · unfold sStart
    split
    · exact sTo_bd _ _
    · split
      · exact sTo_bd _ _
      · exact sTo_bd _ _
  · split
    · next h => exact hB h
    · split
      · exact sMove_bd _ _ _ _ _
      · exact hd
set_option maxHeartbeats 4000000 in
theorem boo_go {m : Mm} {a o y t : Nat} {B K A : Nat → Int} {n : Nat} (hW : Wk m (a + 1) y t) (h5 : zI m (a + 1) 5 = i3 (-1)) (ho : o + 2 < a) (hC : Cd m o K A n) (hV : cV K A n)
    (hB : ∀ i, i < n → (K i = 4 ∨ K i = 15) → zI m (a + 2) (A i).toNat = i3 (B (A i).toNat) ∧ -1 ≤ B (A i).toNat ∧ B (A i).toNat < sLen y) :
    f_Boo_goThrough a o m = some (i3 (xgo y t B K A n n 0 (-1) false 0).2, wI m (a + 1) 5 (i3 (xgo y t B K A n n 0 (-1) false 0).1)) := by
  have h40 := hC.1
  have hL := sLen_bd y
  unfold f_Boo_goThrough
  refine run_zLp4 (fun j x1 x2 x3 x4 mm => ∃ (d c : Int) (f : Bool) (pc met u : Nat), x1 = i3 c ∧ x2 = b3 f ∧ x3 = i3 pc ∧ x4 = i3 met ∧ mm = wI m (a + 1) 5 (i3 d) ∧ (-1 ≤ d ∧ d < sLen y) ∧ met ≤ pc ∧ pc ≤ n ∧ (0 ≤ c ∧ c ≤ 6 * met) ∧ j = n - pc ∧ n ≤ u + pc ∧ xgo y t B K A n u pc d f c = xgo y t B K A n n 0 (-1) false 0) ?_ zFu n _ _ _ _ _ ⟨-1, 0, false, 0, 0, n, by decide, by decide, by decide, by decide, (wI_same h5).symm, by omega, by omega, by omega, by omega, by omega, by omega, rfl⟩ (by unfold zFu; omega)
  rintro r j x1 x2 x3 x4 mm ⟨d, c, f, pc, met, u, rfl, rfl, rfl, rfl, rfl, hd, hmp, hpn, hc, rfl, hu, hx⟩
  have hC' : Cd (wI m (a + 1) 5 (i3 d)) o K A n := hC.ne (by omega)
  have hW' := hW.w5 (i3 d)
  have h5' : zI (wI m (a + 1) 5 (i3 d)) (a + 1) 5 = i3 d := zI_eq
  simp only [cod_size hC', zBP_some]
  rw [it_le ⟨by omega, by omega⟩ ⟨by omega, by omega⟩]
  by_cases e1 : n ≤ pc
  · left
    rw [xgo_end e1] at hx
    rw [← hx]
    by_cases e2 : (n : Int) ≤ met
    · rw [if_pos e2]
    · rw [if_neg e2, it_le ⟨by omega, by omega⟩ ⟨by omega, by omega⟩, if_pos (by omega)]
  · right
    have hlt : pc < n := by omega
    have hv := hV pc hlt
    have hbd := hv.bd h40
    have hnx := xN_bd (f := xF y B (K pc) (A pc) d f) hv hlt
    obtain ⟨u', rfl⟩ : ∃ u', u = u' + 1 := ⟨u - 1, by omega⟩
    rw [xgo_go hlt] at hx
    have hcb := sCost_bd (K pc)
    have hdb := xD_bd (t := t) (B := B) hv hd (fun h4 => (hB pc hlt (Or.inl h4)).2)
    refine ⟨_, _, _, _, _, n - xN (K pc) (A pc) pc (xF y B (K pc) (A pc) d f), by omega, ⟨xD y t B (K pc) (A pc) d, c + sCost (K pc), xF y B (K pc) (A pc) d f, xN (K pc) (A pc) pc (xF y B (K pc) (A pc) d f), met + 1, u', rfl, rfl, rfl, rfl, rfl, hdb, by omega, by omega, by omega, rfl, by omega, hx⟩, ?_⟩
    have hjv : 18 ≤ K pc → K pc ≤ 20 → 0 ≤ A pc := fun h1 h2 => by unfold vStep at hv; omega
    have hin : zIn (i3 (K pc)) 21 := (i3_in ⟨by omega, by omega⟩).mpr ⟨by omega, by omega⟩
    rw [if_neg (by omega), it_le ⟨by omega, by omega⟩ ⟨by omega, by omega⟩, if_neg (by omega)]
    simp (maxSteps := 3000000) (disch := omega) only [zBP, cod_kind hC' hlt, cod_arg hC' hlt, ob_s, zLet, i3_lit, i3_lt, i3_le, i3_eq, if_pos hin, cal_cost hbd.1]
    rw [if_neg (by omega), if_neg (by omega)]
    by_cases h17 : K pc = 17
    · have eD : xD y t B (K pc) (A pc) d = d := by unfold xD; rw [if_neg (by omega), if_neg (by omega), if_neg (by omega)]
      have eF : xF y B (K pc) (A pc) d f = !f := by unfold xF; rw [if_neg (by omega), if_pos h17]
      rw [if_pos h17, eD, eF, it_b0]
      cases f with
      | true =>
        rw [if_neg (by decide)]
        have := cod_after hC' hlt (by omega) hjv false
        rw [show b3 false = i3 0 from by decide] at this
        rw [this]
        simp only [ob_s, i3_add]
        rfl
      | false =>
        rw [if_pos rfl]
        have := cod_after hC' hlt (by omega) hjv true
        rw [show b3 true = i3 1 from by decide] at this
        rw [this]
        simp only [ob_s, i3_add]
        rfl
    · rw [if_neg h17]
      by_cases hcd : 13 ≤ K pc ∧ K pc ≤ 16
      · have eD : xD y t B (K pc) (A pc) d = d := by unfold xD; rw [if_neg (by omega), if_neg (by omega), if_neg (by omega)]
        have eF : xF y B (K pc) (A pc) d f = sCond y B (K pc) (A pc) d := by unfold xF; rw [if_pos hcd]
        rw [if_neg (by omega), if_neg (by omega), eD, eF, boo_cond (B := B) hW' h5' ⟨by omega, by omega⟩ hv hcd (fun h15 => by rw [zI_ne (by omega)]; exact hB pc hlt (Or.inr h15))]
        simp only [ob_s]
        rw [cod_after hC' hlt (by omega) hjv]
        simp only [ob_s, i3_add]
        rfl
      · have eF : xF y B (K pc) (A pc) d f = f := by unfold xF; rw [if_neg hcd, if_neg h17]
        have fin : ∀ d' : Int, xD y t B (K pc) (A pc) d = d' → ∀ m' : Mm, m' = wI m (a + 1) 5 (i3 d') → ((f_Cod_placeAfter o (i3 pc) (b3 f) m').bind fun v21 => r (i3 c + i3 (sCost (K pc))) (b3 f) v21 (i3 met + i3 1) m') = r (i3 (c + sCost (K pc))) (b3 (xF y B (K pc) (A pc) d f)) (i3 (xN (K pc) (A pc) pc (xF y B (K pc) (A pc) d f))) (i3 ((met + 1 : Nat) : Int)) (wI m (a + 1) 5 (i3 (xD y t B (K pc) (A pc) d))) := by
          intro d' e1 m' e2
          subst e2
          rw [cod_after (hC.ne (by omega)) hlt (by omega) hjv, eF, e1]
          simp only [ob_s, i3_add]
          rfl
        by_cases h4 : 4 < K pc
        · rw [if_pos h4]
          by_cases h12 : K pc ≤ 12
          · rw [if_pos (by omega), boo_move hW' h5' ⟨by omega, by omega⟩ hv ⟨by omega, h12⟩]
            simp only [zBV, ob_s, wI_wI]
            exact fin _ (by unfold xD; rw [if_neg (by omega), if_neg (by omega), if_pos h12]) _ rfl
          · rw [if_neg (by omega), if_pos (by omega), boo_move' (by omega)]
            simp only [zBV, ob_s]
            exact fin d (by unfold xD; rw [if_neg (by omega), if_neg (by omega), if_neg (by omega)]) _ rfl
        · rw [if_neg h4, if_pos (by omega)]
          by_cases h44 : K pc = 4
          · obtain ⟨b1, b2⟩ := hB pc hlt (Or.inl h44)
            rw [h44, boo_feast hW' (by unfold vStep at hv; omega) (by rw [zI_ne (by omega)]; exact b1) b2]
            simp only [zBV, ob_s, wI_wI]
            rw [← h44]
            exact fin _ (by unfold xD; rw [if_neg (by omega), if_pos h44]) _ rfl
          · rw [boo_start hW' hv (by omega)]
            simp only [zBV, ob_s, wI_wI]
            exact fin _ (by unfold xD; rw [if_pos (by omega)]) _ rfl
