/-! WHAT STANDS BETWEEN CALLS: the class's cells and the law's own -/
/-- 1 table, 2 text, 3 feasts and dispensations, 4 bells, 5 question, 6 the law's short-lived arrays; 0: nothing is kept there -/
def zone (b j : Nat) : Nat := if (b = 16 ∧ j = 8) ∨ (b = 204 ∧ j = 2) then 1 else if (b = 17 ∧ j = 1) ∨ b = 18 ∨ (b = 19 ∧ j = 3) then 2 else if (25 ≤ b ∧ b ≤ 27) ∨ (29 ≤ b ∧ b ≤ 151) ∨ (201 ≤ b ∧ b ≤ 203) ∨ (b = 204 ∧ j < 2) then 3 else if (b = 174 ∧ j = 3) ∨ (175 ≤ b ∧ b ≤ 177) ∨ b = 206 ∨ (b = 204 ∧ j = 3) then 4 else if (b = 170 ∧ (j = 1 ∨ j = 2)) ∨ (171 ≤ b ∧ b ≤ 173) ∨ b = 205 ∨ (b = 204 ∧ (j = 4 ∨ j = 5)) then 5 else if 207 ≤ b then 6 else 0
theorem zone_A {b j : Nat} (h : (25 ≤ b ∧ b ≤ 27) ∨ (29 ≤ b ∧ b ≤ 151) ∨ (201 ≤ b ∧ b ≤ 203) ∨ (b = 204 ∧ j < 2)) : zone b j = 3 := by
  unfold zone
  rw [if_neg (by omega), if_neg (by omega), if_pos h]
theorem zone_T {b j : Nat} (h : 207 ≤ b) : zone b j = 6 := by
  unfold zone
  rw [if_neg (by omega), if_neg (by omega), if_neg (by omega), if_neg (by omega), if_neg (by omega), if_pos h]
theorem zone_Sc {b j : Nat} (h : zone b j ≠ 0) : Sc b j := by
  unfold zone at h
  split at h
  · rename_i c
    rcases c with ⟨rfl, rfl⟩ | ⟨rfl, rfl⟩
    · rfl
    · rfl
  split at h
  · rename_i c
    rcases c with ⟨rfl, rfl⟩ | rfl | ⟨rfl, rfl⟩
    · rfl
    · rfl
    · rfl
  split at h
  · rename_i c
    rcases c with c | c | c | c
    · rcases (show b = 25 ∨ b = 26 ∨ b = 27 by omega) with rfl | rfl | rfl
      · rfl
      · rfl
      · rfl
    · exact Sc.m c
    · exact Sc.l (by omega)
    · exact Sc.l (by omega)
  split at h
  · rename_i c
    rcases c with ⟨rfl, rfl⟩ | c | c | c
    · rfl
    · rcases (show b = 175 ∨ b = 176 ∨ b = 177 by omega) with rfl | rfl | rfl
      · rfl
      · rfl
      · rfl
    · exact Sc.l (by omega)
    · exact Sc.l (by omega)
  split at h
  · rename_i c
    rcases c with ⟨rfl, rfl | rfl⟩ | c | c | c
    · rfl
    · rfl
    · rcases (show b = 171 ∨ b = 172 ∨ b = 173 by omega) with rfl | rfl | rfl
      · rfl
      · rfl
      · rfl
    · exact Sc.l (by omega)
    · exact Sc.l (by omega)
  split at h
  · rename_i c
    exact Sc.l (by omega)
  · exact absurd rfl h
/-- only the zones s and t may change -/
def Fz (s t : Nat) (m m' : Mm) : Prop := (∀ b j, zone b j ≠ 0 → zone b j ≠ s → zone b j ≠ t → zI m' b j = zI m b j) ∧ zL m' 170 3 = zL m 170 3
theorem Fz.refl {s t : Nat} {m : Mm} : Fz s t m m := ⟨fun _ _ _ _ _ => rfl, rfl⟩
theorem Fz.trans {s t : Nat} {m m' m'' : Mm} (h : Fz s t m m') (h2 : Fz s t m' m'') : Fz s t m m'' := ⟨fun b j a1 a2 a3 => (h2.1 b j a1 a2 a3).trans (h.1 b j a1 a2 a3), h2.2.trans h.2⟩
theorem Fz.up {s t s' t' : Nat} {m m' : Mm} (h : Fz s t m m') (hs : s = 0 ∨ s = s' ∨ s = t') (ht : t = 0 ∨ t = s' ∨ t = t') : Fz s' t' m m' := ⟨fun b j a1 a2 a3 => h.1 b j a1 (by omega) (by omega), h.2⟩
theorem Fz.at {s t z b j : Nat} {m m' : Mm} (h : Fz s t m m') (hz : zone b j = z) (hn : z ≠ 0 ∧ z ≠ s ∧ z ≠ t) : zI m' b j = zI m b j := h.1 b j (by rw [hz]; exact hn.1) (by rw [hz]; exact hn.2.1) (by rw [hz]; exact hn.2.2)
theorem SF.fz {s t : Nat} {m m' : Mm} (h : SF m m') : Fz s t m m' := ⟨fun b j a1 _ _ => h.1 b j (zone_Sc a1), h.2 _ _⟩
theorem Fz.w {s t a k : Nat} {m : Mm} {v : Int32} (h : zone a k = 0 ∨ zone a k = s ∨ zone a k = t) : Fz s t m (wI m a k v) := ⟨fun b j a1 a2 a3 => by
  by_cases e : b = a
  · subst e
    by_cases e2 : j = k
    · subst e2
      omega
    · exact zI_nk e2
  · exact zI_ne e, rfl⟩
section LST
variable {m m' : Mm} {N nb nR t s s' : Nat} {fr : Nat → Nat → Int} {Rv F Y E PR RE BE : Nat → Int} {T : List Int} {sp : Int}
theorem iC.gx {Kc Ac : Nat → Nat → Int} {Lc o : Nat → Nat} {R : Nat → Int} {mv : Nat → Bool} {Tx : Nat → List Int} (hN : N ≤ 20) (h : iC m N Kc Ac Lc o R mv F Y E nb Tx) (hF : ∀ b j, (25 ≤ b ∧ b ≤ 27) ∨ (29 ≤ b ∧ b ≤ 151) → zI m' b j = zI m b j) : iC m' N Kc Ac Lc o R mv F Y E nb Tx := by
  obtain ⟨⟨h1, h2⟩, h3, h4, ⟨h5, h6⟩, h7, h8⟩ := h
  refine ⟨⟨?_, fun f hf => ?_⟩, fun i hi => ?_, fun f hf => ⟨?_, ?_⟩, ⟨?_, fun i hi => ⟨?_, ?_, ?_⟩⟩, fun f hf => ?_, fun f hf => ?_⟩
  · rw [hF _ _ (by omega)]; exact h1
  · obtain ⟨a1, a2, a3⟩ := h2 f hf
    refine ⟨a1, ?_, fun i hi => ⟨?_, ?_⟩⟩
    · rw [hF _ _ (by omega)]; exact a2
    · rw [hF _ _ (by omega)]; exact (a3 i hi).1
    · rw [hF _ _ (by omega)]; exact (a3 i hi).2
  · rw [hF _ _ (by omega)]; exact h3 i hi
  · rw [hF _ _ (by omega)]; exact (h4 f hf).1
  · rw [hF _ _ (by omega)]; exact (h4 f hf).2
  · rw [hF _ _ (by omega)]; exact h5
  · rw [hF _ _ (by omega)]; exact (h6 i hi).1
  · rw [hF _ _ (by omega)]; exact (h6 i hi).2.1
  · rw [hF _ _ (by omega)]; exact (h6 i hi).2.2
  · obtain ⟨a1, a2, a3, a4⟩ := h7 f hf
    refine ⟨a1, ?_, fun i hi => ?_, a4⟩
    · rw [hF _ _ (by omega)]; exact a2
    · rw [hF _ _ (by omega)]; exact a3 i hi
  · rw [hF _ _ (by omega)]; exact h8 f hf
/-- the rules' code -/
def lK (fr : Nat → Nat → Int) : Nat → Nat → Int := fun k i => kK (lC (fr k)) i
def lA (fr : Nat → Nat → Int) : Nat → Nat → Int := fun k i => kA (lC (fr k)) i
def lL (fr : Nat → Nat → Int) : Nat → Nat := fun k => (lC (fr k)).length
def rR (Rv : Nat → Int) : Nat → Int := fun k => Rv k / 2
def rM (Rv : Nat → Int) : Nat → Bool := fun k => decide (Rv k % 2 = 1)
def LA (N : Nat) (fr : Nat → Nat → Int) (Rv : Nat → Int) (nb : Nat) (F Y E : Nat → Int) : Prop := N ≤ 10 ∧ nb ≤ 10 ∧ (∀ k, k < N → vR k (fr k)) ∧ (∀ k, k < N → 0 ≤ Rv k ∧ Rv k ≤ 19) ∧ vB F Y E nb ∧ Un F Y nb ∧ ∀ i, i < nb → F i < N
def LM (m : Mm) (N : Nat) (fr : Nat → Nat → Int) (Rv : Nat → Int) (nb : Nat) (F Y E : Nat → Int) : Prop := LF m N fr ∧ LD m nb F Y E ∧ ∀ k, k < N → zI m 202 k = i3 (Rv k)
def CM (m : Mm) (N : Nat) (fr : Nat → Nat → Int) (Rv : Nat → Int) (nb : Nat) (F Y E : Nat → Int) : Prop := ∃ (o : Nat → Nat) (Tx : Nat → List Int), iW N (lK fr) (lA fr) (lL fr) id o (rR Rv) F Y E nb Tx ∧ iC m N (lK fr) (lA fr) (lL fr) o (rR Rv) (rM Rv) F Y E nb Tx
def StA (m : Mm) (N : Nat) (fr : Nat → Nat → Int) (Rv : Nat → Int) (nb : Nat) (F Y E : Nat → Int) : Prop := LA N fr Rv nb F Y E ∧ LM m N fr Rv nb F Y E ∧ CM m N fr Rv nb F Y E
def StT (m : Mm) (t : Nat) : Prop := kTb m t ∧ zI m 204 2 = i3 t
def StB (m : Mm) (nR : Nat) (PR RE BE : Nat → Int) : Prop := nR ≤ 10 ∧ kB m nR PR RE BE ∧ zI m 204 3 = i3 nR ∧ (∀ p, p < 6 → zI m 206 p = i3 (BE p)) ∧ ∀ k, k < nR → zI m 206 (6 + 2 * k) = i3 (PR k) ∧ zI m 206 (7 + 2 * k) = i3 (RE k)
/-- a question was asked -/
def StG (m : Mm) (N y : Nat) (q0 : Int) (g h : Nat → Int) : Prop := y ≤ 400 ∧ zI m 204 4 = i3 y ∧ zI m 170 1 = 1 ∧ zI m 170 2 = i3 y ∧ Cd m 171 (kK (lQ q0 g h)) (kA (lQ q0 g h)) (lQ q0 g h).length ∧ zI m 205 0 = i3 q0 ∧ (0 ≤ q0 ∧ q0 ≤ 2) ∧ (∀ j, j < 4 → zI m 205 (1 + j) = i3 (g j)) ∧ (∀ j, j < 4 → zI m 205 (5 + j) = i3 (h j)) ∧ vQ N g ∧ vQ N h
def StQ (m : Mm) (N : Nat) (sp : Int) : Prop := 0 ≤ sp ∧ zI m 204 5 = i3 sp ∧ zL m 170 3 = (i3 sp).toInt64 ∧ ((zI m 204 4 = i3 (-1) ∧ zI m 170 1 = 0) ∨ ∃ (y : Nat) (q0 : Int) (g h : Nat → Int), StG m N y q0 g h)
theorem StT.fz (h : StT m t) (hF : Fz s s' m m') (hs : 1 ≠ s ∧ 1 ≠ s') : StT m' t := by
  obtain ⟨⟨h1, h2⟩, h3⟩ := h
  exact ⟨⟨h1, by rw [hF.at (b := 16) (j := 8) rfl ⟨by decide, hs⟩]; exact h2⟩, by rw [hF.at (b := 204) (j := 2) rfl ⟨by decide, hs⟩]; exact h3⟩
theorem kX.fz (h : kX m T) (hF : Fz s s' m m') (hs : 2 ≠ s ∧ 2 ≠ s') : kX m' T := by
  obtain ⟨⟨a1, a2, a3, a4⟩, h3, ⟨vv, hv⟩⟩ := h
  have z18 : ∀ j, zone 18 j = 2 := fun j => rfl
  refine ⟨⟨a1, ?_, fun i hi => ?_, a4⟩, fun i hi => ?_, ⟨vv, ?_⟩⟩
  · rw [hF.at (b := 17) (j := 1) rfl ⟨by decide, hs⟩]; exact a2
  · rw [hF.at (z18 i) ⟨by decide, hs⟩]; exact a3 i hi
  · rw [hF.at (z18 i) ⟨by decide, hs⟩]; exact h3 i hi
  · rw [hF.at (b := 19) (j := 3) rfl ⟨by decide, hs⟩]; exact hv
theorem CM.gx (hN : N ≤ 20) (h : CM m N fr Rv nb F Y E) (hF : ∀ b j, (25 ≤ b ∧ b ≤ 27) ∨ (29 ≤ b ∧ b ≤ 151) → zI m' b j = zI m b j) : CM m' N fr Rv nb F Y E := by
  obtain ⟨o, Tx, hW, hC⟩ := h
  exact ⟨o, Tx, hW, hC.gx hN hF⟩
theorem LF.gx (h : LF m N fr) (hF : ∀ b j, (201 ≤ b ∧ b ≤ 203) ∨ (b = 204 ∧ j < 2) → zI m' b j = zI m b j) : LF m' N fr := ⟨by rw [hF _ _ (by omega)]; exact h.1, fun k hk j hj => by rw [hF _ _ (by omega)]; exact h.2 k hk j hj⟩
theorem LD.gx (h : LD m nb F Y E) (hF : ∀ b j, (201 ≤ b ∧ b ≤ 203) ∨ (b = 204 ∧ j < 2) → zI m' b j = zI m b j) : LD m' nb F Y E := ⟨by rw [hF _ _ (by omega)]; exact h.1, fun i hi => ⟨by rw [hF _ _ (by omega)]; exact (h.2 i hi).1, by rw [hF _ _ (by omega)]; exact (h.2 i hi).2.1, by rw [hF _ _ (by omega)]; exact (h.2 i hi).2.2⟩⟩
theorem LM.gx (h : LM m N fr Rv nb F Y E) (hF : ∀ b j, (201 ≤ b ∧ b ≤ 203) ∨ (b = 204 ∧ j < 2) → zI m' b j = zI m b j) : LM m' N fr Rv nb F Y E := ⟨h.1.gx hF, h.2.1.gx hF, fun k hk => by rw [hF _ _ (by omega)]; exact h.2.2 k hk⟩
theorem StA.fz (h : StA m N fr Rv nb F Y E) (hF : Fz s s' m m') (hs : 3 ≠ s ∧ 3 ≠ s') : StA m' N fr Rv nb F Y E := ⟨h.1, h.2.1.gx (fun b j hb => hF.at (zone_A (by omega)) ⟨by decide, hs⟩), h.2.2.gx (by have := h.1.1; omega) (fun b j hb => hF.at (zone_A (by omega)) ⟨by decide, hs⟩)⟩
theorem StB.fz (h : StB m nR PR RE BE) (hF : Fz s s' m m') (hs : 4 ≠ s ∧ 4 ≠ s') : StB m' nR PR RE BE := by
  obtain ⟨h1, ⟨k1, k2, k3, k4⟩, h3, h4, h5⟩ := h
  have za : ∀ b j, b = 175 ∨ b = 176 ∨ b = 177 ∨ b = 206 → zone b j = 4 := fun b j hb => by
    rcases hb with rfl | rfl | rfl | rfl <;> rfl
  refine ⟨h1, ⟨k1, k2, ⟨?_, fun k hk => ⟨?_, ?_⟩⟩, fun p hp => ?_⟩, ?_, fun p hp => ?_, fun k hk => ⟨?_, ?_⟩⟩
  · rw [hF.at (b := 174) (j := 3) rfl ⟨by decide, hs⟩]; exact k3.1
  · rw [hF.at (za _ _ (by omega)) ⟨by decide, hs⟩]; exact (k3.2 k hk).1
  · rw [hF.at (za _ _ (by omega)) ⟨by decide, hs⟩]; exact (k3.2 k hk).2
  · rw [hF.at (za _ _ (by omega)) ⟨by decide, hs⟩]; exact k4 p hp
  · rw [hF.at (b := 204) (j := 3) rfl ⟨by decide, hs⟩]; exact h3
  · rw [hF.at (za _ _ (by omega)) ⟨by decide, hs⟩]; exact h4 p hp
  · rw [hF.at (za _ _ (by omega)) ⟨by decide, hs⟩]; exact (h5 k hk).1
  · rw [hF.at (za _ _ (by omega)) ⟨by decide, hs⟩]; exact (h5 k hk).2
theorem vQ.mono {n n' : Nat} {g : Nat → Int} (h : vQ n g) (hn : n ≤ n') : vQ n' g := ⟨h.1, h.2.1, ⟨h.2.2.1.1, by have := h.2.2.1.2; omega⟩, by
  rcases h.2.2.2 with q | q | q
  · exact Or.inl q
  · exact Or.inr (Or.inl q)
  · exact Or.inr (Or.inr (by omega))⟩
theorem StG.fz {N' y : Nat} {q0 : Int} {g h : Nat → Int} (hG : StG m N y q0 g h) (hN : N ≤ N') (hF : Fz s s' m m') (hs : 5 ≠ s ∧ 5 ≠ s') : StG m' N' y q0 g h := by
  obtain ⟨h1, h2, h3, h4, ⟨d1, d2, d3⟩, h6, h7, h8, h9, h10, h11⟩ := hG
  have za : ∀ b j, b = 171 ∨ b = 172 ∨ b = 173 ∨ b = 205 → zone b j = 5 := fun b j hb => by
    rcases hb with rfl | rfl | rfl | rfl <;> rfl
  refine ⟨h1, ?_, ?_, ?_, ⟨d1, ?_, fun i hi => ⟨?_, ?_⟩⟩, ?_, h7, fun j hj => ?_, fun j hj => ?_, h10.mono hN, h11.mono hN⟩
  · rw [hF.at (b := 204) (j := 4) rfl ⟨by decide, hs⟩]; exact h2
  · rw [hF.at (b := 170) (j := 1) rfl ⟨by decide, hs⟩]; exact h3
  · rw [hF.at (b := 170) (j := 2) rfl ⟨by decide, hs⟩]; exact h4
  · rw [hF.at (za _ _ (by omega)) ⟨by decide, hs⟩]; exact d2
  · rw [hF.at (za _ _ (by omega)) ⟨by decide, hs⟩]; exact (d3 i hi).1
  · rw [hF.at (za _ _ (by omega)) ⟨by decide, hs⟩]; exact (d3 i hi).2
  · rw [hF.at (za _ _ (by omega)) ⟨by decide, hs⟩]; exact h6
  · rw [hF.at (za _ _ (by omega)) ⟨by decide, hs⟩]; exact h8 j hj
  · rw [hF.at (za _ _ (by omega)) ⟨by decide, hs⟩]; exact h9 j hj
theorem StQ.fz {N' : Nat} (hQ : StQ m N sp) (hN : N ≤ N') (hF : Fz s s' m m') (hs : 5 ≠ s ∧ 5 ≠ s') : StQ m' N' sp := by
  obtain ⟨h1, h2, h3, h4⟩ := hQ
  refine ⟨h1, by rw [hF.at (b := 204) (j := 5) rfl ⟨by decide, hs⟩]; exact h2, hF.2.trans h3, ?_⟩
  rcases h4 with ⟨a, b⟩ | ⟨y, q0, g, h, hG⟩
  · left
    exact ⟨by rw [hF.at (b := 204) (j := 4) rfl ⟨by decide, hs⟩]; exact a, by rw [hF.at (b := 170) (j := 1) rfl ⟨by decide, hs⟩]; exact b⟩
  · right
    exact ⟨y, q0, g, h, hG.fz hN hF hs⟩
end LST
