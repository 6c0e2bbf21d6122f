/-! WHAT BOTH SIDES HOLD -/
/-- the cells that hold what is kept from call to call -/
def scB (b j : Nat) : Bool := (b == 16 && j == 8) || (b == 17 && j == 1) || b == 18 || (b == 19 && j == 3) || (Nat.ble 25 b && Nat.ble b 27) || (Nat.ble 29 b && Nat.ble b 151) || (b == 170 && (j == 1 || j == 2)) || (Nat.ble 171 b && Nat.ble b 173) || (b == 174 && j == 3) || (Nat.ble 175 b && Nat.ble b 177) || (b == 201 && (j == 1 || j == 3 || j == 13 || j == 17 || j == 18 || j == 19 || j == 25 || j == 33 || j == 34 || j == 38 || j == 41)) || b == 202 || (Nat.ble 208 b && Nat.ble b 215) || b == 220 || b == 221 || (Nat.ble 223 b && Nat.ble b 225)
def Sc (b j : Nat) : Prop := scB b j = true
theorem Sc.iff {b j : Nat} : Sc b j ↔ ((b = 16 ∧ j = 8) ∨ (b = 17 ∧ j = 1) ∨ b = 18 ∨ (b = 19 ∧ j = 3) ∨ (25 ≤ b ∧ b ≤ 27) ∨ (29 ≤ b ∧ b ≤ 151) ∨ (b = 170 ∧ (j = 1 ∨ j = 2)) ∨ (171 ≤ b ∧ b ≤ 173) ∨ (b = 174 ∧ j = 3) ∨ (175 ≤ b ∧ b ≤ 177) ∨ (b = 201 ∧ (j = 1 ∨ j = 3 ∨ j = 13 ∨ j = 17 ∨ j = 18 ∨ j = 19 ∨ j = 25 ∨ j = 33 ∨ j = 34 ∨ j = 38 ∨ j = 41)) ∨ b = 202 ∨ (208 ≤ b ∧ b ≤ 215) ∨ b = 220 ∨ b = 221 ∨ (223 ≤ b ∧ b ≤ 225)) := by
  unfold Sc scB
  simp only [Bool.or_eq_true, Bool.and_eq_true, beq_iff_eq, Nat.ble_eq, or_assoc]
theorem Sc.m {b j : Nat} (h : 29 ≤ b ∧ b ≤ 151) : Sc b j := Sc.iff.mpr (Or.inr (Or.inr (Or.inr (Or.inr (Or.inr (Or.inl h))))))
def SF (m m' : Mm) : Prop := (∀ b j, Sc b j → zI m' b j = zI m b j) ∧ ∀ b j, b ≠ 229 → zL m' b j = zL m b j
def EQ (m m' : Mm) : Prop := m'.1 = m.1 ∧ ∀ b j, b ≠ 229 → zL m' b j = zL m b j
theorem EQ.zI {m m' : Mm} (h : EQ m m') (b j : Nat) : zI m' b j = zI m b j := congrFun (congrFun h.1 b) j
theorem EQ.sf {m m' : Mm} (h : EQ m m') : SF m m' := ⟨fun b j _ => h.zI b j, h.2⟩
theorem SF.refl {m : Mm} : SF m m := ⟨fun _ _ _ => rfl, fun _ _ _ => rfl⟩
theorem SF.trans {m m' m'' : Mm} (h : SF m m') (h2 : SF m' m'') : SF m m'' := ⟨fun b j q => (h2.1 b j q).trans (h.1 b j q), fun b j q => (h2.2 b j q).trans (h.2 b j q)⟩
theorem zL_of {m m' : Mm} (h : m'.2 = m.2) (b j : Nat) : zL m' b j = zL m b j := by unfold zL; rw [h]
theorem SF.of {m m' : Mm} (h : ∀ b j, Sc b j → zI m' b j = zI m b j) (h2 : m'.2 = m.2) : SF m m' := ⟨h, fun b j _ => zL_of h2 b j⟩
theorem SF.w0 {m : Mm} {v : Int32} : SF m (wI m 201 0 v) := SF.of (fun b j h => by
  by_cases e : b = 201
  · subst e; exact zI_nk (by rw [Sc.iff] at h; omega)
  · exact zI_ne e) rfl
theorem FxB.sf {a : Nat} {m m' : Mm} (ha : a = 152 ∨ a = 158) (h : FxB a m m') : SF m m' := SF.of (fun b j hs => h.2.1 b j (by rw [Sc.iff] at hs; omega)) h.1
theorem Fx2.sf {a : Nat} {m m' : Mm} (ha : a = 152 ∨ a = 158) (h : Fx2 a m m') : SF m m' := SF.of (fun b j hs => h.2 b j (by rw [Sc.iff] at hs; omega) (by rw [Sc.iff] at hs; omega)) h.1
theorem FxF.sf {t : Nat} {m m' : Mm} (h : FxF t m m') : SF m m' := SF.of (fun b j hs => h.2.1 b j (by rw [Sc.iff] at hs; omega) (by rw [Sc.iff] at hs; omega) (by rw [Sc.iff] at hs; omega)) h.1
theorem FxP.sf {t : Nat} {m m' : Mm} (h : FxP t m m') : SF m m' := SF.of (fun b j hs => h.2.1 b j (by rw [Sc.iff] at hs; omega) (by rw [Sc.iff] at hs; omega) (by rw [Sc.iff] at hs; omega) (by rw [Sc.iff] at hs; omega)) h.1
theorem FxR.sf {m m' : Mm} (h : FxR m m') : SF m m' := SF.of (fun b j hs => h.2 b j (by rw [Sc.iff] at hs; omega) (by rw [Sc.iff] at hs; omega) (by rw [Sc.iff] at hs; omega) (by rw [Sc.iff] at hs; omega)) h.1
theorem FxQ.sf {m m' : Mm} (h : FxQ m m') : SF m m' := SF.of (fun b j hs => h.2 b j (by rw [Sc.iff] at hs; omega) (by rw [Sc.iff] at hs; omega) (by rw [Sc.iff] at hs; omega)) h.1
theorem Fx1.sf {c : Nat} {m m' : Mm} (hc : c = 28 ∨ c = 167 ∨ c = 222 ∨ c = 219) (h : Fx1 c m m') : SF m m' := SF.of (fun b j hs => h.2 b j (by rw [Sc.iff] at hs; omega)) h.1
theorem FxL.sf {m m' : Mm} (h : FxL m m') : SF m m' := ⟨fun b j hs => h.1 b j (by rw [Sc.iff] at hs; omega) (by rw [Sc.iff] at hs; omega) (by rw [Sc.iff] at hs; omega), fun b j _ => by unfold zL; rw [h.2.2.2]⟩
def iT (m : Mm) (t : Nat) : Prop := t < 2 ∧ zI m 16 8 = i3 t ∧ zI m 201 1 = i3 t
def iX (m : Mm) (T : List Int) : Prop := TX m 17 T ∧ MT m T ∧ (∀ i, i < 40 → zCh (zI m 18 i)) ∧ (∃ vv : Int, zI m 19 3 = i3 vv) ∧ RB m
def iW (N : Nat) (Kc Ac : Nat → Nat → Int) (Lc rk o : Nat → Nat) (R : Nat → Int) (F Y E : Nat → Int) (nb : Nat) (Tx : Nat → List Int) : Prop := VW N Kc Ac Lc ∧ RK N Kc Ac Lc rk ∧ vO N Kc Ac Lc o ∧ (∀ f, f < N → 0 ≤ R f ∧ R f ≤ 9) ∧ vB F Y E nb ∧ Un F Y nb ∧ vT N Kc Ac Lc Tx
def iC (m : Mm) (N : Nat) (Kc Ac : Nat → Nat → Int) (Lc o : Nat → Nat) (R : Nat → Int) (mv : Nat → Bool) (F Y E : Nat → Int) (nb : Nat) (Tx : Nat → List Int) : Prop := Cfe m N Kc Ac Lc ∧ Cor m N o ∧ Crk m N R mv ∧ Cbn m F Y E nb ∧ Ctx m N Tx ∧ ∀ f, f < N → zI m (32 + 6 * f + 3) 3 = i3 ((nms (Kc f) (Ac f) (Lc f) : Nat) : Int)
def iR (m : Mm) (N : Nat) (Kc Ac : Nat → Nat → Int) (Lc : Nat → Nat) (R : Nat → Int) (mv : Nat → Bool) (F Y E : Nat → Int) (nb : Nat) : Prop := Rfe m N Kc Ac Lc ∧ Rrk m N R mv ∧ Rbn m F Y E nb
def iA (m : Mm) (N : Nat) : Prop := ∃ (Kc Ac : Nat → Nat → Int) (Lc rk o : Nat → Nat) (R : Nat → Int) (mv : Nat → Bool) (F Y E : Nat → Int) (nb : Nat) (Tx : Nat → List Int), iW N Kc Ac Lc rk o R F Y E nb Tx ∧ iC m N Kc Ac Lc o R mv F Y E nb Tx ∧ iR m N Kc Ac Lc R mv F Y E nb
def iB (m : Mm) : Prop := ∃ (nR : Nat) (PR RE BE : Nat → Int), vRg nR PR RE ∧ vBE BE ∧ Crg m nR PR RE ∧ Rrg m nR PR RE ∧ Cbe m BE ∧ Rbe m BE
/-- a search that was begun -/
def iQ (m : Mm) (N : Nat) : Prop := ∃ (y : Nat) (C C' : Cx), y ≤ 400 ∧ zI m 170 2 = i3 y ∧ zI m 201 38 = i3 y ∧ Cd m 171 (fun i => (C.getD i (0, 0)).1) (fun i => (C.getD i (0, 0)).2) C.length ∧ Rq m C' ∧ qP 0 C C' ∧ (∀ i, i < C.length → qNm N (C.getD i (0, 0)).1 (C.getD i (0, 0)).2) ∧ ∀ q, q ∈ C' → qNm N (q.1 + 20) q.2
def iS (m : Mm) (N : Nat) : Prop := zL m 170 3 = zL m 201 39 ∧ ∃ b : Bool, zI m 170 1 = b3 b ∧ zI m 201 33 = b3 b ∧ (b = true → iQ m N)
def Inv (m : Mm) : Prop := ∃ (t : Nat) (T : List Int) (N : Nat), iT m t ∧ iX m T ∧ iA m N ∧ iB m ∧ iS m N
section INV
variable {m m' : Mm} {t N nb : Nat} {T : List Int} {F Y E : Nat → Int} {Kc Ac : Nat → Nat → Int} {Lc rk o : Nat → Nat} {R : Nat → Int} {mv : Nat → Bool} {Tx : Nat → List Int}
theorem iT.fx (h : iT m t) (hF : SF m m') : iT m' t := ⟨h.1, by rw [hF.1 _ _ (by first | exact rfl | exact Sc.m (by omega))]; exact h.2.1, by rw [hF.1 _ _ (by first | exact rfl | exact Sc.m (by omega))]; exact h.2.2⟩
theorem iX.fx (h : iX m T) (hF : SF m m') : iX m' T := by
  obtain ⟨⟨a1, a2, a3, a4⟩, ⟨b1, b2, b3, b4⟩, h3, ⟨vv, hv⟩, dg, nu, dn, r0, r1, r2, r3⟩ := h
  refine ⟨⟨a1, ?_, fun i hi => ?_, a4⟩, ⟨b1, ?_, fun i hi => ?_, b4⟩, fun i hi => ?_, ⟨vv, ?_⟩, dg, nu, dn, r0, ?_, ?_, ?_⟩
  · rw [hF.1 _ _ (by first | exact rfl | exact Sc.m (by omega))]; exact a2
  · rw [hF.1 _ _ (by first | exact rfl | exact Sc.m (by omega))]; exact a3 i hi
  · rw [hF.1 _ _ (by first | exact rfl | exact Sc.m (by omega))]; exact b2
  · rw [hF.1 _ _ (by first | exact rfl | exact Sc.m (by omega))]; exact b3 i hi
  · rw [hF.1 _ _ (by first | exact rfl | exact Sc.m (by omega))]; exact h3 i hi
  · rw [hF.1 _ _ (by first | exact rfl | exact Sc.m (by omega))]; exact hv
  · rw [hF.1 _ _ (by first | exact rfl | exact Sc.m (by omega))]; exact r1
  · rw [hF.1 _ _ (by first | exact rfl | exact Sc.m (by omega))]; exact r2
  · rw [hF.1 _ _ (by first | exact rfl | exact Sc.m (by omega))]; exact r3
theorem Cd.sf {q n : Nat} {K A : Nat → Int} (h : Cd m q K A n) (hF : SF m m') (hq : (∀ j, Sc q j) ∧ (∀ j, Sc (q + 1) j) ∧ ∀ j, Sc (q + 2) j) : Cd m' q K A n := by
  refine ⟨h.1, ?_, fun i hi => ⟨?_, ?_⟩⟩
  · rw [hF.1 _ _ (hq.1 _)]; exact h.2.1
  · rw [hF.1 _ _ (hq.2.1 _)]; exact (h.2.2 i hi).1
  · rw [hF.1 _ _ (hq.2.2 _)]; exact (h.2.2 i hi).2
theorem iC.fx (hN : N ≤ 20) (h : iC m N Kc Ac Lc o R mv F Y E nb Tx) (hF : SF m m') : iC m' N Kc Ac Lc o R mv F Y E nb Tx := by
  obtain ⟨⟨h1, h2⟩, h3, h4, ⟨h5, h6⟩, h7, h8⟩ := h
  refine ⟨⟨?_, fun f hf => (h2 f hf).sf hF ⟨fun _ => Sc.m (by omega), fun _ => Sc.m (by omega), fun _ => Sc.m (by omega)⟩⟩, fun i hi => ?_, fun f hf => ⟨?_, ?_⟩, ⟨?_, fun i hi => ⟨?_, ?_, ?_⟩⟩, fun f hf => ?_, fun f hf => ?_⟩
  · rw [hF.1 _ _ (by first | exact rfl | exact Sc.m (by omega))]; exact h1
  · rw [hF.1 _ _ (by first | exact rfl | exact Sc.m (by omega))]; exact h3 i hi
  · rw [hF.1 _ _ (by first | exact rfl | exact Sc.m (by omega))]; exact (h4 f hf).1
  · rw [hF.1 _ _ (by first | exact rfl | exact Sc.m (by omega))]; exact (h4 f hf).2
  · rw [hF.1 _ _ (by first | exact rfl | exact Sc.m (by omega))]; exact h5
  · rw [hF.1 _ _ (by first | exact rfl | exact Sc.m (by omega))]; exact (h6 i hi).1
  · rw [hF.1 _ _ (by first | exact rfl | exact Sc.m (by omega))]; exact (h6 i hi).2.1
  · rw [hF.1 _ _ (by first | exact rfl | exact Sc.m (by omega))]; exact (h6 i hi).2.2
  · obtain ⟨a1, a2, a3, a4⟩ := h7 f hf
    refine ⟨a1, ?_, fun i hi => ?_, a4⟩
    · rw [hF.1 _ _ (by first | exact rfl | exact Sc.m (by omega))]; exact a2
    · rw [hF.1 _ _ (by first | exact rfl | exact Sc.m (by omega))]; exact a3 i hi
  · rw [hF.1 _ _ (by first | exact rfl | exact Sc.m (by omega))]; exact h8 f hf
theorem iR.fx (h : iR m N Kc Ac Lc R mv F Y E nb) (hF : SF m m') : iR m' N Kc Ac Lc R mv F Y E nb := by
  obtain ⟨⟨h1, h2⟩, h3, h4, h5⟩ := h
  refine ⟨⟨?_, fun f hf => ⟨?_, fun i hi => ⟨?_, ?_⟩⟩⟩, fun f hf => ⟨?_, ?_⟩, ?_, fun i hi => ⟨?_, ?_, ?_⟩⟩
  · rw [hF.1 _ _ (by first | exact rfl | exact Sc.m (by omega))]; exact h1
  · rw [hF.1 _ _ (by first | exact rfl | exact Sc.m (by omega))]; exact (h2 f hf).1
  · rw [hF.1 _ _ (by first | exact rfl | exact Sc.m (by omega))]; exact ((h2 f hf).2 i hi).1
  · rw [hF.1 _ _ (by first | exact rfl | exact Sc.m (by omega))]; exact ((h2 f hf).2 i hi).2
  · rw [hF.1 _ _ (by first | exact rfl | exact Sc.m (by omega))]; exact (h3 f hf).1
  · rw [hF.1 _ _ (by first | exact rfl | exact Sc.m (by omega))]; exact (h3 f hf).2
  · rw [hF.1 _ _ (by first | exact rfl | exact Sc.m (by omega))]; exact h4
  · rw [hF.1 _ _ (by first | exact rfl | exact Sc.m (by omega))]; exact (h5 i hi).1
  · rw [hF.1 _ _ (by first | exact rfl | exact Sc.m (by omega))]; exact (h5 i hi).2.1
  · rw [hF.1 _ _ (by first | exact rfl | exact Sc.m (by omega))]; exact (h5 i hi).2.2
theorem iA.fx (h : iA m N) (hF : SF m m') : iA m' N := by
  obtain ⟨Kc, Ac, Lc, rk, o, R, mv, F, Y, E, nb, Tx, hW, hC, hR⟩ := h
  exact ⟨Kc, Ac, Lc, rk, o, R, mv, F, Y, E, nb, Tx, hW, hC.fx hW.1.1 hF, hR.fx hF⟩
theorem iB.fx (h : iB m) (hF : SF m m') : iB m' := by
  obtain ⟨nR, PR, RE, BE, h1, h2, h3, h4, h5, h6⟩ := h
  refine ⟨nR, PR, RE, BE, h1, h2, ⟨?_, fun k hk => ⟨?_, ?_⟩⟩, ⟨?_, fun k hk => ⟨?_, ?_⟩⟩, fun p hp => ?_, fun p hp => ?_⟩
  · rw [hF.1 _ _ (by first | exact rfl | exact Sc.m (by omega))]; exact h3.1
  · rw [hF.1 _ _ (by first | exact rfl | exact Sc.m (by omega))]; exact (h3.2 k hk).1
  · rw [hF.1 _ _ (by first | exact rfl | exact Sc.m (by omega))]; exact (h3.2 k hk).2
  · rw [hF.1 _ _ (by first | exact rfl | exact Sc.m (by omega))]; exact h4.1
  · rw [hF.1 _ _ (by first | exact rfl | exact Sc.m (by omega))]; exact (h4.2 k hk).1
  · rw [hF.1 _ _ (by first | exact rfl | exact Sc.m (by omega))]; exact (h4.2 k hk).2
  · rw [hF.1 _ _ (by first | exact rfl | exact Sc.m (by omega))]; exact h5 p hp
  · rw [hF.1 _ _ (by first | exact rfl | exact Sc.m (by omega))]; exact h6 p hp
theorem iQ.fx (h : iQ m N) (hF : SF m m') : iQ m' N := by
  obtain ⟨y, C, C', h1, h2, h3, h4, ⟨c1, c2, c3⟩, h5⟩ := h
  refine ⟨y, C, C', h1, ?_, ?_, h4.sf hF ⟨fun _ => rfl, fun _ => rfl, fun _ => rfl⟩, ⟨c1, ?_, fun i hi => ⟨?_, ?_⟩⟩, h5⟩
  · rw [hF.1 _ _ (by first | exact rfl | exact Sc.m (by omega))]; exact h2
  · rw [hF.1 _ _ (by first | exact rfl | exact Sc.m (by omega))]; exact h3
  · rw [hF.1 _ _ (by first | exact rfl | exact Sc.m (by omega))]; exact c2
  · rw [hF.1 _ _ (by first | exact rfl | exact Sc.m (by omega))]; exact (c3 i hi).1
  · rw [hF.1 _ _ (by first | exact rfl | exact Sc.m (by omega))]; exact (c3 i hi).2
theorem iS.fx (h : iS m N) (hF : SF m m') : iS m' N := by
  obtain ⟨h1, b, h2, h3, h4⟩ := h
  refine ⟨by rw [hF.2 _ _ (by decide), hF.2 _ _ (by decide)]; exact h1, b, ?_, ?_, fun hb => (h4 hb).fx hF⟩
  · rw [hF.1 _ _ (by first | exact rfl | exact Sc.m (by omega))]; exact h2
  · rw [hF.1 _ _ (by first | exact rfl | exact Sc.m (by omega))]; exact h3
theorem Inv.fx (h : Inv m) (hF : SF m m') : Inv m' := by
  obtain ⟨t, T, N, h1, h2, h3, h4, h5⟩ := h
  exact ⟨t, T, N, h1.fx hF, h2.fx hF, h3.fx hF, h4.fx hF, h5.fx hF⟩
theorem iA.n19 (h : iA m N) : zI m 201 19 = i3 N ∧ zI m 25 3 = i3 N ∧ N ≤ 20 := by
  obtain ⟨Kc, Ac, Lc, rk, o, R, mv, F, Y, E, nb, Tx, hW, hC, hR⟩ := h
  exact ⟨hR.1.1, hC.1.1, hW.1.1⟩
end INV
/-! what a call of the class tells, and one of the reference -/
/-- c: the law's number of an exception; r: the class's answer; b: the reference's -/
def Ag (c : Nat → Int) (r : Int32 ⊕ Nat) (b : Int32) (m : Mm) : Prop := match r with
  | .inl v => zI m 201 0 = 0 ∧ b = v
  | .inr e => zI m 201 0 = i3 (c e) ∧ 1 ≤ c e ∧ c e ≤ 3
/-- a class's call and the reference's behind it: the class's answer r and what it leaves; from what is like that, the reference goes -/
def Bo (c : Nat → Int) (A : Option ((Int32 ⊕ Nat) × Mm)) (G : Mm → Option (Int32 × Mm)) : Prop := ∃ r m1, A = some (r, m1) ∧ ∀ m1', EQ m1 m1' → ∃ b m2, G m1' = some (b, m2) ∧ Inv m2 ∧ (∀ j, zL m2 229 j = zL m1' 229 j) ∧ Ag c r b m2
