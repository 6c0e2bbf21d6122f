/-! FRAMES: what each part of what is kept rests on -/
def cT (b j : Nat) : Bool := (b == 16 && j == 8) || (b == 201 && j == 1)
def cX (b j : Nat) : Bool := (b == 17 && j == 1) || b == 18 || (b == 19 && j == 3) || (b == 201 && (j == 3 || j == 13 || j == 17 || j == 18)) || b == 202
def cC (b j : Nat) : Bool := (Nat.ble 25 b && Nat.ble b 27) || (Nat.ble 29 b && Nat.ble b 151)
def cR (b j : Nat) : Bool := (b == 201 && (j == 19 || j == 25)) || (Nat.ble 208 b && Nat.ble b 215)
def cB (b j : Nat) : Bool := (b == 174 && j == 3) || (Nat.ble 175 b && Nat.ble b 177) || (b == 201 && j == 41) || (Nat.ble 223 b && Nat.ble b 225)
def cQ (b j : Nat) : Bool := (b == 170 && (j == 1 || j == 2)) || (Nat.ble 171 b && Nat.ble b 173) || (b == 201 && (j == 33 || j == 34 || j == 38)) || b == 220 || b == 221
def SFc (c : Nat → Nat → Bool) (m m' : Mm) : Prop := ∀ b j, c b j = true → zI m' b j = zI m b j
theorem SFc.refl {c : Nat → Nat → Bool} {m : Mm} : SFc c m m := fun _ _ _ => rfl
theorem SFc.trans {c : Nat → Nat → Bool} {m m' m'' : Mm} (h : SFc c m m') (h2 : SFc c m' m'') : SFc c m m'' := fun b j q => (h2 b j q).trans (h b j q)
theorem SFc.w {c : Nat → Nat → Bool} {m : Mm} {a k : Nat} {v : Int32} (h : c a k = false) : SFc c m (wI m a k v) := fun b j q => by
  by_cases e : b = a
  · subst e
    by_cases e2 : j = k
    · subst e2
      rw [h] at q
      exact nomatch q
    · exact zI_nk e2
  · exact zI_ne e
theorem EQ.c {c : Nat → Nat → Bool} {m m' : Mm} (h : EQ m m') : SFc c m m' := fun b j _ => h.zI b j
theorem cC_m {b j : Nat} (h : 29 ≤ b ∧ b ≤ 151) : cC b j = true := by
  unfold cC
  simp only [Bool.or_eq_true, Bool.and_eq_true, Nat.ble_eq]
  exact Or.inr h
theorem SF.c {c : Nat → Nat → Bool} {m m' : Mm} (h : SF m m') (hc : ∀ b j, c b j = true → Sc b j) : SFc c m m' := fun b j q => h.1 b j (hc b j q)
theorem cT_s (b j : Nat) (h : cT b j = true) : Sc b j := by
  unfold cT at h
  simp only [Bool.or_eq_true, Bool.and_eq_true, beq_iff_eq, Nat.ble_eq] at h
  rcases h with ⟨rfl, rfl⟩ | ⟨rfl, rfl⟩
  · exact rfl
  · exact rfl
theorem cX_s (b j : Nat) (h : cX b j = true) : Sc b j := by
  unfold cX at h
  simp only [Bool.or_eq_true, Bool.and_eq_true, beq_iff_eq, Nat.ble_eq] at h
  rcases h with (((⟨rfl, rfl⟩ | rfl) | ⟨rfl, rfl⟩) | ⟨rfl, ((rfl | rfl) | rfl) | rfl⟩) | rfl
  · exact rfl
  · exact rfl
  · exact rfl
  · exact rfl
  · exact rfl
  · exact rfl
  · exact rfl
  · exact rfl
theorem cC_s (b j : Nat) (h : cC b j = true) : Sc b j := by
  unfold cC at h
  simp only [Bool.or_eq_true, Bool.and_eq_true, beq_iff_eq, Nat.ble_eq] at h
  rcases h with h | h
  · exact Sc.iff.mpr (Or.inr (Or.inr (Or.inr (Or.inr (Or.inl h)))))
  · exact Sc.iff.mpr (Or.inr (Or.inr (Or.inr (Or.inr (Or.inr (Or.inl h))))))
theorem cR_s (b j : Nat) (h : cR b j = true) : Sc b j := by
  unfold cR at h
  simp only [Bool.or_eq_true, Bool.and_eq_true, beq_iff_eq, Nat.ble_eq] at h
  rcases h with ⟨rfl, rfl | rfl⟩ | h
  · exact rfl
  · exact rfl
  · exact Sc.iff.mpr (Or.inr (Or.inr (Or.inr (Or.inr (Or.inr (Or.inr (Or.inr (Or.inr (Or.inr (Or.inr (Or.inr (Or.inr (Or.inl h)))))))))))))
theorem cB_s (b j : Nat) (h : cB b j = true) : Sc b j := by
  unfold cB at h
  simp only [Bool.or_eq_true, Bool.and_eq_true, beq_iff_eq, Nat.ble_eq] at h
  rcases h with ((⟨rfl, rfl⟩ | h) | ⟨rfl, rfl⟩) | h
  · exact rfl
  · exact Sc.iff.mpr (Or.inr (Or.inr (Or.inr (Or.inr (Or.inr (Or.inr (Or.inr (Or.inr (Or.inr (Or.inl h))))))))))
  · exact rfl
  · exact Sc.iff.mpr (Or.inr (Or.inr (Or.inr (Or.inr (Or.inr (Or.inr (Or.inr (Or.inr (Or.inr (Or.inr (Or.inr (Or.inr (Or.inr (Or.inr (Or.inr (h))))))))))))))))
theorem cQ_s (b j : Nat) (h : cQ b j = true) : Sc b j := by
  unfold cQ at h
  simp only [Bool.or_eq_true, Bool.and_eq_true, beq_iff_eq, Nat.ble_eq] at h
  rcases h with (((⟨rfl, rfl | rfl⟩ | h) | ⟨rfl, (rfl | rfl) | rfl⟩) | rfl) | rfl
  · exact rfl
  · exact rfl
  · exact Sc.iff.mpr (Or.inr (Or.inr (Or.inr (Or.inr (Or.inr (Or.inr (Or.inr (Or.inl h))))))))
  · exact rfl
  · exact rfl
  · exact rfl
  · exact rfl
  · exact rfl
section FRM
variable {m m' : Mm} {t N nb : Nat} {T : List Int} {F Y E : Nat → Int} {Kc Ac : Nat → Nat → Int} {Lc rk o : Nat → Nat} {R : Nat → Int} {mv : Nat → Bool} {Tx : Nat → List Int}
theorem iT.fc (h : iT m t) (hF : SFc cT m m') : iT m' t := ⟨h.1, by rw [hF _ _ (by exact rfl)]; exact h.2.1, by rw [hF _ _ (by exact rfl)]; exact h.2.2⟩
theorem iX.fc (h : iX m T) (hF : SFc cX m m') : iX m' T := by
  obtain ⟨⟨a1, a2, a3, a4⟩, ⟨b1, b2, b3, b4⟩, h3, ⟨vv, hv⟩, dg, nu, dn, r0, r1, r2, r3⟩ := h
  refine ⟨⟨a1, ?_, fun i hi => ?_, a4⟩, ⟨b1, ?_, fun i hi => ?_, b4⟩, fun i hi => ?_, ⟨vv, ?_⟩, dg, nu, dn, r0, ?_, ?_, ?_⟩
  · rw [hF _ _ (by exact rfl)]; exact a2
  · rw [hF _ _ (by exact rfl)]; exact a3 i hi
  · rw [hF _ _ (by exact rfl)]; exact b2
  · rw [hF _ _ (by exact rfl)]; exact b3 i hi
  · rw [hF _ _ (by exact rfl)]; exact h3 i hi
  · rw [hF _ _ (by exact rfl)]; exact hv
  · rw [hF _ _ (by exact rfl)]; exact r1
  · rw [hF _ _ (by exact rfl)]; exact r2
  · rw [hF _ _ (by exact rfl)]; exact r3
theorem iC.fc (hN : N ≤ 20) (h : iC m N Kc Ac Lc o R mv F Y E nb Tx) (hF : SFc cC m m') : iC m' N Kc Ac Lc o R mv F Y E nb Tx := by
  obtain ⟨⟨h1, h2⟩, h3, h4, ⟨h5, h6⟩, h7, h8⟩ := h
  refine ⟨⟨?_, fun f hf => ?_⟩, fun i hi => ?_, fun f hf => ⟨?_, ?_⟩, ⟨?_, fun i hi => ⟨?_, ?_, ?_⟩⟩, fun f hf => ?_, fun f hf => ?_⟩
  · rw [hF _ _ (by exact rfl)]; exact h1
  · obtain ⟨a1, a2, a3⟩ := h2 f hf
    refine ⟨a1, ?_, fun i hi => ⟨?_, ?_⟩⟩
    · rw [hF _ _ (cC_m (by omega))]; exact a2
    · rw [hF _ _ (cC_m (by omega))]; exact (a3 i hi).1
    · rw [hF _ _ (cC_m (by omega))]; exact (a3 i hi).2
  · rw [hF _ _ (by exact rfl)]; exact h3 i hi
  · rw [hF _ _ (cC_m (by omega))]; exact (h4 f hf).1
  · rw [hF _ _ (cC_m (by omega))]; exact (h4 f hf).2
  · rw [hF _ _ (by exact rfl)]; exact h5
  · rw [hF _ _ (by exact rfl)]; exact (h6 i hi).1
  · rw [hF _ _ (by exact rfl)]; exact (h6 i hi).2.1
  · rw [hF _ _ (by exact rfl)]; exact (h6 i hi).2.2
  · obtain ⟨a1, a2, a3, a4⟩ := h7 f hf
    refine ⟨a1, ?_, fun i hi => ?_, a4⟩
    · rw [hF _ _ (cC_m (by omega))]; exact a2
    · rw [hF _ _ (cC_m (by omega))]; exact a3 i hi
  · rw [hF _ _ (cC_m (by omega))]; exact h8 f hf
theorem iR.fc (h : iR m N Kc Ac Lc R mv F Y E nb) (hF : SFc cR m m') : iR m' N Kc Ac Lc R mv F Y E nb := by
  obtain ⟨⟨h1, h2⟩, h3, h4, h5⟩ := h
  refine ⟨⟨?_, fun f hf => ⟨?_, fun i hi => ⟨?_, ?_⟩⟩⟩, fun f hf => ⟨?_, ?_⟩, ?_, fun i hi => ⟨?_, ?_, ?_⟩⟩
  · rw [hF _ _ (by exact rfl)]; exact h1
  · rw [hF _ _ (by exact rfl)]; exact (h2 f hf).1
  · rw [hF _ _ (by exact rfl)]; exact ((h2 f hf).2 i hi).1
  · rw [hF _ _ (by exact rfl)]; exact ((h2 f hf).2 i hi).2
  · rw [hF _ _ (by exact rfl)]; exact (h3 f hf).1
  · rw [hF _ _ (by exact rfl)]; exact (h3 f hf).2
  · rw [hF _ _ (by exact rfl)]; exact h4
  · rw [hF _ _ (by exact rfl)]; exact (h5 i hi).1
  · rw [hF _ _ (by exact rfl)]; exact (h5 i hi).2.1
  · rw [hF _ _ (by exact rfl)]; exact (h5 i hi).2.2
theorem iA.fc (h : iA m N) (hF : SFc cC m m') (hF2 : SFc cR m m') : iA m' N := by
  obtain ⟨Kc, Ac, Lc, rk, o, R, mv, F, Y, E, nb, Tx, hW, hC, hR⟩ := h
  exact ⟨Kc, Ac, Lc, rk, o, R, mv, F, Y, E, nb, Tx, hW, hC.fc hW.1.1 hF, hR.fc hF2⟩
theorem iB.fc (h : iB m) (hF : SFc cB m m') : iB m' := by
  obtain ⟨nR, PR, RE, BE, h1, h2, h3, h4, h5, h6⟩ := h
  refine ⟨nR, PR, RE, BE, h1, h2, ⟨?_, fun k hk => ⟨?_, ?_⟩⟩, ⟨?_, fun k hk => ⟨?_, ?_⟩⟩, fun p hp => ?_, fun p hp => ?_⟩
  · rw [hF _ _ (by exact rfl)]; exact h3.1
  · rw [hF _ _ (by exact rfl)]; exact (h3.2 k hk).1
  · rw [hF _ _ (by exact rfl)]; exact (h3.2 k hk).2
  · rw [hF _ _ (by exact rfl)]; exact h4.1
  · rw [hF _ _ (by exact rfl)]; exact (h4.2 k hk).1
  · rw [hF _ _ (by exact rfl)]; exact (h4.2 k hk).2
  · rw [hF _ _ (by exact rfl)]; exact h5 p hp
  · rw [hF _ _ (by exact rfl)]; exact h6 p hp
theorem iQ.fc (h : iQ m N) (hF : SFc cQ m m') : iQ m' N := by
  obtain ⟨y, C, C', h1, h2, h3, ⟨d1, d2, d3⟩, ⟨c1, c2, c3⟩, h5⟩ := h
  refine ⟨y, C, C', h1, ?_, ?_, ⟨d1, ?_, fun i hi => ⟨?_, ?_⟩⟩, ⟨c1, ?_, fun i hi => ⟨?_, ?_⟩⟩, h5⟩
  · rw [hF _ _ (by exact rfl)]; exact h2
  · rw [hF _ _ (by exact rfl)]; exact h3
  · rw [hF _ _ (by exact rfl)]; exact d2
  · rw [hF _ _ (by exact rfl)]; exact (d3 i hi).1
  · rw [hF _ _ (by exact rfl)]; exact (d3 i hi).2
  · rw [hF _ _ (by exact rfl)]; exact c2
  · rw [hF _ _ (by exact rfl)]; exact (c3 i hi).1
  · rw [hF _ _ (by exact rfl)]; exact (c3 i hi).2
theorem iQ.up {N' : Nat} (h : iQ m N) (hN : N ≤ N') : iQ m N' := by
  obtain ⟨y, C, C', h1, h2, h3, h4, h5, h6, h7, h8⟩ := h
  have up : ∀ k x : Int, qNm N k x → qNm N' k x := fun k x q => ⟨fun e => by have := q.1 e; omega, fun e => by have := q.2.1 e; omega, fun e => by have := q.2.2.1 e; omega, fun e => by have := q.2.2.2 e; omega⟩
  exact ⟨y, C, C', h1, h2, h3, h4, h5, h6, fun i hi => up _ _ (h7 i hi), fun q hq => up _ _ (h8 q hq)⟩
theorem iS.fc {N' : Nat} (h : iS m N) (hF : SFc cQ m m') (hL : ∀ b j, b ≠ 229 → zL m' b j = zL m b j) (hN : N ≤ N') : iS m' N' := by
  obtain ⟨h1, b, h2, h3, h4⟩ := h
  refine ⟨by rw [hL _ _ (by decide), hL _ _ (by decide)]; exact h1, b, ?_, ?_, fun hb => ((h4 hb).fc hF).up hN⟩
  · rw [hF _ _ (by exact rfl)]; exact h2
  · rw [hF _ _ (by exact rfl)]; exact h3
end FRM
