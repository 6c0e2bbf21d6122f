/-! THE LAW'S CASES: rules with known answers -/
section LWK
variable {ω : Wd} {ph : Bool} {D mc ms : Nat} {κ : Kx} {α β : Type} {φ : α → Zo} {c0 s0 c1 s1 : Nat} {m m' : Mm} {pc : Nat} {ls : List (Option Value)} {st rest As : List Value} {t : Option α}
variable {D' mc' ms' nL' idx : Nat} {y : MethodName} {cc' : ByteArray} {ret' : Option FieldType} {hh : List (Nat × Nat × Nat × Nat)} {ψ : β → Zo} {f : Option β} {r0 : β} {v : Value}
theorem x_wid (h1 : c0 ≤ c1) (h2 : s0 ≤ s1) (k : Sx ω ph D mc ms κ φ c1 s1 m pc ls st t) : Sx ω ph D mc ms κ φ c0 s0 m pc ls st t :=
  fun r hr p l e s mid args below meth c H locs la C L hH hS => W.widen h1 h2 (k r hr p l e s mid args below meth c H locs la C L hH hS)
theorem x_callVK {a ci : Nat} (hf : f = some r0) (hψ : ψ r0 = (.inl (some v), m')) (hE : Ev ω ph D' mc' ms' y cc' nL' ret' (.ref (zad ω a) :: As) m ψ f) (hM : zMv κ.1 idx ci y cc' nL' ret' As.length) (hT : zT a = ci + 1) (hi : ph = true ∨ a < zN m) (hst : st = As.reverse ++ .ref (zad ω a) :: rest) (hw : (rest.map fun v => v.category).sum ≤ 8) (hD : D' + 1 ≤ D) (hL : nL' ≤ 21) (hcs : c0 + mc' ≤ mc ∧ s0 + ms' ≤ ms) (d : decode κ.2.1 pc = .ok (.invokevirtual idx, 3)) (k : Sx ω ph D mc ms κ φ (c0 + mc') (s0 + ms') m' (pc + 3) ls (v :: rest) t) : Sx ω ph D mc ms κ φ c0 s0 m pc ls st t := by
  intro r hr p l e s mid args below meth c H locs la C L hH hS
  refine zW_cont (zW_runV C L hH hS hE hf hM hT hi hst hw hD hL hcs d) hS (fun v9 m9 ho H' locs' hH' hS' => ?_) (fun e9 m9 ho => ?_)
  · rw [hψ] at ho
    cases ho
    exact k r hr p l e s mid args below meth c H' locs' la C L hH' hS'
  · rw [hψ] at ho
    cases ho
theorem x_callSK {w w0 : Int32} {g : Option (Int32 × Mm)} (hf : g = some (w, m')) (hE : EvW ω ph D' mc' ms' y cc' nL' ret' hh As m fI g) (hM : zMh κ.1 idx y cc' nL' ret' hh As.length) (hst : st = As.reverse ++ rest) (hw : (rest.map fun v => v.category).sum ≤ 8) (hD : D' + 1 ≤ D) (hL : nL' ≤ 21) (hcs : c0 + mc' ≤ mc ∧ s0 + ms' ≤ ms) (d : decode κ.2.1 pc = .ok (.invokestatic idx, 3)) (k : Sx ω ph D mc ms κ φ (c0 + mc') (s0 + ms') m' (pc + 3) ls (.int w :: rest) t) : Sx ω ph D mc ms κ φ c0 s0 m pc ls st t := by
  classical
  have h := x_callSH (K := fun w9 m9 => if w9 = w ∧ m9 = m' then t else none) hE hM hst hw hD hL hcs d (fun w9 m9 => by
    by_cases hc : w9 = w ∧ m9 = m'
    · rw [if_pos hc, hc.1, hc.2]; exact k
    · rw [if_neg hc]; exact fun r hr => nomatch hr)
  rw [hf] at h
  have e : zBI (some (w, m')) (fun w9 m9 => if w9 = w ∧ m9 = m' then t else none) = t := if_pos ⟨rfl, rfl⟩
  rw [e] at h
  exact h
theorem x_sldK {i : Int32} (hin : zIn i (oL ω)) (d : decode κ.2.1 pc = .ok (.iaload, 1)) (k : Sx ω ph D mc ms κ φ c0 s0 m (pc + 1) ls (.int (ox ω (zIx i)) :: st) t) : Sx ω ph D mc ms κ φ c0 s0 m pc ls (.int i :: .ref (oX ω 1) :: st) t := by
  have h := x_sld (st := st) d (fun _ => k)
  rw [if_pos hin] at h
  exact h
theorem x_outK (hi : ph = true ∨ 229 < zN m) (d : decode κ.2.1 pc = .ok (.laload, 1)) (k : Sx ω ph D mc ms κ φ c0 s0 m (pc + 1) ls (.long (zL m 229 0) :: st) t) : Sx ω ph D mc ms κ φ c0 s0 m pc ls (.int 0 :: .ref (zad ω 229) :: st) t := by
  have h := x_lald (a := 229) (i := 0) (st := st) rfl hi d (fun _ => k)
  rw [if_pos (by decide +kernel)] at h
  exact h
theorem x_sameK {x y : Int32} {off : Int} {tgt : Nat} (hxy : x = y) (d : decode κ.2.1 pc = .ok (.if_icmp .eq off, 3)) (ht : (pc : Int) + off = (tgt : Int)) (k : Sx ω ph D mc ms κ φ c0 s0 m tgt ls st t) : Sx ω ph D mc ms κ φ c0 s0 m pc ls (.int y :: .int x :: st) t := by
  have h := x_icmp_eq (t1 := t) (t2 := none) d ht (fun _ => k) (fun h => absurd hxy h)
  rw [if_pos hxy] at h
  exact h
theorem x_neK {x : Int32} {off : Int} {tgt : Nat} (d : decode κ.2.1 pc = .ok (.ifCond .ne off, 3)) (ht : (pc : Int) + off = (tgt : Int)) (k1 : x = 0 → Sx ω ph D mc ms κ φ c0 s0 m (pc + 3) ls st t) (k2 : ¬ x = 0 → Sx ω ph D mc ms κ φ c0 s0 m tgt ls st t) : Sx ω ph D mc ms κ φ c0 s0 m pc ls (.int x :: st) t := by
  have h := x_if_ne d ht k1 k2
  rw [ite_self] at h
  exact h
theorem x_zeroK {off : Int} {tgt : Nat} (d : decode κ.2.1 pc = .ok (.ifCond .eq off, 3)) (ht : (pc : Int) + off = (tgt : Int)) (k : Sx ω ph D mc ms κ φ c0 s0 m tgt ls st t) : Sx ω ph D mc ms κ φ c0 s0 m pc ls (.int 0 :: st) t := by
  have h := x_if_eq (t1 := t) (t2 := none) d ht (fun _ => k) (fun h => absurd rfl h)
  rw [if_pos rfl] at h
  exact h
theorem x_lcmpK {x y : Int64} (hxy : x = y) (d : decode κ.2.1 pc = .ok (.lcmp, 1)) (k : Sx ω ph D mc ms κ φ c0 s0 m (pc + 1) ls (.int 0 :: st) t) : Sx ω ph D mc ms κ φ c0 s0 m pc ls (.long y :: .long x :: st) t := by
  subst hxy
  refine x_lcmp d ?_
  rw [show lg_cmp x x = 0 from by simp [lg_cmp]]
  exact k
end LWK
/-- a helper and the reference behind it agree -/
theorem hB_agree {c : Nat → Int} {kx : Nat → Mm → Option (Int32 × Mm)} {A : Option ((Int32 ⊕ Nat) × Mm)} {G : Mm → Option (Int32 × Mm)} (hk : ∀ e m, 1 ≤ c e → kx e m = some (i3 (c e), m)) (h0 : ∀ e, 1 ≤ c e → c e ≤ 3 → i3 (c e) ≠ 0) (hb : Bo c A G) :
    ∃ (kk : Int32) (mh : Mm) (b : Int32) (m2 : Mm), hB hO kx A = some (kk, mh) ∧ G mh = some (b, m2) ∧ Inv m2 ∧ zI m2 201 0 = kk ∧ (kk = 0 → zL m2 229 0 = b.toInt64) := by
  obtain ⟨r, m1, e1, h⟩ := hb
  rw [e1]
  cases r with
  | inl v =>
    obtain ⟨b, m2, e2, hI, hl, ha⟩ := h (wL m1 229 (zIx 0) v.toInt64) ⟨rfl, fun b j hb => (zL_wL _ _ _ _ _ _).trans (if_neg (fun q => hb q.1))⟩
    refine ⟨0, _, b, m2, ?_, e2, hI, ha.1, fun _ => ?_⟩
    · show (if zIn 0 (zLn 229) then some ((0 : Int32), wL m1 229 (zIx 0) v.toInt64) else none) = _
      exact if_pos (show zIn 0 (zLn 229) by decide +kernel)
    · rw [hl, ha.2, zL_wL, if_pos ⟨rfl, by decide +kernel⟩]
  | inr e =>
    obtain ⟨b, m2, e2, hI, hl, ha⟩ := h m1 ⟨rfl, fun _ _ _ => rfl⟩
    refine ⟨i3 (c e), m1, b, m2, ?_, e2, hI, ha.1, fun h9 => absurd h9 (h0 e ha.2.1 ha.2.2)⟩
    exact hk e m1 ha.2.1
theorem i3_13 : ∀ n : Nat, n < 3 → i3 ((n : Int) + 1) ≠ 0 := by decide +kernel
theorem ne_13 {x : Int} (h1 : 1 ≤ x) (h2 : x ≤ 3) : i3 x ≠ 0 := by
  have h := i3_13 (x - 1).toNat (by omega)
  rw [show ((x - 1).toNat : Int) + 1 = x by omega] at h
  exact h
theorem hk_A (e : Nat) (m : Mm) (h : 1 ≤ cA e) : kA e m = some (i3 (cA e), m) := by
  unfold cA at h ⊢
  by_cases h0 : e = 0
  · rw [if_pos h0]; exact if_pos h0
  · rw [if_neg h0] at h; exact absurd h (by decide)
theorem hk_I (e : Nat) (m : Mm) (h : 1 ≤ cI e) : kI e m = some (i3 (cI e), m) := by
  unfold cI at h ⊢
  by_cases h0 : e = 2
  · rw [if_pos h0]; exact if_pos h0
  · rw [if_neg h0] at h; exact absurd h (by decide)
theorem hk_AS (e : Nat) (m : Mm) (h : 1 ≤ cAS e) : kAS e m = some (i3 (cAS e), m) := by
  unfold cAS at h ⊢
  by_cases h0 : e = 0
  · rw [if_pos h0]; exact if_pos h0
  · rw [if_neg h0] at h ⊢
    by_cases h1 : e = 1
    · rw [if_pos h1]; exact (if_neg h0).trans (if_pos h1)
    · rw [if_neg h1] at h; exact absurd h (by decide)
theorem hk_IA (e : Nat) (m : Mm) (h : 1 ≤ cIA e) : kIA e m = some (i3 (cIA e), m) := by
  unfold cIA at h ⊢
  by_cases h0 : e = 2
  · rw [if_pos h0]; exact if_pos h0
  · rw [if_neg h0] at h ⊢
    by_cases h1 : e = 0
    · rw [if_pos h1]; exact (if_neg h0).trans (if_pos h1)
    · rw [if_neg h1] at h; exact absurd h (by decide)
theorem hk_IAS (e : Nat) (m : Mm) (h : 1 ≤ cIAS e) : kIAS e m = some (i3 (cIAS e), m) := by
  unfold cIAS at h ⊢
  by_cases h0 : e = 2
  · rw [if_pos h0]; exact if_pos h0
  · rw [if_neg h0] at h ⊢
    by_cases h1 : e = 0
    · rw [if_pos h1]; exact (if_neg h0).trans (if_pos h1)
    · rw [if_neg h1] at h ⊢
      by_cases h2 : e = 1
      · rw [if_pos h2]; exact (if_neg h0).trans ((if_neg h1).trans (if_pos h2))
      · rw [if_neg h2] at h; exact absurd h (by decide)
