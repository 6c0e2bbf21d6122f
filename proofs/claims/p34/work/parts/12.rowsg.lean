def zmask : List Bool → List (Option Value) → List (Option Value)
  | b :: bs, x :: ls => (if b then x else none) :: zmask bs ls
  | _, _ => []
theorem zmask_sub : ∀ (bs : List Bool) (ls : List (Option Value)) (i : Nat) (v : Value), (zmask bs ls)[i]? = some (some v) → ls[i]? = some (some v)
  | [], _, i, v, h => by simp [zmask] at h
  | _ :: _, [], i, v, h => by simp [zmask] at h
  | b :: bs, x :: ls, 0, v, h => by
    cases b with
    | true => simpa [zmask] using h
    | false => simp [zmask] at h
  | b :: bs, x :: ls, i + 1, v, h => by
    have h' : (zmask bs ls)[i]? = some (some v) := by simpa [zmask] using h
    simpa using zmask_sub bs ls i v h'
theorem zfn {x : Int32} : ∀ c ∈ ([] : List Int32), ¬ x = c := fun _ h => nomatch h
theorem zfc {x c : Int32} {cs : List Int32} (h : ¬ x = c) (t : ∀ c ∈ cs, ¬ x = c) : ∀ c' ∈ c :: cs, ¬ x = c' := fun c' h' => (List.mem_cons.mp h').elim (fun e => e ▸ h) (t c')
theorem zsw_n {dflt : Int} {ps : List (Int × Int)} {x : Int32} (cs : List Int32) (h : ps.all (fun q => decide (q.2 = dflt) || cs.any (fun c => decide (c.toInt = q.1))) = true) (hne : ∀ c ∈ cs, ¬ x = c) : Op.lookupswitch.offset ps dflt x.toInt = dflt := by
  induction ps with
  | nil => rfl
  | cons q r ih =>
    rw [List.all_cons, Bool.and_eq_true] at h
    obtain ⟨a, o⟩ := q
    rw [Op.lookupswitch.offset_cons]
    by_cases e : a = x.toInt
    · rw [if_pos e]
      have h1 := h.1
      rw [Bool.or_eq_true] at h1
      rcases h1 with h1 | h1
      · exact of_decide_eq_true h1
      · obtain ⟨c, hc, h2⟩ := List.any_eq_true.mp h1
        exact absurd (Int32.toInt_inj.mp ((of_decide_eq_true h2).trans e).symm) (hne c hc)
    · rw [if_neg e]
      exact ih h.2
theorem ztb_n {lo hi : Int} {x : Int32} (cs : List Int32) (h : (List.range (hi - lo + 1).toNat).all (fun k => cs.any (fun c => decide (c.toInt = lo + (k : Int)))) = true) (hne : ∀ c ∈ cs, ¬ x = c) : x.toInt < lo ∨ hi < x.toInt := by
  by_cases h1 : x.toInt < lo
  · exact Or.inl h1
  · by_cases h2 : hi < x.toInt
    · exact Or.inr h2
    · exfalso
      have h3 := List.all_eq_true.mp h (x.toInt - lo).toNat (List.mem_range.mpr (by omega))
      obtain ⟨c, hc, h4⟩ := List.any_eq_true.mp h3
      have h5 := of_decide_eq_true h4
      exact hne c hc (Int32.toInt_inj.mp (by omega))
theorem lr_rowq {j : Nat} (h : j < 20) : zRf 26 j = 32 + 6 * j ∧ zT (32 + 6 * j) ≠ 0 := by
  have : ∀ i, i < 20 → zRf 26 i = 32 + 6 * i ∧ zT (32 + 6 * i) ≠ 0 := by decide +kernel
  exact this j h
theorem lr_rows {j : Nat} (h : j < 20) : zT (32 + 6 * j) = 4 := by
  have : ∀ i, i < 20 → zT (32 + 6 * i) = 4 := by decide +kernel
  exact this j h
theorem la_26 : ∀ j, j < 20 → zRf 26 j = (fun j => 32 + 6 * j) j ∧ zT ((fun j => 32 + 6 * j) j) ≠ 0 := fun _ h => lr_rowq h
theorem lr_rung {j : Nat} (h : j < 20) : zT (181 + j) = 100 := by
  have : ∀ i, i < 20 → zT (181 + i) = 100 := by decide +kernel
  exact this j h
theorem lr_rungn {j : Nat} (h : j < 20) : zLn (181 + j) = 36 := by
  have : ∀ i, i < 20 → zLn (181 + i) = 36 := by decide +kernel
  exact this j h
theorem la_180 : ∀ j, j < 20 → zRf 180 j = (fun j => 181 + j) j ∧ zT ((fun j => 181 + j) j) ≠ 0 := by decide +kernel
theorem z_all {P : Nat → Prop} (h : ∀ a, a < zNE → P a) (h0 : ∀ a, zNE ≤ a → P a) (a : Nat) : P a := by
  by_cases q : a < zNE
  · exact h a q
  · exact h0 a (Nat.le_of_not_lt q)
theorem z_lay {c : Nat} {Q : Nat → Prop} (hc : c ≠ 0) (h : ∀ a, a < zNE → zT a = c → Q a) {a : Nat} (hT : zT a = c) : Q a := h a (zT_lo (by rw [hT]; exact hc)).2 hT
section ROWH
variable {ω0 ω : Wd} {D mc ms : Nat} {κ : Kx} {α β : Type} {φ : α → Zo} {c0 s0 c1 s1 : Nat} {m : Mm} {pc : Nat} {ls : List (Option Value)} {st : List Value} {t t1 t2 : Option α}
theorem y_mask {bs : List Bool} {ls' : List (Option Value)} (h : zmask bs ls = ls') (k : Sx ω0 ω true D mc ms κ φ c0 s0 m pc ls' st t) : Sx ω0 ω true D mc ms κ φ c0 s0 m pc ls st t := by
  subst h
  exact x_sub (zmask_sub bs ls) k
theorem x_cases {c : Prop} [Decidable c] (k1 : c → Sx ω0 ω true D mc ms κ φ c0 s0 m pc ls st t1) (k2 : ¬ c → Sx ω0 ω true D mc ms κ φ c0 s0 m pc ls st t2) : Sx ω0 ω true D mc ms κ φ c0 s0 m pc ls st (if c then t1 else t2) := by
  by_cases h : c
  · rw [if_pos h]; exact k1 h
  · rw [if_neg h]; exact k2 h
end ROWH
