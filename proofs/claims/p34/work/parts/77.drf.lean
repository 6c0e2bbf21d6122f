/-! THE CLASS DRAFTS AN ORDER -/
def Rd1 (nf : Nat → Nat) (D f : Nat) : Prop := D.testBit f = false ∧ ∀ g, (nf f).testBit g = true → D.testBit g = true
section DRF
variable {m : Mm} {N p : Nat} {nf : Nat → Nat}
theorem alm_first (h20 : N ≤ 20) (h25 : zI m 25 3 = i3 N) (hp : p < N) (hn : ∀ f, f < N → nf f < 2147483648 ∧ (f ≠ p → zI m (32 + 6 * f + 3) 3 = i3 (nf f))) {D : Nat} (hD : D < 2147483648) :
    ∃ v : Int, f_Alm_firstReady (i3 D) (i3 p) (i3 (nf p)) m = some (i3 v) ∧ ((v = -1 ∧ ∀ f, f < N → ¬ Rd1 nf D f) ∨ ∃ f : Nat, f < N ∧ v = f ∧ Rd1 nf D f) := by
  have main : ∀ (Q : Option Int32 → Prop), (∀ v : Int, ((v = -1 ∧ ∀ f, f < N → ¬ Rd1 nf D f) ∨ ∃ f : Nat, f < N ∧ v = f ∧ Rd1 nf D f) → Q (some (i3 v))) → Q (f_Alm_firstReady (i3 D) (i3 p) (i3 (nf p)) m) := by
    intro Q hQ
    rw [e_Alm_firstReady]
    refine ex_zLq1 (Q := Q) (fun j x1 => ∃ i : Nat, x1 = i3 i ∧ i ≤ N ∧ j = N - i ∧ ∀ f, f < i → ¬ Rd1 nf D f) ?_ zFu N _ ⟨0, rfl, Nat.zero_le _, rfl, fun f hf => absurd hf (Nat.not_lt_zero f)⟩ (by unfold zFu; omega)
    rintro r j x1 ⟨i, rfl, hi, rfl, hno⟩
    unfold l_Alm_firstReady_0
    rw [h25, it_le ⟨by omega, by omega⟩ ⟨by omega, by omega⟩]
    by_cases e : (N : Int) ≤ i
    · left
      rw [if_pos e]
      exact hQ (-1) (Or.inl ⟨rfl, fun f hf => hno f (by omega)⟩)
    have hlt : i < N := by omega
    have hin : zIn (i3 (i : Int)) 20 := (i3_in ⟨by omega, by omega⟩).mpr ⟨by omega, by omega⟩
    have hix : zIx (i3 (i : Int)) = i := by rw [i3_ix ⟨by omega, by omega⟩, Int.toNat_natCast]
    obtain ⟨n1, n2⟩ := hn i hlt
    have hb := i3_tbu (N := D) (k := i) (by omega) hD
    have hs := i3_sbs n1 hD
    -- what is done with the names
    have fin : Q (if i3 (bt (D.testBit i)) = 0 then (if (0 : Int32) = 0 then (if (i3 (nf i) &&& (i3 D ^^^ (-1))) = 0 then some (i3 (i : Int)) else r (i3 (i : Int) + 1)) else r (i3 (i : Int) + 1)) else (if (1 : Int32) = 0 then (if (i3 (nf i) &&& (i3 D ^^^ (-1))) = 0 then some (i3 (i : Int)) else r (i3 (i : Int) + 1)) else r (i3 (i : Int) + 1))) ∨ (¬ Rd1 nf D i ∧ (if i3 (bt (D.testBit i)) = 0 then (if (0 : Int32) = 0 then (if (i3 (nf i) &&& (i3 D ^^^ (-1))) = 0 then some (i3 (i : Int)) else r (i3 (i : Int) + 1)) else r (i3 (i : Int) + 1)) else (if (1 : Int32) = 0 then (if (i3 (nf i) &&& (i3 D ^^^ (-1))) = 0 then some (i3 (i : Int)) else r (i3 (i : Int) + 1)) else r (i3 (i : Int) + 1))) = r (i3 ((i + 1 : Nat) : Int))) := by
      cases hb2 : D.testBit i with
      | true =>
        right
        refine ⟨fun z => (Bool.noConfusion (hb2.symm.trans z.1)), ?_⟩
        rw [if_neg (show ¬ i3 (bt true) = 0 by decide), if_neg (show ¬ (1 : Int32) = 0 by decide), i3_add1]
        rfl
      | false =>
        rw [if_pos (show i3 (bt false) = 0 by decide), if_pos (show (0 : Int32) = 0 from rfl)]
        by_cases c : (i3 (nf i) &&& (i3 D ^^^ (-1))) = 0
        · left
          rw [if_pos c]
          exact hQ i (Or.inr ⟨i, hlt, rfl, hb2, hs.mp c⟩)
        · right
          refine ⟨fun z => c (hs.mpr z.2), ?_⟩
          rw [if_neg c, i3_add1]
          rfl
    rw [if_neg e]
    simp only [zLet]
    rw [hb]
    have pick : (if i3 (i : Int) = i3 (p : Int) then (if i3 (bt (D.testBit i)) = 0 then (if (0 : Int32) = 0 then (if (i3 (nf p) &&& (i3 D ^^^ (-1))) = 0 then some (i3 (i : Int)) else r (i3 (i : Int) + 1)) else r (i3 (i : Int) + 1)) else (if (1 : Int32) = 0 then (if (i3 (nf p) &&& (i3 D ^^^ (-1))) = 0 then some (i3 (i : Int)) else r (i3 (i : Int) + 1)) else r (i3 (i : Int) + 1)))
        else if zIn (i3 (i : Int)) 20 then zBP (f_Cod_named (32 + 6 * zIx (i3 (i : Int)) + 3) m) fun v15 => (if i3 (bt (D.testBit i)) = 0 then (if (0 : Int32) = 0 then (if (v15 &&& (i3 D ^^^ (-1))) = 0 then some (i3 (i : Int)) else r (i3 (i : Int) + 1)) else r (i3 (i : Int) + 1)) else (if (1 : Int32) = 0 then (if (v15 &&& (i3 D ^^^ (-1))) = 0 then some (i3 (i : Int)) else r (i3 (i : Int) + 1)) else r (i3 (i : Int) + 1))) else none)
        = (if i3 (bt (D.testBit i)) = 0 then (if (0 : Int32) = 0 then (if (i3 (nf i) &&& (i3 D ^^^ (-1))) = 0 then some (i3 (i : Int)) else r (i3 (i : Int) + 1)) else r (i3 (i : Int) + 1)) else (if (1 : Int32) = 0 then (if (i3 (nf i) &&& (i3 D ^^^ (-1))) = 0 then some (i3 (i : Int)) else r (i3 (i : Int) + 1)) else r (i3 (i : Int) + 1))) := by
      rw [it_eq ⟨by omega, by omega⟩ ⟨by omega, by omega⟩]
      by_cases c : i = p
      · rw [if_pos (by omega), c]
      · have hnm : f_Cod_named (32 + 6 * i + 3) m = some (i3 (nf i)) := by
          unfold f_Cod_named
          rw [n2 c]
        rw [if_neg (by omega), if_pos hin, hix, hnm, zBP_some]
    rcases fin with f1 | ⟨f1, f2⟩
    · left
      exact Eq.mpr (congrArg Q pick) f1
    · right
      refine ⟨_, N - (i + 1), by omega, ⟨i + 1, rfl, hlt, rfl, fun f hf => ?_⟩, pick.trans f2⟩
      by_cases e2 : f = i
      · rw [e2]; exact f1
      · exact hno f (by omega)
  exact main (fun X => ∃ v : Int, X = some (i3 v) ∧ ((v = -1 ∧ ∀ f, f < N → ¬ Rd1 nf D f) ∨ ∃ f : Nat, f < N ∧ v = f ∧ Rd1 nf D f)) (fun v hv => ⟨v, rfl, hv⟩)
end DRF
