/-! CALLS: a search is begun -/
theorem eT {b j : Nat} (h : cT b j = true) : (b = 16 ∧ j = 8) ∨ (b = 201 ∧ j = 1) := by
  unfold cT at h
  simp only [Bool.or_eq_true, Bool.and_eq_true, beq_iff_eq, Nat.ble_eq] at h
  exact h
theorem eC {b j : Nat} (h : cC b j = true) : (25 ≤ b ∧ b ≤ 27) ∨ (29 ≤ b ∧ b ≤ 151) := by
  unfold cC at h
  simp only [Bool.or_eq_true, Bool.and_eq_true, beq_iff_eq, Nat.ble_eq] at h
  exact h
theorem eR {b j : Nat} (h : cR b j = true) : (b = 201 ∧ (j = 19 ∨ j = 25)) ∨ (208 ≤ b ∧ b ≤ 215) := by
  unfold cR at h
  simp only [Bool.or_eq_true, Bool.and_eq_true, beq_iff_eq, Nat.ble_eq] at h
  exact h
theorem eB {b j : Nat} (h : cB b j = true) : ((((b = 174 ∧ j = 3) ∨ (175 ≤ b ∧ b ≤ 177)) ∨ (b = 201 ∧ j = 41)) ∨ (223 ≤ b ∧ b ≤ 225)) := by
  unfold cB at h
  simp only [Bool.or_eq_true, Bool.and_eq_true, beq_iff_eq, Nat.ble_eq] at h
  exact h
section SEA
variable {m : Mm} {N : Nat} {C C' : Cx} {T : List Int}
theorem cNm_q {k x : Int} (h : qCl k x) : (cNm (k, x) < 2 ^ N ↔ qNm N k x) ∧ cNm (k, x) < 2 ^ 20 := by
  have one : ∀ a : Nat, 2 ^ a < 2 ^ N ↔ a < N := fun a => Nat.pow_lt_pow_iff_right (by decide)
  have one20 : ∀ a : Nat, a < 20 → 2 ^ a < 2 ^ 20 := fun a h => Nat.pow_lt_pow_right (by decide) h
  have two : ∀ a b : Nat, 2 ^ a ||| 2 ^ b < 2 ^ N ↔ a < N ∧ b < N := by
    intro a b
    constructor
    · intro h
      exact ⟨(one a).mp (Nat.lt_of_le_of_lt Nat.left_le_or h), (one b).mp (Nat.lt_of_le_of_lt Nat.right_le_or h)⟩
    · intro ⟨h1, h2⟩
      exact Nat.or_lt_two_pow ((one a).mpr h1) ((one b).mpr h2)
  unfold cNm qNm
  rcases h with ⟨rfl, rfl⟩ | ⟨rfl, h0, h1⟩ | ⟨rfl, h0, h1, h2⟩ | ⟨rfl, h0, h1⟩ | ⟨rfl, h0, h1, h2⟩
  · rw [if_neg (by decide), if_neg (by decide), if_neg (by decide), if_neg (by decide)]
    exact ⟨⟨fun _ => ⟨fun z => absurd z (by decide), fun z => absurd z (by decide), fun z => absurd z (by decide), fun z => absurd z (by decide)⟩, fun _ => Nat.two_pow_pos N⟩, by decide⟩
  · rw [if_neg (by show ¬ ((22 : Int) = 4 ∨ (22 : Int) = 15 ∨ (22 : Int) = 24); decide), if_pos (show (22 : Int) = 22 from rfl)]
    show (2 ^ (x / 10000).toNat < 2 ^ N ↔ _) ∧ 2 ^ (x / 10000).toNat < 2 ^ 20
    rw [one]
    refine ⟨⟨fun h => ⟨fun _ => by omega, fun z => absurd z (by decide), fun z => absurd z (by decide), fun z => absurd z (by decide)⟩, fun h => ?_⟩, one20 _ (by omega)⟩
    have := h.1 rfl
    omega
  · rw [if_neg (by show ¬ ((23 : Int) = 4 ∨ (23 : Int) = 15 ∨ (23 : Int) = 24); decide), if_neg (by show ¬ ((23 : Int) = 22); decide), if_pos (show (23 : Int) = 23 from rfl)]
    show (2 ^ (x / 10).toNat < 2 ^ N ↔ _) ∧ 2 ^ (x / 10).toNat < 2 ^ 20
    rw [one]
    refine ⟨⟨fun h => ⟨fun z => absurd z (by decide), fun _ => by omega, fun z => absurd z (by decide), fun z => absurd z (by decide)⟩, fun h => ?_⟩, one20 _ (by omega)⟩
    have := h.2.1 rfl
    omega
  · rw [if_pos (show (24 : Int) = 4 ∨ (24 : Int) = 15 ∨ (24 : Int) = 24 from Or.inr (Or.inr rfl))]
    show (2 ^ x.toNat < 2 ^ N ↔ _) ∧ 2 ^ x.toNat < 2 ^ 20
    rw [one]
    refine ⟨⟨fun h => ⟨fun z => absurd z (by decide), fun z => absurd z (by decide), fun _ => by omega, fun z => absurd z (by decide)⟩, fun h => ?_⟩, one20 _ (by omega)⟩
    have := h.2.2.1 rfl
    omega
  · rw [if_neg (by show ¬ ((25 : Int) = 4 ∨ (25 : Int) = 15 ∨ (25 : Int) = 24); decide), if_neg (by show ¬ ((25 : Int) = 22); decide), if_neg (by show ¬ ((25 : Int) = 23); decide), if_pos (show (25 : Int) = 25 from rfl)]
    show (2 ^ (x / 100).toNat ||| 2 ^ (x % 100).toNat < 2 ^ N ↔ _) ∧ 2 ^ (x / 100).toNat ||| 2 ^ (x % 100).toNat < 2 ^ 20
    rw [two]
    refine ⟨⟨fun h => ⟨fun z => absurd z (by decide), fun z => absurd z (by decide), fun z => absurd z (by decide), fun _ => by omega⟩, fun h => ?_⟩, Nat.or_lt_two_pow (one20 _ (by omega)) (one20 _ (by omega))⟩
    have := h.2.2.2 rfl
    omega
theorem qNm_no {k x : Int} (h : k < 22 ∨ 25 < k) : qNm N k x := ⟨fun z => by omega, fun z => by omega, fun z => by omega, fun z => by omega⟩
theorem or_lt {a b : Nat} : a ||| b < 2 ^ N ↔ a < 2 ^ N ∧ b < 2 ^ N := ⟨fun h => ⟨Nat.lt_of_le_of_lt Nat.left_le_or h, Nat.lt_of_le_of_lt Nat.right_le_or h⟩, fun ⟨h1, h2⟩ => Nat.or_lt_two_pow h1 h2⟩
/-- the reference's names -/
theorem nm_post : ∀ (C' : Cx), (∀ q, q ∈ C' → qSt q) → (nmC (C'.map qSh) < 2 ^ N ↔ ∀ q, q ∈ C' → qNm N (q.1 + 20) q.2) ∧ nmC (C'.map qSh) < 2 ^ 20
  | [], _ => ⟨⟨fun _ q hq => absurd hq List.not_mem_nil, fun _ => Nat.two_pow_pos N⟩, by decide⟩
  | q :: C', h => by
    obtain ⟨ih1, ih2⟩ := nm_post C' (fun q hq => h q (List.mem_cons_of_mem _ hq))
    have hq := h q List.mem_cons_self
    have one : (cNm (qSh q) < 2 ^ N ↔ qNm N (q.1 + 20) q.2) ∧ cNm (qSh q) < 2 ^ 20 := by
      unfold qSt at hq
      rcases hq with hq | hq
      · exact cNm_q hq
      · have hk : q.1 = 6 ∨ q.1 = 7 ∨ q.1 = 8 := by omega
        have e0 : cNm (qSh q) = 0 := by
          unfold cNm qSh
          rw [if_neg (by show ¬ (q.1 + 20 = 4 ∨ q.1 + 20 = 15 ∨ q.1 + 20 = 24); omega), if_neg (by show ¬ (q.1 + 20 = 22); omega), if_neg (by show ¬ (q.1 + 20 = 23); omega), if_neg (by show ¬ (q.1 + 20 = 25); omega)]
        rw [e0]
        exact ⟨⟨fun _ => qNm_no (by omega), fun _ => Nat.two_pow_pos N⟩, by decide⟩
    have e : nmC ((q :: C').map qSh) = cNm (qSh q) ||| nmC (C'.map qSh) := rfl
    rw [e, or_lt, or_lt, one.1, ih1]
    refine ⟨⟨fun ⟨h1, h2⟩ z hz => ?_, fun h => ⟨h q List.mem_cons_self, fun z hz => h z (List.mem_cons_of_mem _ hz)⟩⟩, one.2, ih2⟩
    rcases List.mem_cons.mp hz with rfl | hz
    · exact h1
    · exact h2 z hz
/-- the class's -/
theorem nm_code {M : Nat} : ∀ (C : Cx) (n : Nat), qL M n C → nmC C < 2 ^ N → ∀ q, q ∈ C → qNm N q.1 q.2
  | [], _, _, _ => fun q hq => absurd hq List.not_mem_nil
  | q :: C, n, h, hn => by
    have e : nmC (q :: C) = cNm q ||| nmC C := rfl
    rw [e, or_lt] at hn
    have h0 := h 0 (by simp)
    have h0 : qStep M n q.1 q.2 := h0
    intro z hz
    rcases List.mem_cons.mp hz with rfl | hz
    · unfold qStep at h0
      rcases h0 with h0 | h0
      · exact (cNm_q h0).1.mp hn.1
      · exact qNm_no (by omega)
    · exact nm_code C (n + 1) (fun i hi => by
        have := h (i + 1) (by simp; omega)
        rw [show n + (i + 1) = n + 1 + i by omega] at this
        exact this) hn.2 z hz
theorem mod_qnames {n : Nat} {K A : Nat → Int} (h20 : N ≤ 20) (hn : n ≤ 80) (h19 : zI m 201 19 = i3 N) (h11 : zI m 201 11 = i3 n) (hA : ∀ i, i < n → zI m 206 i = i3 (K i) ∧ zI m 207 i = i3 (A i)) (hb : ∀ i, i < n → (1 ≤ K i ∧ K i ≤ 8) ∧ 0 ≤ A i ∧ A i ≤ 200000) :
    ∃ b : Bool, f_Mod_namesThere m = some (b3 b) ∧ (b = true ↔ ∀ i, i < n → qNm N (K i + 20) (A i)) := by
  have step : ∀ (r : Int32 → Int32 → Option Int32) (b : Bool) (i : Nat), i < n → ∃ b' : Bool, l_Mod_namesThere_0 m r (b3 b) (i3 i) = r (b3 b') (i3 ((i + 1 : Nat) : Int)) ∧ (b' = true ↔ b = true ∧ qNm N (K i + 20) (A i)) := by
    intro r b i hi
    have hin : zIn (i3 (i : Int)) 80 := (i3_in ⟨by omega, by omega⟩).mpr ⟨by omega, by omega⟩
    have hix : zIx (i3 (i : Int)) = i := by rw [i3_ix ⟨by omega, by omega⟩, Int.toNat_natCast]
    obtain ⟨c1, c2⟩ := hA i hi
    obtain ⟨b1, b2, b2'⟩ := hb i hi
    generalize K i = k at c1 b1
    generalize A i = x at c2 b2 b2'
    have e2 : (i3 k = 2) ↔ k = 2 := i3_eq (b := 2) ⟨by omega, by omega⟩ ⟨by decide, by decide⟩
    have e3 : (i3 k = 3) ↔ k = 3 := i3_eq (b := 3) ⟨by omega, by omega⟩ ⟨by decide, by decide⟩
    have e4 : (i3 k = 4) ↔ k = 4 := i3_eq (b := 4) ⟨by omega, by omega⟩ ⟨by decide, by decide⟩
    have e5 : (i3 k = 5) ↔ k = 5 := i3_eq (b := 5) ⟨by omega, by omega⟩ ⟨by decide, by decide⟩
    have hcmp : ∀ (v w : Int) (α : Type) (p q : α), (-10 ≤ v ∧ v ≤ 200000) → (-10 ≤ w ∧ w ≤ 200000) → (if b3 b = 0 then q else if i3 (N : Int) ≤ i3 v then q else if i3 (N : Int) ≤ i3 w then q else p) = if b = true ∧ v < N ∧ w < N then p else q := by
      intro v w α p q hv hw
      rw [it_le ⟨by omega, by omega⟩ ⟨by omega, by omega⟩, it_le ⟨by omega, by omega⟩ ⟨by omega, by omega⟩]
      cases b with
      | false => rw [if_pos (show b3 false = 0 by decide), if_neg (fun z => nomatch z.1)]
      | true =>
        rw [if_neg (show ¬ b3 true = 0 by decide)]
        by_cases q1 : (N : Int) ≤ v
        · rw [if_pos q1, if_neg (fun z => by omega)]
        · rw [if_neg q1]
          by_cases q2 : (N : Int) ≤ w
          · rw [if_pos q2, if_neg (fun z => by omega)]
          · rw [if_neg q2, if_pos ⟨rfl, by omega, by omega⟩]
    have fin : ∀ (v w : Int), (-10 ≤ v ∧ v ≤ 200000) → (-10 ≤ w ∧ w ≤ 200000) → (qNm N (k + 20) x ↔ v < N ∧ w < N) → ∃ b' : Bool, (if b3 b = 0 then r 0 (i3 (i : Int) + 1) else if i3 (N : Int) ≤ i3 v then r 0 (i3 (i : Int) + 1) else if i3 (N : Int) ≤ i3 w then r 0 (i3 (i : Int) + 1) else r 1 (i3 (i : Int) + 1)) = r (b3 b') (i3 ((i + 1 : Nat) : Int)) ∧ (b' = true ↔ b = true ∧ qNm N (k + 20) x) := by
      intro v w hv hw hq
      rw [hcmp v w _ _ _ hv hw, i3_add1]
      by_cases c : b = true ∧ v < N ∧ w < N
      · rw [if_pos c]
        exact ⟨true, rfl, fun _ => ⟨c.1, hq.mpr c.2⟩, fun _ => rfl⟩
      · rw [if_neg c]
        exact ⟨false, rfl, ⟨fun z => absurd z (by decide), fun z => absurd ⟨z.1, hq.mp z.2⟩ c⟩⟩
    have n2 : k ≠ 2 → ¬ (i3 k = 2) := fun h z => h (e2.mp z)
    have n3 : k ≠ 3 → ¬ (i3 k = 3) := fun h z => h (e3.mp z)
    have n4 : k ≠ 4 → ¬ (i3 k = 4) := fun h z => h (e4.mp z)
    have n5 : k ≠ 5 → ¬ (i3 k = 5) := fun h z => h (e5.mp z)
    unfold l_Mod_namesThere_0
    rw [h11, it_le ⟨by omega, by omega⟩ ⟨by omega, by omega⟩, if_neg (by omega), if_pos hin, hix, c1, c2, h19, zLet_eq]
    by_cases k2 : k = 2
    · rw [if_pos (e2.mpr k2), if_pos hin]
      dsimp only
      rw [if_pos hin, zLet_eq, if_neg (n5 (by omega))]
      dsimp only
      rw [show (10000 : Int32) = i3 10000 from rfl, i3_div ⟨by omega, by omega⟩ ⟨by decide, by decide⟩]
      simp only [zLet]
      rw [show (-1 : Int32) = i3 (-1) from by decide]
      exact fin (x / 10000) (-1) ⟨by omega, by omega⟩ ⟨by decide, by decide⟩ ⟨fun h => ⟨h.1 (by omega), by omega⟩, fun h => ⟨fun _ => h.1, fun z => by omega, fun z => by omega, fun z => by omega⟩⟩
    rw [if_neg (n2 k2), if_pos hin]
    by_cases k3 : k = 3
    · rw [if_pos (e3.mpr k3), if_pos hin]
      dsimp only
      rw [if_pos hin, zLet_eq, if_neg (n5 (by omega))]
      dsimp only
      rw [show (10 : Int32) = i3 10 from rfl, i3_div ⟨by omega, by omega⟩ ⟨by decide, by decide⟩]
      simp only [zLet]
      rw [show (-1 : Int32) = i3 (-1) from by decide]
      exact fin (x / 10) (-1) ⟨by omega, by omega⟩ ⟨by decide, by decide⟩ ⟨fun h => ⟨h.2.1 (by omega), by omega⟩, fun h => ⟨fun z => by omega, fun _ => h.1, fun z => by omega, fun z => by omega⟩⟩
    rw [if_neg (n3 k3), if_pos hin]
    by_cases k4 : k = 4
    · rw [if_pos (e4.mpr k4), if_pos hin]
      dsimp only
      rw [if_pos hin, zLet_eq, if_neg (n5 (by omega))]
      dsimp only
      simp only [zLet]
      rw [show (-1 : Int32) = i3 (-1) from by decide]
      exact fin x (-1) ⟨by omega, by omega⟩ ⟨by decide, by decide⟩ ⟨fun h => ⟨h.2.2.1 (by omega), by omega⟩, fun h => ⟨fun z => by omega, fun z => by omega, fun _ => h.1, fun z => by omega⟩⟩
    rw [if_neg (n4 k4), if_pos hin]
    by_cases k5 : k = 5
    · rw [if_pos (e5.mpr k5), if_pos hin]
      dsimp only
      rw [if_pos hin, zLet_eq, if_pos (e5.mpr k5), if_pos hin]
      dsimp only
      rw [show (100 : Int32) = i3 100 from rfl, i3_div ⟨by omega, by omega⟩ ⟨by decide, by decide⟩, i3_mod ⟨by omega, by omega⟩ ⟨by decide, by decide⟩]
      simp only [zLet]
      exact fin (x / 100) (x % 100) ⟨by omega, by omega⟩ ⟨by omega, by omega⟩ ⟨fun h => h.2.2.2 (by omega), fun h => ⟨fun z => by omega, fun z => by omega, fun z => by omega, fun _ => h⟩⟩
    · rw [if_neg (n5 k5)]
      dsimp only
      rw [if_pos hin, zLet_eq, if_neg (n5 k5)]
      dsimp only
      simp only [zLet]
      rw [show (-1 : Int32) = i3 (-1) from by decide]
      exact fin (-1) (-1) ⟨by decide, by decide⟩ ⟨by decide, by decide⟩ ⟨fun h => ⟨by omega, by omega⟩, fun h => ⟨fun z => by omega, fun z => by omega, fun z => by omega, fun z => by omega⟩⟩
  have fin0 : ∀ (r : Int32 → Int32 → Option Int32) (b : Bool) (i : Nat), n ≤ i → i ≤ n → l_Mod_namesThere_0 m r (b3 b) (i3 i) = some (b3 b) := by
    intro r b i h1 h2
    unfold l_Mod_namesThere_0
    rw [h11, it_le ⟨by omega, by omega⟩ ⟨by omega, by omega⟩, if_pos (by omega), if_pos (b3_bo b)]
  rw [e_Mod_namesThere]
  by_cases hall : ∀ i, i < n → qNm N (K i + 20) (A i)
  · refine ⟨true, ?_, fun _ => hall, fun _ => rfl⟩
    refine run_zLq2 (fun j x1 x2 => ∃ i : Nat, x1 = b3 true ∧ x2 = i3 i ∧ i ≤ n ∧ j = n - i) ?_ zFu n _ _ ⟨0, show (1 : Int32) = b3 true by decide, rfl, Nat.zero_le _, rfl⟩ (by unfold zFu; omega)
    rintro r j x1 x2 ⟨i, rfl, rfl, hi, rfl⟩
    by_cases e : n ≤ i
    · left
      exact fin0 r true i e hi
    · right
      obtain ⟨b', e1, e2⟩ := step r true i (by omega)
      have : b' = true := e2.mpr ⟨rfl, hall i (by omega)⟩
      subst this
      exact ⟨_, _, n - (i + 1), by omega, ⟨i + 1, rfl, rfl, by omega, rfl⟩, e1⟩
  · refine ⟨false, ?_, ⟨fun z => absurd z (by decide), fun z => absurd z hall⟩⟩
    refine run_zLq2 (fun j x1 x2 => ∃ (i : Nat) (b : Bool), x1 = b3 b ∧ x2 = i3 i ∧ i ≤ n ∧ j = n - i ∧ (b = true → ∀ k, k < i → qNm N (K k + 20) (A k))) ?_ zFu n _ _ ⟨0, true, show (1 : Int32) = b3 true by decide, rfl, Nat.zero_le _, rfl, fun _ k hk => absurd hk (Nat.not_lt_zero k)⟩ (by unfold zFu; omega)
    rintro r j x1 x2 ⟨i, b, rfl, rfl, hi, rfl, hbq⟩
    by_cases e : n ≤ i
    · left
      have : b = false := by
        cases b with
        | false => rfl
        | true => exact absurd (fun k hk => hbq rfl k (by omega)) hall
      rw [fin0 r b i e hi, this]
    · right
      obtain ⟨b', e1, e2⟩ := step r b i (by omega)
      refine ⟨_, _, n - (i + 1), by omega, ⟨i + 1, b', rfl, rfl, by omega, rfl, fun hb' k hk => ?_⟩, e1⟩
      obtain ⟨q1, q2⟩ := e2.mp hb'
      by_cases ek : k = i
      · rw [ek]; exact q2
      · exact hbq q1 k (by omega)
end SEA
