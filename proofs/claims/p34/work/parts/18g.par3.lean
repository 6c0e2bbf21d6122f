section PAR3
variable {m : Mm} {T s : List Int} {FK FA : Nat → Int32} {n : Int32}
/-- at the fields' end the step is added -/
def cPart (kd : Int) (x : Int32) (m5 : Mm) : Option (Int32 × Mm) := zBI (f_Cod_add 20 (i3 kd) x m5) fun v8 m7 => if zBo v8 then some (v8, m7) else none
theorem fS_at {i k : Nat} {f : Int} {fs : List Int} (h : (fS i).drop k = f :: fs) : k < (zSBy.getD i []).length ∧ (zSBy.getD i []).getD k 0 = i3 f ∧ (fS i).drop (k + 1) = fs := by
  have h1 : (fS i)[k]? = some f := by
    have := congrArg (fun l : List Int => l[0]?) h
    rw [List.getElem?_drop] at this
    simpa using this
  have h3 : (fS i).drop (k + 1) = fs := by
    have := congrArg List.tail h
    rw [List.tail_drop] at this
    simpa using this
  unfold fS at h1
  rw [List.getElem?_map] at h1
  cases hx : (zSBy.getD i [])[k]? with
  | none => rw [hx] at h1; cases h1
  | some x =>
    rw [hx] at h1
    have e : x.toInt = f := by simpa using h1
    refine ⟨(List.getElem?_eq_some_iff.mp hx).1, ?_, h3⟩
    rw [List.getD_eq_getElem?_getD, hx, ← e, i3_of]
    rfl
theorem fS_len (i : Nat) : (fS i).length = (zSBy.getD i []).length := by unfold fS; simp
theorem par_flds (h : PT m T) {i : Nat} (hi : i < 9) {kd : Int} : ∀ (fs : List Int) (k fuel : Nat) (a vv : Int) (s : List Int) (N : Nat) (b : Bool), (fS i).drop k = fs → k ≤ (zSBy.getD i []).length → okF fs b = true → (b = true → 1 ≤ vv ∧ vv ≤ 12) → ((k = 0 → a = 0) ∧ (k = 1 → a ≤ 39) ∧ (k = 2 → a ≤ 3939) ∧ 0 ≤ a ∧ a ≤ 393939) → fs.length < fuel → Sf T s →
    PF m T FK FA n (nF fs vv s N) kd (cPart kd) (zLp2 (l_Par_takesPart_0 i (i3 kd)) fuel (i3 a) (i3 k) (pM m (i3 (pl T s)) (i3 vv) FK FA n (i3 N))) (pFlds fs a vv s) := by
  intro fs
  induction fs with
  | nil =>
    intro k fuel a vv s N b hd hk hok hb ha hf hs
    obtain ⟨u, rfl⟩ : ∃ u, fuel = u + 1 := ⟨fuel - 1, by simp at hf; omega⟩
    have hk2 : (zSBy.getD i []).length ≤ k := by
      have := congrArg List.length hd
      rw [List.length_drop, fS_len, List.length_nil] at this
      omega
    have t1 := str_tb i hi
    refine ⟨hs, by omega, i3 vv, ?_⟩
    show l_Par_takesPart_0 i (i3 kd) _ (i3 a) (i3 k) _ = _
    unfold l_Par_takesPart_0
    rw [t1.1, it_le ⟨by omega, by omega⟩ ⟨by omega, by omega⟩, if_pos (by omega)]
    rfl
  | cons f fs ih =>
    intro k fuel a vv s N b hd hk hok hb ha hf hs
    obtain ⟨u, rfl⟩ : ∃ u, fuel = u + 1 := ⟨fuel - 1, by simp at hf; omega⟩
    obtain ⟨hk1, hk2, hk3⟩ := fS_at hd
    have t1 := str_tb i hi
    have hk4 : k < 3 := by omega
    unfold okF at hok
    rw [Bool.and_eq_true] at hok
    obtain ⟨ho1, ho2⟩ := hok
    have hff : f = 110 ∨ f = 119 ∨ f = 102 ∨ f = 109 ∨ (f = 100 ∧ b = true) := by
      simpa [or_assoc] using ho1
    have hstr : zSc i (i3 k) = i3 f := by rw [str_at (by omega)]; exact hk2
    have e : zLp2 (l_Par_takesPart_0 i (i3 kd)) (u + 1) (i3 a) (i3 k) (pM m (i3 (pl T s)) (i3 vv) FK FA n (i3 N)) = if f = 110 ∨ f = 119 then (zBI (f_Par_takesOneDigit (i3 f) (pM m (i3 (pl T s)) (i3 vv) FK FA n (i3 N))) fun v25 m24 => if v25 = i3 0 then some (i3 0, m24) else zLp2 (l_Par_takesPart_0 i (i3 kd)) u (i3 10 * i3 a + zI m24 19 3) (i3 (k + 1)) m24)
        else (zBI (f_Par_takesTwoDigits (i3 f) (pM m (i3 (pl T s)) (i3 vv) FK FA n (i3 N))) fun v25 m24 => if v25 = i3 0 then some (i3 0, m24) else zLp2 (l_Par_takesPart_0 i (i3 kd)) u (i3 100 * i3 a + zI m24 19 3) (i3 (k + 1)) m24) := by
      show l_Par_takesPart_0 i (i3 kd) (zLp2 (l_Par_takesPart_0 i (i3 kd)) u) (i3 a) (i3 k) _ = _
      unfold l_Par_takesPart_0
      rw [t1.1, it_le ⟨by omega, by omega⟩ ⟨by omega, by omega⟩, if_neg (by omega), if_pos ((i3_in ⟨by omega, by omega⟩).mpr ⟨by omega, by omega⟩)]
      simp (maxSteps := 3000000) (disch := omega) only [zLet, hstr, i3_lit, i3_eq, i3_add, Int.reduceEq, reduceIte]
      by_cases c1 : f = 110
      · rw [if_pos c1, if_pos (Or.inl c1)]
      · by_cases c2 : f = 119
        · rw [if_neg c1, if_pos c2, if_pos (Or.inr c2)]
        · rw [if_neg c1, if_neg c2, if_neg (by omega)]
    rw [e]
    have hpl := pl_bd hs h.2.1
    by_cases c : f = 110 ∨ f = 119
    · rw [if_pos c]
      have hd1 := par_one (FK := FK) (FA := FA) (n := n) (nm := i3 N) (v := i3 vv) h hs c
      have e3 : pFlds (f :: fs) a vv s = pB (if f = 110 then pDig 1 5 s else pDig 0 6 s) fun x r => pFlds fs (10 * a + x) x r := by
        show (if f = 110 then _ else if f = 119 then _ else _) = _
        by_cases c1 : f = 110
        · rw [if_pos c1, if_pos c1]
        · rw [if_neg c1, if_neg c1, if_pos (c.resolve_left c1)]
      have e4 : ∀ x r, (if f = 110 then pDig 1 5 s else pDig 0 6 s) = .inr (x, r) → nF (f :: fs) vv s N = nF fs x r N := by
        intro x r hx
        show (if f = 110 then _ else if f = 119 then _ else _) = _
        by_cases c1 : f = 110
        · rw [if_pos c1] at hx ⊢
          rw [hx]
        · rw [if_neg c1] at hx ⊢
          rw [if_pos (c.resolve_left c1), hx]
      rw [e3]
      cases e5 : (if f = 110 then pDig 1 5 s else pDig 0 6 s) with
      | inl q =>
        rw [e5] at hd1
        obtain ⟨rfl, hd1⟩ := hd1
        rw [hd1]
        exact ⟨i3 vv, i3 N, rfl⟩
      | inr z =>
        obtain ⟨x, r⟩ := z
        have hx : 0 ≤ x ∧ x ≤ 6 := by
          split at e5
          · have := pDig_bd e5; omega
          · exact pDig_bd e5
        rw [e5] at hd1
        obtain ⟨hr, hd1⟩ := hd1
        rw [hd1, e4 x r e5, zBI_some, if_neg (by decide), pM_v, i3_mul, i3_add]
        exact ih (k + 1) u (10 * a + x) x r N _ hk3 (by omega) ho2 (fun hb2 => by simp at hb2; omega) (by omega) (by simp at hf; omega) hr
    · rw [if_neg c]
      have hf3 : f = 102 ∨ f = 109 ∨ f = 100 := by omega
      have hv3 : f = 100 → 1 ≤ vv ∧ vv ≤ 12 := fun hf1 => hb (by rcases hff with h | h | h | h | h <;> first | exact h.2 | (exfalso; omega))
      have hd1 := par_two (FK := FK) (FA := FA) (n := n) (N := N) h hs hf3 hv3
      have e3 : pFlds (f :: fs) a vv s = pB (pTwo f vv s) fun x r => pFlds fs (100 * a + x) x r := by
        show (if f = 110 then _ else if f = 119 then _ else _) = _
        rw [if_neg (by omega), if_neg (by omega)]
      have e4 : ∀ x r, pTwo f vv s = .inr (x, r) → nF (f :: fs) vv s N = nF fs x r (bN f x N) := by
        intro x r hx
        show (if f = 110 then _ else if f = 119 then _ else _) = _
        rw [if_neg (by omega), if_neg (by omega), hx]
      rw [e3]
      cases e5 : pTwo f vv s with
      | inl q =>
        rw [e5] at hd1
        obtain ⟨v', nm', hd1⟩ := hd1
        rw [hd1]
        exact ⟨v', nm', rfl⟩
      | inr z =>
        obtain ⟨x, r⟩ := z
        have hbx := pTwo_bd hf3 hv3 e5
        rw [e5] at hd1
        obtain ⟨hr, hx, hd1⟩ := hd1
        rw [hd1, e4 x r e5, zBI_some, if_neg (by decide), pM_v, i3_mul, i3_add]
        refine ih (k + 1) u (100 * a + x) x r _ _ hk3 (by omega) ho2 (fun hb2 => ?_) (by omega) (by simp at hf; omega) hr
        have : f = 109 := by simpa using hb2
        subst this
        unfold pLow pHigh at hbx
        simp only [Int.reduceEq, reduceIte] at hbx
        exact hbx
end PAR3
/-- what a step names, as bits -/
def cNm (q : Int × Int) : Nat := if q.1 = 4 ∨ q.1 = 15 ∨ q.1 = 24 then 2 ^ q.2.toNat else if q.1 = 22 then 2 ^ (q.2 / 10000).toNat else if q.1 = 23 then 2 ^ (q.2 / 10).toNat else if q.1 = 25 then 2 ^ (q.2 / 100).toNat ||| 2 ^ (q.2 % 100).toNat else 0
def nmC : Cx → Nat
  | [] => 0
  | q :: c => cNm q ||| nmC c
theorem nmC_app (a b : Cx) : nmC (a ++ b) = nmC a ||| nmC b := by
  induction a with
  | nil => show nmC b = 0 ||| nmC b; simp
  | cons q a ih => show cNm q ||| nmC (a ++ b) = (cNm q ||| nmC a) ||| nmC b; rw [ih, Nat.or_assoc]
/-- kinds, the texts of their fields -/
def kdS : List (Int × Nat) := [(1, 0), (2, 1), (3, 2), (4, 3), (6, 4), (7, 4), (8, 4), (9, 4), (10, 5), (11, 5), (12, 5), (13, 4), (14, 5), (15, 3), (16, 0), (21, 5), (22, 7), (23, 6), (24, 3), (25, 8)]
theorem kdS_ok : ∀ q ∈ kdS, (0 ≤ q.1 ∧ q.1 ≤ 25) ∧ q.2 < 9 ∧ okF (fS q.2) false = true := by decide +kernel
theorem fS_eq : fS 0 = [109, 100] ∧ fS 1 = [110, 119, 109] ∧ fS 2 = [119, 109] ∧ fS 3 = [102] ∧ fS 4 = [119] ∧ fS 5 = [] ∧ fS 6 = [102, 119] ∧ fS 7 = [102, 109, 100] ∧ fS 8 = [102, 102] := by decide +kernel
theorem pFlds_cons {f : Int} {fs : List Int} {a v : Int} {s : List Int} (hf : ¬ f = 110 ∧ ¬ f = 119) : pFlds (f :: fs) a v s = pB (pTwo f v s) fun x r => pFlds fs (100 * a + x) x r := by
  show (if f = 110 then _ else if f = 119 then _ else _) = _
  rw [if_neg hf.1, if_neg hf.2]
theorem nF_cons {f x : Int} {fs : List Int} {v : Int} {s r : List Int} {N : Nat} (hf : ¬ f = 110 ∧ ¬ f = 119) (hx : pTwo f v s = .inr (x, r)) : nF (f :: fs) v s N = nF fs x r (bN f x N) := by
  show (if f = 110 then _ else if f = 119 then _ else _) = _
  rw [if_neg hf.1, if_neg hf.2, hx]
theorem nF_none {f : Int} {fs : List Int} {v : Int} {s : List Int} {N : Nat} {z : Int × List Int} (hf : f = 110 ∨ f = 119) (hx : (if f = 110 then pDig 1 5 s else pDig 0 6 s) = .inr z) : nF (f :: fs) v s N = nF fs z.1 z.2 N := by
  show (if f = 110 then _ else if f = 119 then _ else _) = _
  by_cases c1 : f = 110
  · rw [if_pos c1] at hx ⊢
    rw [hx]
  · rw [if_neg c1] at hx ⊢
    rw [if_pos (hf.resolve_left c1), hx]
theorem pFlds_one {f : Int} {fs : List Int} {a v : Int} {s : List Int} (hf : f = 110 ∨ f = 119) : pFlds (f :: fs) a v s = pB (if f = 110 then pDig 1 5 s else pDig 0 6 s) fun x r => pFlds fs (10 * a + x) x r := by
  show (if f = 110 then _ else if f = 119 then _ else _) = _
  by_cases c1 : f = 110
  · rw [if_pos c1, if_pos c1]
  · rw [if_neg c1, if_neg c1, if_pos (hf.resolve_left c1)]
theorem nF_ok : ∀ q ∈ kdS, ∀ (v a : Int) (s r : List Int) (N : Nat), pFlds (fS q.2) 0 v s = .inr (a, r) → nF (fS q.2) v s N = N ||| cNm (q.1, a) := by
  obtain ⟨e0, e1, e2, e3, e4, e5, e6, e7, e8⟩ := fS_eq
  have one : ∀ (f : Int), f = 110 ∨ f = 119 → ∀ (s : List Int) (x : Int) (r : List Int), (if f = 110 then pDig 1 5 s else pDig 0 6 s) = .inr (x, r) → 0 ≤ x ∧ x ≤ 6 := by
    intro f hf s x r h
    split at h
    · have := pDig_bd h; omega
    · exact pDig_bd h
  have two : ∀ (f v : Int), f = 102 ∨ f = 109 ∨ f = 100 → (f = 100 → 1 ≤ v ∧ v ≤ 12) → ∀ (s : List Int) (x : Int) (r : List Int), pTwo f v s = .inr (x, r) → 0 ≤ x ∧ x ≤ 31 ∧ (f = 102 → x ≤ 19) ∧ (f = 109 → 1 ≤ x ∧ x ≤ 12) := by
    intro f v hf hv s x r h
    have b := pTwo_bd hf hv h
    unfold pLow pHigh at b
    rcases hf with rfl | rfl | rfl
    · simp only [Int.reduceEq, reduceIte] at b; omega
    · simp only [Int.reduceEq, reduceIte] at b; omega
    · have := hv rfl
      have h1 := sMs_step true v.toNat (by omega) (by omega)
      simp only [Int.reduceEq, reduceIte] at b
      unfold sMost at b
      omega
  have d102 : ¬ (102 : Int) = 110 ∧ ¬ (102 : Int) = 119 := by decide
  have d109 : ¬ (109 : Int) = 110 ∧ ¬ (109 : Int) = 119 := by decide
  have d100 : ¬ (100 : Int) = 110 ∧ ¬ (100 : Int) = 119 := by decide
  -- by the texts
  have t0 : ∀ (v a : Int) (s r : List Int) (N : Nat), pFlds [109, 100] 0 v s = .inr (a, r) → nF [109, 100] v s N = N := by
    intro v a s r N h
    rw [pFlds_cons d109] at h
    obtain ⟨x, r1, h1, h2⟩ := pB_inv h
    rw [pFlds_cons d100] at h2
    obtain ⟨y, r2, h3, h4⟩ := pB_inv h2
    rw [nF_cons d109 h1, nF_cons d100 h3]
    rfl
  have t1 : ∀ (v a : Int) (s r : List Int) (N : Nat), pFlds [110, 119, 109] 0 v s = .inr (a, r) → nF [110, 119, 109] v s N = N := by
    intro v a s r N h
    rw [pFlds_one (Or.inl rfl)] at h
    obtain ⟨x, r1, h1, h2⟩ := pB_inv h
    rw [pFlds_one (Or.inr rfl)] at h2
    obtain ⟨y, r2, h3, h4⟩ := pB_inv h2
    rw [pFlds_cons d109] at h4
    obtain ⟨z, r3, h5, h6⟩ := pB_inv h4
    rw [nF_none (Or.inl rfl) h1, nF_none (Or.inr rfl) h3, nF_cons d109 h5]
    rfl
  have t2 : ∀ (v a : Int) (s r : List Int) (N : Nat), pFlds [119, 109] 0 v s = .inr (a, r) → nF [119, 109] v s N = N := by
    intro v a s r N h
    rw [pFlds_one (Or.inr rfl)] at h
    obtain ⟨y, r2, h3, h4⟩ := pB_inv h
    rw [pFlds_cons d109] at h4
    obtain ⟨z, r3, h5, h6⟩ := pB_inv h4
    rw [nF_none (Or.inr rfl) h3, nF_cons d109 h5]
    rfl
  have t3 : ∀ (v a : Int) (s r : List Int) (N : Nat), pFlds [102] 0 v s = .inr (a, r) → nF [102] v s N = N ||| 2 ^ a.toNat := by
    intro v a s r N h
    rw [pFlds_cons d102] at h
    obtain ⟨x, r1, h1, h2⟩ := pB_inv h
    rw [nF_cons d102 h1]
    cases h2
    show bN 102 x N = _
    unfold bN
    rw [if_pos rfl]
    congr 3
    omega
  have t4 : ∀ (v a : Int) (s r : List Int) (N : Nat), pFlds [119] 0 v s = .inr (a, r) → nF [119] v s N = N := by
    intro v a s r N h
    rw [pFlds_one (Or.inr rfl)] at h
    obtain ⟨y, r2, h3, h4⟩ := pB_inv h
    rw [nF_none (Or.inr rfl) h3]
    rfl
  have t6 : ∀ (v a : Int) (s r : List Int) (N : Nat), pFlds [102, 119] 0 v s = .inr (a, r) → nF [102, 119] v s N = N ||| 2 ^ (a / 10).toNat := by
    intro v a s r N h
    rw [pFlds_cons d102] at h
    obtain ⟨x, r1, h1, h2⟩ := pB_inv h
    rw [pFlds_one (Or.inr rfl)] at h2
    obtain ⟨y, r2, h3, h4⟩ := pB_inv h2
    have b1 := one 119 (Or.inr rfl) _ _ _ h3
    have b2 := two 102 v (Or.inl rfl) (fun h => absurd h (by decide)) _ _ _ h1
    rw [nF_cons d102 h1, nF_none (Or.inr rfl) h3]
    cases h4
    show bN 102 x N = _
    unfold bN
    rw [if_pos rfl]
    congr 3
    omega
  have t7 : ∀ (v a : Int) (s r : List Int) (N : Nat), pFlds [102, 109, 100] 0 v s = .inr (a, r) → nF [102, 109, 100] v s N = N ||| 2 ^ (a / 10000).toNat := by
    intro v a s r N h
    rw [pFlds_cons d102] at h
    obtain ⟨x, r1, h1, h2⟩ := pB_inv h
    rw [pFlds_cons d109] at h2
    obtain ⟨y, r2, h3, h4⟩ := pB_inv h2
    rw [pFlds_cons d100] at h4
    obtain ⟨z, r3, h5, h6⟩ := pB_inv h4
    have b1 := two 102 v (Or.inl rfl) (fun h => absurd h (by decide)) _ _ _ h1
    have b2 := two 109 x (Or.inr (Or.inl rfl)) (fun h => absurd h (by decide)) _ _ _ h3
    have b3 := two 100 y (Or.inr (Or.inr rfl)) (fun _ => b2.2.2.2 rfl) _ _ _ h5
    rw [nF_cons d102 h1, nF_cons d109 h3, nF_cons d100 h5]
    cases h6
    show bN 100 z (bN 109 y (bN 102 x N)) = _
    unfold bN
    simp only [Int.reduceEq, reduceIte]
    congr 3
    omega
  have t8 : ∀ (v a : Int) (s r : List Int) (N : Nat), pFlds [102, 102] 0 v s = .inr (a, r) → nF [102, 102] v s N = N ||| (2 ^ (a / 100).toNat ||| 2 ^ (a % 100).toNat) := by
    intro v a s r N h
    rw [pFlds_cons d102] at h
    obtain ⟨x, r1, h1, h2⟩ := pB_inv h
    rw [pFlds_cons d102] at h2
    obtain ⟨y, r2, h3, h4⟩ := pB_inv h2
    have b1 := two 102 v (Or.inl rfl) (fun h => absurd h (by decide)) _ _ _ h1
    have b2 := two 102 x (Or.inl rfl) (fun h => absurd h (by decide)) _ _ _ h3
    rw [nF_cons d102 h1, nF_cons d102 h3]
    cases h4
    show bN 102 y (bN 102 x N) = _
    unfold bN
    simp only [if_true]
    rw [Nat.or_assoc]
    have q1 : (100 * (100 * 0 + x) + y) / 100 = x := by omega
    have q2 : (100 * (100 * 0 + x) + y) % 100 = y := by omega
    rw [q1, q2]
  intro q hq
  have z : ∀ N : Nat, N = N ||| 0 := fun N => by simp
  simp only [kdS, List.mem_cons, List.not_mem_nil, or_false] at hq
  rcases hq with rfl | rfl | rfl | rfl | rfl | rfl | rfl | rfl | rfl | rfl | rfl | rfl | rfl | rfl | rfl | rfl | rfl | rfl | rfl | rfl
  · intro v a s r N h; simp only [e0] at h ⊢; exact (t0 v a s r N h).trans (z N)
  · intro v a s r N h; simp only [e1] at h ⊢; exact (t1 v a s r N h).trans (z N)
  · intro v a s r N h; simp only [e2] at h ⊢; exact (t2 v a s r N h).trans (z N)
  · intro v a s r N h; simp only [e3] at h ⊢; exact t3 v a s r N h
  · intro v a s r N h; simp only [e4] at h ⊢; exact (t4 v a s r N h).trans (z N)
  · intro v a s r N h; simp only [e4] at h ⊢; exact (t4 v a s r N h).trans (z N)
  · intro v a s r N h; simp only [e4] at h ⊢; exact (t4 v a s r N h).trans (z N)
  · intro v a s r N h; simp only [e4] at h ⊢; exact (t4 v a s r N h).trans (z N)
  · intro v a s r N h; simp only [e5] at h ⊢; exact z N
  · intro v a s r N h; simp only [e5] at h ⊢; exact z N
  · intro v a s r N h; simp only [e5] at h ⊢; exact z N
  · intro v a s r N h; simp only [e4] at h ⊢; exact (t4 v a s r N h).trans (z N)
  · intro v a s r N h; simp only [e5] at h ⊢; exact z N
  · intro v a s r N h; simp only [e3] at h ⊢; exact t3 v a s r N h
  · intro v a s r N h; simp only [e0] at h ⊢; exact (t0 v a s r N h).trans (z N)
  · intro v a s r N h; simp only [e5] at h ⊢; exact z N
  · intro v a s r N h; simp only [e7] at h ⊢; exact t7 v a s r N h
  · intro v a s r N h; simp only [e6] at h ⊢; exact t6 v a s r N h
  · intro v a s r N h; simp only [e3] at h ⊢; exact t3 v a s r N h
  · intro v a s r N h; simp only [e8] at h ⊢; exact t8 v a s r N h
/-- what a method of the parser leaves, by what the languages say -/
def PX (m : Mm) (T : List Int) (n N : Nat) (FK FA : Nat → Int32) (res : Option (Int32 × Mm)) : Rd Cx → Prop
  | .inl q => ∃ v' FK' FA' n' nm', res = some (i3 0, pM m (i3 (pl T q)) v' FK' FA' n' nm')
  | .inr (c, r) => Sf T r ∧ ∃ (v' : Int) (FK' FA' : Nat → Int32), res = some (i3 1, pM m (i3 (pl T r)) (i3 v') FK' FA' (i3 ((n + c.length : Nat) : Int)) (i3 ((N ||| nmC c : Nat) : Int))) ∧ (∀ i, i < n → FK' i = FK i ∧ FA' i = FA i) ∧ ∀ i, i < c.length → FK' (n + i) = i3 (c.getD i (0, 0)).1 ∧ FA' (n + i) = i3 (c.getD i (0, 0)).2
theorem cod_add {m : Mm} {p v : Int32} {FK FA : Nat → Int32} {n : Nat} {nm x y : Int32} (hn : n < 40) : f_Cod_add 20 x y (pM m p v FK FA (i3 n) nm) = some (i3 1, pM m p v (up FK n x) (up FA n y) (i3 ((n + 1 : Nat) : Int)) nm) := by
  have hin : zIn (i3 (n : Int)) 40 := (i3_in ⟨by omega, by omega⟩).mpr ⟨by omega, by omega⟩
  have hix : zIx (i3 (n : Int)) = n := by rw [i3_ix ⟨by omega, by omega⟩, Int.toNat_natCast]
  unfold f_Cod_add
  simp only [pM_n, i3_lit]
  rw [it_lt ⟨by omega, by omega⟩ ⟨by decide, by decide⟩, if_pos (by omega), if_pos hin, hix]
  simp only [zLet, Nat.reduceAdd, pM_wK, pM_n, if_pos hin, hix, pM_wA, i3_add, pM_wn]
  rfl
theorem par_part {m : Mm} {T s : List Int} (h : PT m T) {c : Int} (hs : Sf T (c :: s)) {kd : Int} {i : Nat} (hk : (kd, i) ∈ kdS) {n N : Nat} (hn : n < 40) {vv : Int} {FK FA : Nat → Int32} :
    PX m T n N FK FA (f_Par_takesPart (i3 kd) i (pM m (i3 (pl T (c :: s))) (i3 vv) FK FA (i3 n) (i3 N))) (pPart kd (fS i) s) := by
  obtain ⟨hkd, hi, hok⟩ := kdS_ok _ hk
  have hs' := hs.tl
  have e : f_Par_takesPart (i3 kd) i (pM m (i3 (pl T (c :: s))) (i3 vv) FK FA (i3 n) (i3 N)) = zLp2 (l_Par_takesPart_0 i (i3 kd)) zFu (i3 0) (i3 0) (pM m (i3 (pl T s)) (i3 vv) FK FA (i3 n) (i3 N)) := by
    rw [e_Par_takesPart]
    simp only [zLet]
    rw [pM_p, i3_add1, pM_wp, hs'.2, i3_z]
  have hf := par_flds (FK := FK) (FA := FA) (n := i3 n) h hi (kd := kd) (fS i) 0 zFu 0 vv s N false rfl (Nat.zero_le _) hok (fun h => by cases h) (by omega) (by
    have := str_tb i hi
    rw [fS_len]
    unfold zFu
    omega) hs'.1
  rw [show (((0 : Nat) : Int)) = 0 from rfl] at hf
  rw [e]
  unfold pPart
  -- the value at the fields' begin doesn't count
  have hv0 : pFlds (fS i) 0 vv s = pFlds (fS i) 0 0 s := by
    have ee := fS_eq
    have hall : ∀ j, j < 9 → fS j = [] ∨ ∃ f fs, fS j = f :: fs ∧ (f = 110 ∨ f = 119 ∨ f = 102 ∨ f = 109) := by
      obtain ⟨e0, e1, e2, e3, e4, e5, e6, e7, e8⟩ := ee
      intro j hj
      have : j = 0 ∨ j = 1 ∨ j = 2 ∨ j = 3 ∨ j = 4 ∨ j = 5 ∨ j = 6 ∨ j = 7 ∨ j = 8 := by omega
      rcases this with rfl | rfl | rfl | rfl | rfl | rfl | rfl | rfl | rfl
      · exact Or.inr ⟨_, _, e0, by decide⟩
      · exact Or.inr ⟨_, _, e1, by decide⟩
      · exact Or.inr ⟨_, _, e2, by decide⟩
      · exact Or.inr ⟨_, _, e3, by decide⟩
      · exact Or.inr ⟨_, _, e4, by decide⟩
      · exact Or.inl e5
      · exact Or.inr ⟨_, _, e6, by decide⟩
      · exact Or.inr ⟨_, _, e7, by decide⟩
      · exact Or.inr ⟨_, _, e8, by decide⟩
    rcases hall i hi with e9 | ⟨f, fs, e9, hf9⟩
    · rw [e9]; rfl
    · rw [e9]
      by_cases c9 : f = 110 ∨ f = 119
      · rw [pFlds_one c9, pFlds_one c9]
      · rw [pFlds_cons (by omega), pFlds_cons (by omega)]
        have e10 : pTwo f vv s = pTwo f 0 s := by
          have hh : pHigh f vv = pHigh f 0 := by
            unfold pHigh
            have : f = 102 ∨ f = 109 := by omega
            rcases this with rfl | rfl <;> rfl
          unfold pTwo
          rw [hh]
        rw [e10]
  rw [hv0] at hf
  cases e1 : pFlds (fS i) 0 0 s with
  | inl q =>
    rw [e1] at hf
    obtain ⟨v', nm', hf⟩ := hf
    exact ⟨v', FK, FA, i3 n, nm', hf⟩
  | inr z =>
    obtain ⟨a, r⟩ := z
    rw [e1] at hf
    obtain ⟨hr, ha, v', hf⟩ := hf
    rw [nF_ok _ hk vv a s r N (by rw [hv0]; exact e1)] at hf
    refine ⟨hr, v'.toInt, up FK n (i3 kd), up FA n (i3 a), ?_, fun j hj => ⟨up_ne _ _ (by omega), up_ne _ _ (by omega)⟩, fun j hj => ?_⟩
    · rw [hf]
      unfold cPart
      rw [cod_add hn, zBI_some, if_pos (show zBo (i3 1) by decide), i3_of]
      simp [nmC]
    · have : j = 0 := by simp at hj; omega
      subst this
      exact ⟨up_eq _ _ _, up_eq _ _ _⟩
