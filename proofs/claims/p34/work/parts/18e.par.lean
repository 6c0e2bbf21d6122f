/-! THE CLASS'S PARSER reads as the languages say -/
def up {α : Type} (f : Nat → α) (i : Nat) (x : α) : Nat → α := fun j => if j = i then x else f j
theorem up_eq {α : Type} (f : Nat → α) (i : Nat) (x : α) : up f i x i = x := if_pos rfl
theorem up_ne {α : Type} (f : Nat → α) {i j : Nat} (x : α) (h : j ≠ i) : up f i x j = f j := if_neg h
/-- a memory with the parser's cells as told -/
def pM (m : Mm) (p v : Int32) (FK FA : Nat → Int32) (n nm : Int32) : Mm :=
  (fun b j => if b = 19 ∧ j = 2 then p else if b = 19 ∧ j = 3 then v else if b = 21 then FK j else if b = 22 then FA j else if b = 20 ∧ j = 2 then n else if b = 20 ∧ j = 3 then nm else zI m b j, m.2)
section PM
variable {m : Mm} {p v : Int32} {FK FA : Nat → Int32} {n nm : Int32}
theorem zI_pM (b j : Nat) : zI (pM m p v FK FA n nm) b j = if b = 19 ∧ j = 2 then p else if b = 19 ∧ j = 3 then v else if b = 21 then FK j else if b = 22 then FA j else if b = 20 ∧ j = 2 then n else if b = 20 ∧ j = 3 then nm else zI m b j := rfl
theorem pM_p : zI (pM m p v FK FA n nm) 19 2 = p := rfl
theorem pM_v : zI (pM m p v FK FA n nm) 19 3 = v := rfl
theorem pM_n : zI (pM m p v FK FA n nm) 20 2 = n := rfl
theorem pM_nm : zI (pM m p v FK FA n nm) 20 3 = nm := rfl
theorem pM_o {b j : Nat} (h : b < 19 ∨ 22 < b) : zI (pM m p v FK FA n nm) b j = zI m b j := by
  rw [zI_pM, if_neg (by omega), if_neg (by omega), if_neg (by omega), if_neg (by omega), if_neg (by omega), if_neg (by omega)]
theorem pM_4 : zI (pM m p v FK FA n nm) 19 4 = zI m 19 4 := rfl
theorem pM_R {b j : Nat} : zR (pM m p v FK FA n nm) b j = zR m b j := rfl
theorem pM_self : m = pM m (zI m 19 2) (zI m 19 3) (zI m 21) (zI m 22) (zI m 20 2) (zI m 20 3) := wI_ext (fun b j => by
  rw [zI_pM]
  split
  · next h => rw [h.1, h.2]
  · split
    · next h => rw [h.1, h.2]
    · split
      · next h => rw [h]
      · split
        · next h => rw [h]
        · split
          · next h => rw [h.1, h.2]
          · split
            · next h => rw [h.1, h.2]
            · rfl) rfl
theorem pM_wp {x : Int32} : wI (pM m p v FK FA n nm) 19 2 x = pM m x v FK FA n nm := wI_ext (fun b j => by
  rw [zI_wI, zI_pM, zI_pM]
  by_cases h : b = 19 ∧ j = 2
  · rw [if_pos h, if_pos h]
  · rw [if_neg h, if_neg h, if_neg h]) rfl
theorem pM_wv {x : Int32} : wI (pM m p v FK FA n nm) 19 3 x = pM m p x FK FA n nm := wI_ext (fun b j => by
  rw [zI_wI, zI_pM, zI_pM]
  by_cases h : b = 19 ∧ j = 3
  · rw [if_pos h, if_neg (by omega), if_pos h]
  · rw [if_neg h, if_neg h, if_neg h]) rfl
theorem pM_wn {x : Int32} : wI (pM m p v FK FA n nm) 20 2 x = pM m p v FK FA x nm := wI_ext (fun b j => by
  rw [zI_wI, zI_pM, zI_pM]
  by_cases h : b = 20 ∧ j = 2
  · rw [if_pos h, if_neg (by omega), if_neg (by omega), if_neg (by omega), if_neg (by omega), if_pos h]
  · rw [if_neg h, if_neg h, if_neg h]) rfl
theorem pM_wnm {x : Int32} : wI (pM m p v FK FA n nm) 20 3 x = pM m p v FK FA n x := wI_ext (fun b j => by
  rw [zI_wI, zI_pM, zI_pM]
  by_cases h : b = 20 ∧ j = 3
  · rw [if_pos h, if_neg (by omega), if_neg (by omega), if_neg (by omega), if_neg (by omega), if_neg (by omega), if_pos h]
  · rw [if_neg h, if_neg h, if_neg h]) rfl
theorem pM_wK {i : Nat} {x : Int32} : wI (pM m p v FK FA n nm) 21 i x = pM m p v (up FK i x) FA n nm := wI_ext (fun b j => by
  rw [zI_wI, zI_pM, zI_pM]
  by_cases h : b = 21
  · subst h
    by_cases e : j = i
    · subst e
      rw [if_pos ⟨rfl, rfl⟩, if_neg (by omega), if_neg (by omega), if_pos rfl, up_eq]
    · rw [if_neg (fun q => e q.2), if_neg (by omega), if_neg (by omega), if_pos rfl, if_neg (by omega), if_neg (by omega), if_pos rfl, up_ne _ _ e]
  · rw [if_neg (fun q => h q.1), if_neg h, if_neg h]) rfl
theorem pM_wA {i : Nat} {x : Int32} : wI (pM m p v FK FA n nm) 22 i x = pM m p v FK (up FA i x) n nm := wI_ext (fun b j => by
  rw [zI_wI, zI_pM, zI_pM]
  by_cases h : b = 22
  · subst h
    by_cases e : j = i
    · subst e
      rw [if_pos ⟨rfl, rfl⟩, if_neg (by omega), if_neg (by omega), if_neg (by omega), if_pos rfl, up_eq]
    · rw [if_neg (fun q => e q.2), if_neg (by omega), if_neg (by omega), if_neg (by omega), if_pos rfl, if_neg (by omega), if_neg (by omega), if_neg (by omega), if_pos rfl, up_ne _ _ e]
  · rw [if_neg (fun q => h q.1), if_neg h, if_neg h]) rfl
end PM
/-- the text at q is T -/
def TX (m : Mm) (q : Nat) (T : List Int) : Prop := T.length ≤ 40 ∧ zI m q 1 = i3 T.length ∧ (∀ i, i < T.length → zI m (q + 1) i = i3 (T.getD i 0)) ∧ ∀ c ∈ T, 33 ≤ c ∧ c ≤ 126
def pl (T s : List Int) : Int := (T.length : Int) - s.length
theorem txt_at {m : Mm} {q : Nat} {T s pre : List Int} (h : TX m q T) (hs : T = pre ++ s) : f_Txt_at q (i3 (pl T s)) m = some (i3 (s.headD 0)) := by
  obtain ⟨h1, h2, h3, h4⟩ := h
  have hl : T.length = pre.length + s.length := by rw [hs, List.length_append]
  have hp : pl T s = (pre.length : Int) := by unfold pl; omega
  unfold f_Txt_at
  simp (disch := omega) only [zLet, hp, h2, i3_lit, i3_lt, i3_le]
  rw [if_neg (by omega)]
  cases s with
  | nil =>
    rw [if_pos (by simp at hl; omega)]
    rfl
  | cons c r =>
    have hc : c ∈ T := by rw [hs]; simp
    have hcb := h4 c hc
    have hg : T.getD pre.length 0 = c := by rw [hs]; simp
    simp at hl
    rw [if_neg (by omega), if_pos ((i3_in ⟨by omega, by omega⟩).mpr ⟨by omega, by omega⟩), i3_ix ⟨by omega, by omega⟩, Int.toNat_natCast, h3 _ (by omega), hg, if_pos ((i3_ch ⟨by omega, by omega⟩).mpr ⟨by omega, by omega⟩)]
    rfl
theorem TX.pM {m : Mm} {q : Nat} {T : List Int} (h : TX m q T) (hq : q = 17) {p v : Int32} {FK FA : Nat → Int32} {n nm : Int32} : TX (pM m p v FK FA n nm) q T := by
  subst hq
  refine ⟨h.1, ?_, fun i hi => ?_, h.2.2.2⟩
  · rw [pM_o (by omega)]; exact h.2.1
  · rw [pM_o (by omega)]; exact h.2.2.1 i hi
/-- the parser stands on the text T -/
def PT (m : Mm) (T : List Int) : Prop := zR m 19 1 = 17 ∧ TX m 17 T
def Sf (T s : List Int) : Prop := ∃ pre, T = pre ++ s
theorem Sf.tl {T : List Int} {c : Int} {r : List Int} (h : Sf T (c :: r)) : Sf T r ∧ pl T (c :: r) + 1 = pl T r := by
  obtain ⟨pre, rfl⟩ := h
  refine ⟨⟨pre ++ [c], by simp⟩, ?_⟩
  unfold pl
  simp
  omega
theorem Sf.le {T s : List Int} (h : Sf T s) : s.length ≤ T.length := by
  obtain ⟨pre, rfl⟩ := h
  simp
theorem Sf.mem {T s : List Int} (h : Sf T s) {c : Int} (hc : c ∈ s) : c ∈ T := by
  obtain ⟨pre, rfl⟩ := h
  simp [hc]
theorem pl_bd {T s : List Int} (h : Sf T s) (h40 : T.length ≤ 40) : 0 ≤ pl T s ∧ pl T s ≤ 40 := by
  have := h.le
  unfold pl
  omega
theorem par_at {m : Mm} {T s : List Int} (h : PT m T) (hs : Sf T s) {v : Int32} {FK FA : Nat → Int32} {n nm : Int32} : f_Txt_at 17 (i3 (pl T s)) (pM m (i3 (pl T s)) v FK FA n nm) = some (i3 (s.headD 0)) := by
  obtain ⟨pre, hp⟩ := hs
  exact txt_at (h.2.pM rfl) hp
theorem hd_bd {m : Mm} {T s : List Int} (h : PT m T) (hs : Sf T s) : 0 ≤ s.headD 0 ∧ s.headD 0 ≤ 126 := by
  cases s with
  | nil => exact ⟨by decide, by decide⟩
  | cons c r =>
    have := h.2.2.2.2 c (hs.mem (by simp))
    show 0 ≤ c ∧ c ≤ 126
    omega
def PD (m : Mm) (T : List Int) (FK FA : Nat → Int32) (n nm : Int32) (v : Int32) (res : Option (Int32 × Mm)) (s : List Int) : Rd Int → Prop
  | .inl q => q = s ∧ res = some (i3 0, pM m (i3 (pl T s)) v FK FA n nm)
  | .inr (x, r) => Sf T r ∧ res = some (i3 1, pM m (i3 (pl T r)) (i3 x) FK FA n nm)
section PAR
variable {m : Mm} {T s : List Int} {v : Int32} {FK FA : Nat → Int32} {n nm : Int32}
theorem par_dig (h : PT m T) (hs : Sf T s) {lo hi : Int} (hlo : -40 ≤ lo ∧ lo ≤ 100) (hhi : -4000 ≤ hi ∧ hi ≤ 100) : PD m T FK FA n nm v (f_Par_takesDigit (i3 lo) (i3 hi) (pM m (i3 (pl T s)) v FK FA n nm)) s (pDig lo hi s) := by
  have h40 := h.2.1
  have hb := pl_bd hs h40
  have hh := hd_bd h hs
  have e : f_Par_takesDigit (i3 lo) (i3 hi) (pM m (i3 (pl T s)) v FK FA n nm) = if s.headD 0 - 48 < lo then some (i3 0, pM m (i3 (pl T s)) v FK FA n nm) else if s.headD 0 - 48 ≤ hi then some (i3 1, pM m (i3 (pl T s + 1)) (i3 (s.headD 0 - 48)) FK FA n nm) else some (i3 0, pM m (i3 (pl T s)) v FK FA n nm) := by
    unfold f_Par_takesDigit
    simp only [zGR, pM_R, h.1, show zT 17 = 8 from by decide +kernel, if_true, zBP, pM_p, par_at h hs, ob_s, zLet, i3_lit, i3_sub, pM_wv, pM_wp, i3_add]
    rw [it_lt ⟨by omega, by omega⟩ ⟨by omega, by omega⟩, it_le ⟨by omega, by omega⟩ ⟨by omega, by omega⟩]
  rw [e]
  cases s with
  | nil =>
    refine ⟨rfl, ?_⟩
    show (if (0 : Int) - 48 < lo then _ else _) = _
    rw [if_pos (by omega)]
  | cons c r =>
    rw [pDig_cons]
    show PD m T FK FA n nm v (if c - 48 < lo then _ else if c - 48 ≤ hi then _ else _) (c :: r) _
    by_cases h1 : c - 48 < lo
    · rw [if_pos h1, if_neg (by omega)]
      exact ⟨rfl, rfl⟩
    · by_cases h2 : c - 48 ≤ hi
      · rw [if_neg h1, if_pos h2, if_pos (by omega)]
        refine ⟨hs.tl.1, ?_⟩
        rw [hs.tl.2]
        rfl
      · rw [if_neg h1, if_neg h2, if_neg (by omega)]
        exact ⟨rfl, rfl⟩
theorem par_takes (h : PT m T) (hs : Sf T s) {x : Int} (hx : 1 ≤ x ∧ x ≤ 126) : f_Par_takes (i3 x) (pM m (i3 (pl T s)) v FK FA n nm) = match pChr x s with
    | .inl _ => some (i3 0, pM m (i3 (pl T s)) v FK FA n nm)
    | .inr (_, r) => some (i3 1, pM m (i3 (pl T r)) v FK FA n nm) := by
  have hh := hd_bd h hs
  unfold f_Par_takes
  simp only [zGR, pM_R, h.1, show zT 17 = 8 from by decide +kernel, if_true, zBP, pM_p, par_at h hs, ob_s, zLet, i3_lit, pM_wp, i3_add]
  rw [it_eq ⟨by omega, by omega⟩ ⟨by omega, by omega⟩]
  cases s with
  | nil => exact if_neg (by show ¬ (0 : Int) = x; omega)
  | cons c r =>
    rw [pChr_cons]
    show (if c = x then _ else _) = _
    by_cases e : c = x
    · rw [if_pos e, if_pos e, hs.tl.2]
    · rw [if_neg e, if_neg e]
theorem par_one (h : PT m T) (hs : Sf T s) {f : Int} (hf : f = 110 ∨ f = 119) : PD m T FK FA n nm v (f_Par_takesOneDigit (i3 f) (pM m (i3 (pl T s)) v FK FA n nm)) s (if f = 110 then pDig 1 5 s else pDig 0 6 s) := by
  have h1 := par_dig (FK := FK) (FA := FA) (n := n) (nm := nm) (v := v) h hs (lo := 1) (hi := 5) (by omega) (by omega)
  have h2 := par_dig (FK := FK) (FA := FA) (n := n) (nm := nm) (v := v) h hs (lo := 0) (hi := 6) (by omega) (by omega)
  have key : ∀ (x : Option (Int32 × Mm)) (R : Rd Int), PD m T FK FA n nm v x s R → PD m T FK FA n nm v (zBI x fun v5 m4 => if zBo v5 then some (v5, m4) else none) s R := by
    intro x R hR
    cases R with
    | inl q => obtain ⟨e1, e2⟩ := hR; exact ⟨e1, by rw [e2, zBI_some, if_pos (show zBo (i3 0) by decide)]⟩
    | inr q => obtain ⟨y, r⟩ := q; obtain ⟨e1, e2⟩ := hR; exact ⟨e1, by rw [e2, zBI_some, if_pos (show zBo (i3 1) by decide)]⟩
  unfold f_Par_takesOneDigit
  rcases hf with rfl | rfl
  · simp (disch := omega) only [i3_lit, i3_eq, if_true]
    exact key _ _ h1
  · simp (disch := omega) only [i3_lit, i3_eq, Int.reduceEq, reduceIte]
    exact key _ _ h2
/-- the names of feasts, as bits -/
def bN (f : Int) (x : Int) (N : Nat) : Nat := if f = 102 then N ||| 2 ^ x.toNat else N
theorem i3_bit {N : Nat} {x : Int} (hx : 0 ≤ x ∧ x ≤ 19) : (i3 N ||| ((1 : Int32) <<< (i3 x &&& 31))) = i3 ((N ||| 2 ^ x.toNat : Nat)) := by
  have h1 : ∀ k : Nat, k < 20 → ((1 : Int32) <<< (i3 ((k : Nat) : Int) &&& 31)) = Int32.ofNat (2 ^ k) := by decide +kernel
  have e : x = ((x.toNat : Nat) : Int) := by omega
  have h2 := h1 x.toNat (by omega)
  rw [← e] at h2
  rw [h2, i3_litN, i3_litN]
  apply Int32.toBitVec.inj
  rw [Int32.toBitVec_or]
  show BitVec.ofNat 32 N ||| BitVec.ofNat 32 (2 ^ x.toNat) = BitVec.ofNat 32 (N ||| 2 ^ x.toNat)
  apply BitVec.eq_of_getLsbD_eq
  intro i hi
  simp [Nat.testBit_or, hi]
end PAR
