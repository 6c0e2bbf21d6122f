/-! THE LAW'S SHORT-LIVED ARRAYS -/
def zNt (m : Mm) (a : Nat) : Mm := (fun b j => if b = a then 0 else m.1 b j, m.2)
theorem zI_zNt (m : Mm) (a b j : Nat) : zI (zNt m a) b j = if b = a then 0 else zI m b j := rfl
section TMP
variable {ω0 ω : Wd} {D mc ms : Nat} {κ : Kx} {α : Type} {φ : α → Zo} {c0 s0 c1 s1 : Nat} {m : Mm} {pc : Nat} {ls : List (Option Value)} {st : List Value} {t : Option α}
theorem y_taild {i : Nat} {x : Int32} (hi : i < (oT ω).length) (d : decode κ.2.1 pc = .ok (.iaload, 1)) (k1 : zIn x 10 → Sx ω0 ω true D mc ms κ φ c0 s0 m (pc + 1) ls (.int (zI m (207 + i) (zIx x)) :: st) t) : Sx ω0 ω true D mc ms κ φ c0 s0 m pc ls (.int x :: .ref (zTd ω i) :: st) (if zIn x 10 then t else none) :=
  x_guard fun hin r hr p l e s mid args below meth c H locs la C L hH hS =>
    W.iald (v := .int (zI m (207 + i) (zIx x))) C.1 C.2.1 (hH.2.2.2.2.2 rfl i hi).1 (zC_arr C.2.2.2.2.2.2.2.2.1 (t := 0) rfl _ _) (fun q => by cases q) (by rw [arrV_size]; exact zIn_vp hin) (by rw [arrV_read _ _ hin.2]; rfl) rfl rfl d (k1 hin r hr p l e s mid args below meth c H locs la C L hH hS)
theorem y_tast {i : Nat} {x v : Int32} (hi : i < (oT ω).length) (d : decode κ.2.1 pc = .ok (.iastore, 1)) (k1 : zIn x 10 → Sx ω0 ω true D mc ms κ φ c0 s0 (wI m (207 + i) (zIx x) v) (pc + 1) ls st t) : Sx ω0 ω true D mc ms κ φ c0 s0 m pc ls (.int v :: .int x :: .ref (zTd ω i) :: st) (if zIn x 10 then t else none) :=
  x_guard fun hin r hr p l e s mid args below meth c H locs la C L hH hS => by
    have hT := hH.2.2.2.2.2 rfl
    refine W.iast C.1 C.2.1 (hT i hi).1 (zC_arr C.2.2.2.2.2.2.2.2.1 (t := 0) rfl _ _) (fun q => by cases q) (by rw [arrV_size]; exact zIn_vp hin) rfl rfl d fun H' e1 e2 e3 => ?_
    have hne : ∀ b, b < zN m → b ≠ 207 + i := fun b hb => by
      have h1 := (hH.2.2.2.1 rfl).2
      have : zNE = 207 := rfl
      omega
    have hA : zA ω (zTd ω i) := Nat.le_trans (Nat.le_add_right _ _) (hT i hi).2.1
    refine k1 hin r hr p l e s mid args below meth c H' _ la C L ⟨fun b h16 hb => ?_, by rw [e2]; exact hH.2.1, hH.2.2.1, hH.2.2.2.1, (fun hp => nomatch hp), fun _ j hj => ?_⟩ (hS.put e2 e3 hA)
    · have hb9 : b < zNE := by rw [← (hH.2.2.2.1 rfl).2]; exact hb
      refine zAt_kept (hH.1 b h16 hb) (e3 _ (Ne.symm (zTd_ne hT hi h16 hb9))) (fun k => ?_) (fun _ => rfl) (fun _ => rfl)
      rw [zI_wI, if_neg (fun q => hne b hb q.1)]
    · obtain ⟨a1, a2, a3⟩ := hT j hj
      refine ⟨?_, a2, a3⟩
      by_cases ej : j = i
      · subst ej
        rw [e1, arrV_store]
        refine congrArg some (congrArg (arrV _ _) (funext fun q => ?_))
        rw [zI_wI]
        unfold updV
        by_cases eq : q = zIx x
        · rw [if_pos (show q = x.toNatClampNeg from eq), if_pos ⟨rfl, eq⟩]
        · rw [if_neg (show ¬ q = x.toNatClampNeg from eq), if_neg (fun h => eq h.2)]
      · rw [e3 _ (fun q => ej (a3 i hi q)), a1]
        refine congrArg some (congrArg (arrV _ _) (funext fun q => ?_))
        rw [zI_wI, if_neg (fun h => ej (by omega))]
theorem w_arrI : Cond.arrayClass .int ∈ zG := zG_in 114 (by decide +kernel) (by decide +kernel)
/-- a new array of ten ints -/
theorem y_newT {n : Nat} {f : Mm → Option α} (h0 : (oT ω).length = n) (harr : Cond.arrayClass .int ∈ zG) (hc : c0 + 1 = c1 ∧ s0 + 10 = s1) (hcs : c1 ≤ mc ∧ s1 ≤ ms) (d : decode κ.2.1 pc = .ok (.newarray .int, 2))
    (k : ∀ (ω1 : Wd) (m1 : Mm), zXt ω ω1 → (oT ω1).length = n + 1 → Sx ω0 ω1 true D mc ms κ φ c1 s1 m1 (pc + 2) ls (.ref (zTd ω1 n) :: st) (f m1)) : Sx ω0 ω true D mc ms κ φ c0 s0 m pc ls (.int 10 :: st) (zLet (zNt m (207 + n)) f) := by
  intro r hr p l e s mid args below meth c H locs la C L hH hS
  obtain ⟨g1, g2⟩ := hc
  subst g1 g2
  have hts := C.2.2.2.2.2.1
  have hC := C.2.2.2.2.2.2.2.2.1
  have hz := (hH.2.2.2.1 rfl).2
  have hT := hH.2.2.2.2.2 rfl
  have hNE : zNE = 207 := rfl
  have hlen : (oT ω ++ [H.size]).length = n + 1 := by rw [List.length_append, h0]; rfl
  have hX : zXt ω (ω.1, ω.2.1, ω.2.2.1, ω.2.2.2.1, ω.2.2.2.2.1, ω.2.2.2.2.2.1, ω.2.2.2.2.2.2.1, oT ω ++ [H.size]) := ⟨_, rfl⟩
  have k9 := k _ (zNt m (207 + n)) hX hlen r hr
  have hat : zTd (ω.1, ω.2.1, ω.2.2.1, ω.2.2.2.1, ω.2.2.2.2.1, ω.2.2.2.2.2.1, ω.2.2.2.2.2.2.1, oT ω ++ [H.size]) n = H.size := by
    show (oT ω ++ [H.size]).getD n 0 = H.size
    rw [List.getD_eq_getElem?_getD, List.getElem?_append_right (by omega), h0, Nat.sub_self]
    rfl
  rw [hat] at k9
  refine va_newaK (atype := .int) C.1 C.2.1 (hts _ harr) rfl d rfl (by decide) (n := 10) (by decide) (by simp [newarray.typeOf, componentBytes]) hcs.1 hcs.2 rfl fun H1 cA e1 z1 o1 hAr hNm => ?_
  have hcA : cA = oA ω 0 := Option.some.inj (hNm.symm.trans (hC.1.2 0 _ rfl).2)
  subst hcA
  refine k9 p l e s mid args below meth c H1 locs la C L ⟨fun b h16 hb => ?_, by rw [z1]; exact Nat.le_trans hH.2.1 (Nat.le_succ _), hH.2.2.1, hH.2.2.2.1, (fun hp => nomatch hp), fun _ j hj => ?_⟩ ⟨Nat.le_trans hS.1 (by omega), fun x h1 h2 => (o1 x (Nat.lt_of_lt_of_le h1 hS.1)).trans (hS.2.1 x h1 h2), hS.2.2⟩
  · have hb9 : b < zN m := hb
    refine zAt_kept (m := m) (hH.1 b h16 hb9) (o1 _ ?_) (fun q => ?_) (fun _ => rfl) (fun _ => rfl)
    · show zad ω b < H.size
      rw [zad_of h16]
      have := hH.2.1
      omega
    · rw [zI_zNt, if_neg (by omega)]
  · have hold : ∀ j, j < (oT ω).length → zTd ω j < H.size := fun j hj => (Array.getElem?_eq_some_iff.mp (hT j hj).1).1
    by_cases ej : j = n
    · subst ej
      refine ⟨?_, ?_, fun i hi e => ?_⟩
      · rw [hat, e1]
        refine congrArg some (congrArg (arrV _ _) (funext fun q => ?_))
        rw [zI_zNt, if_pos rfl]
        rfl
      · rw [hat]
        show oS ω + 191 ≤ H.size
        have := hH.2.1
        omega
      · by_cases ei : i = j
        · exact ei.symm
        · have hi9 : i < (oT ω).length := by
            have hi' : i < (oT ω ++ [H.size]).length := hi
            omega
          rw [hat, hX.zt hi9] at e
          have := hold i hi9
          omega
    · have hj9 : j < (oT ω).length := by
        have hj' : j < (oT ω ++ [H.size]).length := hj
        omega
      obtain ⟨a1, a2, a3⟩ := hT j hj9
      refine ⟨?_, ?_, fun i hi e => ?_⟩
      · rw [hX.zt hj9, o1 _ (hold j hj9), a1]
        refine congrArg some (congrArg (arrV _ _) (funext fun q => ?_))
        rw [zI_zNt, if_neg (by omega)]
      · rw [hX.zt hj9]
        exact a2
      · by_cases ei : i = n
        · subst ei
          rw [hX.zt hj9, hat] at e
          have := hold j hj9
          omega
        · have hi9 : i < (oT ω).length := by
            have hi' : i < (oT ω ++ [H.size]).length := hi
            omega
          rw [hX.zt hj9, hX.zt hi9] at e
          exact a3 i hi9 e
theorem y_drop {ω1 : Wd} {ls' : List (Option Value)} {st' : List Value} (h : zXt ω ω1) (hl : ls' = ls) (hs : st' = st) (k : Sx ω0 ω true D mc ms κ φ c0 s0 m pc ls' st' t) : Sx ω0 ω1 true D mc ms κ φ c0 s0 m pc ls st t := by
  subst hl hs
  intro r hr p l e s mid args below meth c H locs la C L hH hS
  have hH' := h.H hH
  obtain ⟨l9, rfl⟩ := h
  exact k r hr p l e s mid args below meth c H locs la C L hH' hS
theorem x_wid {ph : Bool} (h1 : c0 ≤ c1) (h2 : s0 ≤ s1) (k : Sx ω0 ω ph D mc ms κ φ c1 s1 m pc ls st t) : Sx ω0 ω ph D mc ms κ φ c0 s0 m pc ls st t :=
  fun r hr p l e s mid args below meth c H locs la C L hH hS => W.widen h1 h2 (k r hr p l e s mid args below meth c H locs la C L hH hS)
theorem lc_step (N n K : Nat) (h : n + 1 ≤ N) : (N - (n + 1)) * K + K = (N - n) * K := by
  have e : N - n = N - (n + 1) + 1 := by omega
  rw [e, Nat.succ_mul]
theorem lc_le (N n K : Nat) : (N - n) * K ≤ N * K := Nat.mul_le_mul_right _ (Nat.sub_le _ _)
theorem y_Lcp1 {F : (Int32 → Mm → Option α) → Int32 → Mm → Option α} {K Ks N : Nat} (LS : Int32 → List (Option Value)) (hN : c0 + N * K ≤ mc ∧ s0 + N * Ks ≤ ms)
    (h : ∀ (rec : Int32 → Mm → Option α) (c s : Nat), c0 ≤ c → c + K ≤ c0 + N * K → s0 ≤ s → s + Ks ≤ s0 + N * Ks → (∀ (x0 : Int32) (m : Mm), Sx ω0 ω true D mc ms κ φ (c + K) (s + Ks) m pc (LS x0) st (rec x0 m)) → ∀ (x0 : Int32) (m : Mm), Sx ω0 ω true D mc ms κ φ c s m pc (LS x0) st (F rec x0 m)) :
    ∀ (x0 : Int32) (m : Mm), Sx ω0 ω true D mc ms κ φ c0 s0 m pc (LS x0) st (zLp1 F N x0 m) := by
  have H : ∀ n, n ≤ N → ∀ (x0 : Int32) (m : Mm), Sx ω0 ω true D mc ms κ φ (c0 + (N - n) * K) (s0 + (N - n) * Ks) m pc (LS x0) st (zLp1 F n x0 m) := by
    intro n
    induction n with
    | zero => intro _ x0 m r hr; cases hr
    | succ n ih =>
      intro hn x0 m
      have e1 := lc_step N n K hn
      have e2 := lc_step N n Ks hn
      have l1 := lc_le N n K
      have l2 := lc_le N n Ks
      refine h _ (c0 + (N - (n + 1)) * K) (s0 + (N - (n + 1)) * Ks) (Nat.le_add_right _ _) (by rw [Nat.add_assoc, e1]; omega) (Nat.le_add_right _ _) (by rw [Nat.add_assoc, e2]; omega) ?_ x0 m
      rw [Nat.add_assoc, e1, Nat.add_assoc, e2]
      exact ih (by omega)
  have h0 := H N (Nat.le_refl N)
  rw [Nat.sub_self, Nat.zero_mul, Nat.zero_mul] at h0
  exact h0
theorem y_Lcp2 {F : (Int32 → Int32 → Mm → Option α) → Int32 → Int32 → Mm → Option α} {K Ks N : Nat} (LS : Int32 → Int32 → List (Option Value)) (hN : c0 + N * K ≤ mc ∧ s0 + N * Ks ≤ ms)
    (h : ∀ (rec : Int32 → Int32 → Mm → Option α) (c s : Nat), c0 ≤ c → c + K ≤ c0 + N * K → s0 ≤ s → s + Ks ≤ s0 + N * Ks → (∀ (x0 x1 : Int32) (m : Mm), Sx ω0 ω true D mc ms κ φ (c + K) (s + Ks) m pc (LS x0 x1) st (rec x0 x1 m)) → ∀ (x0 x1 : Int32) (m : Mm), Sx ω0 ω true D mc ms κ φ c s m pc (LS x0 x1) st (F rec x0 x1 m)) :
    ∀ (x0 x1 : Int32) (m : Mm), Sx ω0 ω true D mc ms κ φ c0 s0 m pc (LS x0 x1) st (zLp2 F N x0 x1 m) := by
  have H : ∀ n, n ≤ N → ∀ (x0 x1 : Int32) (m : Mm), Sx ω0 ω true D mc ms κ φ (c0 + (N - n) * K) (s0 + (N - n) * Ks) m pc (LS x0 x1) st (zLp2 F n x0 x1 m) := by
    intro n
    induction n with
    | zero => intro _ x0 x1 m r hr; cases hr
    | succ n ih =>
      intro hn x0 x1 m
      have e1 := lc_step N n K hn
      have e2 := lc_step N n Ks hn
      have l1 := lc_le N n K
      have l2 := lc_le N n Ks
      refine h _ (c0 + (N - (n + 1)) * K) (s0 + (N - (n + 1)) * Ks) (Nat.le_add_right _ _) (by rw [Nat.add_assoc, e1]; omega) (Nat.le_add_right _ _) (by rw [Nat.add_assoc, e2]; omega) ?_ x0 x1 m
      rw [Nat.add_assoc, e1, Nat.add_assoc, e2]
      exact ih (by omega)
  have h0 := H N (Nat.le_refl N)
  rw [Nat.sub_self, Nat.zero_mul, Nat.zero_mul] at h0
  exact h0
theorem y_Lcp3 {F : (Int32 → Int32 → Int32 → Mm → Option α) → Int32 → Int32 → Int32 → Mm → Option α} {K Ks N : Nat} (LS : Int32 → Int32 → Int32 → List (Option Value)) (hN : c0 + N * K ≤ mc ∧ s0 + N * Ks ≤ ms)
    (h : ∀ (rec : Int32 → Int32 → Int32 → Mm → Option α) (c s : Nat), c0 ≤ c → c + K ≤ c0 + N * K → s0 ≤ s → s + Ks ≤ s0 + N * Ks → (∀ (x0 x1 x2 : Int32) (m : Mm), Sx ω0 ω true D mc ms κ φ (c + K) (s + Ks) m pc (LS x0 x1 x2) st (rec x0 x1 x2 m)) → ∀ (x0 x1 x2 : Int32) (m : Mm), Sx ω0 ω true D mc ms κ φ c s m pc (LS x0 x1 x2) st (F rec x0 x1 x2 m)) :
    ∀ (x0 x1 x2 : Int32) (m : Mm), Sx ω0 ω true D mc ms κ φ c0 s0 m pc (LS x0 x1 x2) st (zLp3 F N x0 x1 x2 m) := by
  have H : ∀ n, n ≤ N → ∀ (x0 x1 x2 : Int32) (m : Mm), Sx ω0 ω true D mc ms κ φ (c0 + (N - n) * K) (s0 + (N - n) * Ks) m pc (LS x0 x1 x2) st (zLp3 F n x0 x1 x2 m) := by
    intro n
    induction n with
    | zero => intro _ x0 x1 x2 m r hr; cases hr
    | succ n ih =>
      intro hn x0 x1 x2 m
      have e1 := lc_step N n K hn
      have e2 := lc_step N n Ks hn
      have l1 := lc_le N n K
      have l2 := lc_le N n Ks
      refine h _ (c0 + (N - (n + 1)) * K) (s0 + (N - (n + 1)) * Ks) (Nat.le_add_right _ _) (by rw [Nat.add_assoc, e1]; omega) (Nat.le_add_right _ _) (by rw [Nat.add_assoc, e2]; omega) ?_ x0 x1 x2 m
      rw [Nat.add_assoc, e1, Nat.add_assoc, e2]
      exact ih (by omega)
  have h0 := H N (Nat.le_refl N)
  rw [Nat.sub_self, Nat.zero_mul, Nat.zero_mul] at h0
  exact h0
end TMP
