/-! THE REFERENCE'S READING: its memory, and what its small methods do to it -/
def qM (m : Mm) (so jo en ar dg mo D sm nu dn : Int32) (F3 F4 F5 F6 F7 : Nat → Int32) : Mm :=
  (fun b j => if b = 201 then (if j = 6 then so else if j = 8 then jo else if j = 11 then en else if j = 12 then ar else if j = 13 then dg else if j = 14 then mo else if j = 15 then D else if j = 16 then sm else if j = 17 then nu else if j = 18 then dn else zI m b j)
    else if b = 203 then F3 j else if b = 204 then F4 j else if b = 205 then F5 j else if b = 206 then F6 j else if b = 207 then F7 j else zI m b j, m.2)
section QM
variable {m : Mm} {so jo en ar dg mo D sm nu dn : Int32} {F3 F4 F5 F6 F7 : Nat → Int32}
theorem qM_o {b j : Nat} (h : b < 201 ∨ b = 202 ∨ 207 < b) : zI (qM m so jo en ar dg mo D sm nu dn F3 F4 F5 F6 F7) b j = zI m b j := by
  show (if b = 201 then _ else if b = 203 then _ else if b = 204 then _ else if b = 205 then _ else if b = 206 then _ else if b = 207 then _ else _) = _
  rw [if_neg (by omega), if_neg (by omega), if_neg (by omega), if_neg (by omega), if_neg (by omega), if_neg (by omega)]
theorem qM_k {j : Nat} (h : j < 6 ∨ j = 7 ∨ j = 9 ∨ j = 10 ∨ 18 < j) : zI (qM m so jo en ar dg mo D sm nu dn F3 F4 F5 F6 F7) 201 j = zI m 201 j := by
  show (if j = 6 then so else if j = 8 then jo else if j = 11 then en else if j = 12 then ar else if j = 13 then dg else if j = 14 then mo else if j = 15 then D else if j = 16 then sm else if j = 17 then nu else if j = 18 then dn else zI m 201 j) = _
  rw [if_neg (by omega), if_neg (by omega), if_neg (by omega), if_neg (by omega), if_neg (by omega), if_neg (by omega), if_neg (by omega), if_neg (by omega), if_neg (by omega), if_neg (by omega)]
theorem qM_6 : zI (qM m so jo en ar dg mo D sm nu dn F3 F4 F5 F6 F7) 201 6 = so := rfl
theorem qM_8 : zI (qM m so jo en ar dg mo D sm nu dn F3 F4 F5 F6 F7) 201 8 = jo := rfl
theorem qM_11 : zI (qM m so jo en ar dg mo D sm nu dn F3 F4 F5 F6 F7) 201 11 = en := rfl
theorem qM_12 : zI (qM m so jo en ar dg mo D sm nu dn F3 F4 F5 F6 F7) 201 12 = ar := rfl
theorem qM_13 : zI (qM m so jo en ar dg mo D sm nu dn F3 F4 F5 F6 F7) 201 13 = dg := rfl
theorem qM_14 : zI (qM m so jo en ar dg mo D sm nu dn F3 F4 F5 F6 F7) 201 14 = mo := rfl
theorem qM_15 : zI (qM m so jo en ar dg mo D sm nu dn F3 F4 F5 F6 F7) 201 15 = D := rfl
theorem qM_16 : zI (qM m so jo en ar dg mo D sm nu dn F3 F4 F5 F6 F7) 201 16 = sm := rfl
theorem qM_17 : zI (qM m so jo en ar dg mo D sm nu dn F3 F4 F5 F6 F7) 201 17 = nu := rfl
theorem qM_18 : zI (qM m so jo en ar dg mo D sm nu dn F3 F4 F5 F6 F7) 201 18 = dn := rfl
theorem qM_3 {j : Nat} : zI (qM m so jo en ar dg mo D sm nu dn F3 F4 F5 F6 F7) 203 j = F3 j := rfl
theorem qM_4 {j : Nat} : zI (qM m so jo en ar dg mo D sm nu dn F3 F4 F5 F6 F7) 204 j = F4 j := rfl
theorem qM_5 {j : Nat} : zI (qM m so jo en ar dg mo D sm nu dn F3 F4 F5 F6 F7) 205 j = F5 j := rfl
theorem qM_F6 {j : Nat} : zI (qM m so jo en ar dg mo D sm nu dn F3 F4 F5 F6 F7) 206 j = F6 j := rfl
theorem qM_F7 {j : Nat} : zI (qM m so jo en ar dg mo D sm nu dn F3 F4 F5 F6 F7) 207 j = F7 j := rfl
theorem qM_R {b j : Nat} : zR (qM m so jo en ar dg mo D sm nu dn F3 F4 F5 F6 F7) b j = zR m b j := rfl
theorem qM_ext {a b : Mm} (h : a.2 = b.2) (h1 : ∀ j, zI a 201 j = zI b 201 j) (h3 : ∀ j, zI a 203 j = zI b 203 j) (h4 : ∀ j, zI a 204 j = zI b 204 j) (h5 : ∀ j, zI a 205 j = zI b 205 j) (h6 : ∀ j, zI a 206 j = zI b 206 j) (h7 : ∀ j, zI a 207 j = zI b 207 j) (ho : ∀ c j, c < 201 ∨ c = 202 ∨ 207 < c → zI a c j = zI b c j) : a = b := wI_ext (fun c j => by
  by_cases e1 : c = 201
  · subst e1; exact h1 j
  by_cases e3 : c = 203
  · subst e3; exact h3 j
  by_cases e4 : c = 204
  · subst e4; exact h4 j
  by_cases e5 : c = 205
  · subst e5; exact h5 j
  by_cases e6 : c = 206
  · subst e6; exact h6 j
  by_cases e7 : c = 207
  · subst e7; exact h7 j
  exact ho c j (by omega)) h
theorem qM_self : m = qM m (zI m 201 6) (zI m 201 8) (zI m 201 11) (zI m 201 12) (zI m 201 13) (zI m 201 14) (zI m 201 15) (zI m 201 16) (zI m 201 17) (zI m 201 18) (zI m 203) (zI m 204) (zI m 205) (zI m 206) (zI m 207) := by
  refine qM_ext rfl (fun j => ?_) (fun j => rfl) (fun j => rfl) (fun j => rfl) (fun j => rfl) (fun j => rfl) (fun c j h => (qM_o h).symm)
  by_cases h : j < 6 ∨ j = 7 ∨ j = 9 ∨ j = 10 ∨ 18 < j
  · exact (qM_k h).symm
  · have : j = 6 ∨ j = 8 ∨ j = 11 ∨ j = 12 ∨ j = 13 ∨ j = 14 ∨ j = 15 ∨ j = 16 ∨ j = 17 ∨ j = 18 := by omega
    rcases this with rfl | rfl | rfl | rfl | rfl | rfl | rfl | rfl | rfl | rfl <;> rfl
theorem qM_w6 {x : Int32} : wI (qM m so jo en ar dg mo D sm nu dn F3 F4 F5 F6 F7) 201 6 x = qM m x jo en ar dg mo D sm nu dn F3 F4 F5 F6 F7 := by
  refine qM_ext rfl (fun j => ?_) (fun j => zI_ne (by decide)) (fun j => zI_ne (by decide)) (fun j => zI_ne (by decide)) (fun j => zI_ne (by decide)) (fun j => zI_ne (by decide)) (fun c j h => by rw [zI_ne (by omega), qM_o h, qM_o h])
  by_cases e : j = 6
  · subst e; rw [zI_eq]; rfl
  · rw [zI_nk e]
    by_cases h : j < 6 ∨ j = 7 ∨ j = 9 ∨ j = 10 ∨ 18 < j
    · rw [qM_k h, qM_k h]
    · have : j = 6 ∨ j = 8 ∨ j = 11 ∨ j = 12 ∨ j = 13 ∨ j = 14 ∨ j = 15 ∨ j = 16 ∨ j = 17 ∨ j = 18 := by omega
      rcases this with rfl | rfl | rfl | rfl | rfl | rfl | rfl | rfl | rfl | rfl <;> first | rfl | exact absurd rfl e
theorem qM_w8 {x : Int32} : wI (qM m so jo en ar dg mo D sm nu dn F3 F4 F5 F6 F7) 201 8 x = qM m so x en ar dg mo D sm nu dn F3 F4 F5 F6 F7 := by
  refine qM_ext rfl (fun j => ?_) (fun j => zI_ne (by decide)) (fun j => zI_ne (by decide)) (fun j => zI_ne (by decide)) (fun j => zI_ne (by decide)) (fun j => zI_ne (by decide)) (fun c j h => by rw [zI_ne (by omega), qM_o h, qM_o h])
  by_cases e : j = 8
  · subst e; rw [zI_eq]; rfl
  · rw [zI_nk e]
    by_cases h : j < 6 ∨ j = 7 ∨ j = 9 ∨ j = 10 ∨ 18 < j
    · rw [qM_k h, qM_k h]
    · have : j = 6 ∨ j = 8 ∨ j = 11 ∨ j = 12 ∨ j = 13 ∨ j = 14 ∨ j = 15 ∨ j = 16 ∨ j = 17 ∨ j = 18 := by omega
      rcases this with rfl | rfl | rfl | rfl | rfl | rfl | rfl | rfl | rfl | rfl <;> first | rfl | exact absurd rfl e
theorem qM_w11 {x : Int32} : wI (qM m so jo en ar dg mo D sm nu dn F3 F4 F5 F6 F7) 201 11 x = qM m so jo x ar dg mo D sm nu dn F3 F4 F5 F6 F7 := by
  refine qM_ext rfl (fun j => ?_) (fun j => zI_ne (by decide)) (fun j => zI_ne (by decide)) (fun j => zI_ne (by decide)) (fun j => zI_ne (by decide)) (fun j => zI_ne (by decide)) (fun c j h => by rw [zI_ne (by omega), qM_o h, qM_o h])
  by_cases e : j = 11
  · subst e; rw [zI_eq]; rfl
  · rw [zI_nk e]
    by_cases h : j < 6 ∨ j = 7 ∨ j = 9 ∨ j = 10 ∨ 18 < j
    · rw [qM_k h, qM_k h]
    · have : j = 6 ∨ j = 8 ∨ j = 11 ∨ j = 12 ∨ j = 13 ∨ j = 14 ∨ j = 15 ∨ j = 16 ∨ j = 17 ∨ j = 18 := by omega
      rcases this with rfl | rfl | rfl | rfl | rfl | rfl | rfl | rfl | rfl | rfl <;> first | rfl | exact absurd rfl e
theorem qM_w12 {x : Int32} : wI (qM m so jo en ar dg mo D sm nu dn F3 F4 F5 F6 F7) 201 12 x = qM m so jo en x dg mo D sm nu dn F3 F4 F5 F6 F7 := by
  refine qM_ext rfl (fun j => ?_) (fun j => zI_ne (by decide)) (fun j => zI_ne (by decide)) (fun j => zI_ne (by decide)) (fun j => zI_ne (by decide)) (fun j => zI_ne (by decide)) (fun c j h => by rw [zI_ne (by omega), qM_o h, qM_o h])
  by_cases e : j = 12
  · subst e; rw [zI_eq]; rfl
  · rw [zI_nk e]
    by_cases h : j < 6 ∨ j = 7 ∨ j = 9 ∨ j = 10 ∨ 18 < j
    · rw [qM_k h, qM_k h]
    · have : j = 6 ∨ j = 8 ∨ j = 11 ∨ j = 12 ∨ j = 13 ∨ j = 14 ∨ j = 15 ∨ j = 16 ∨ j = 17 ∨ j = 18 := by omega
      rcases this with rfl | rfl | rfl | rfl | rfl | rfl | rfl | rfl | rfl | rfl <;> first | rfl | exact absurd rfl e
theorem qM_w13 {x : Int32} : wI (qM m so jo en ar dg mo D sm nu dn F3 F4 F5 F6 F7) 201 13 x = qM m so jo en ar x mo D sm nu dn F3 F4 F5 F6 F7 := by
  refine qM_ext rfl (fun j => ?_) (fun j => zI_ne (by decide)) (fun j => zI_ne (by decide)) (fun j => zI_ne (by decide)) (fun j => zI_ne (by decide)) (fun j => zI_ne (by decide)) (fun c j h => by rw [zI_ne (by omega), qM_o h, qM_o h])
  by_cases e : j = 13
  · subst e; rw [zI_eq]; rfl
  · rw [zI_nk e]
    by_cases h : j < 6 ∨ j = 7 ∨ j = 9 ∨ j = 10 ∨ 18 < j
    · rw [qM_k h, qM_k h]
    · have : j = 6 ∨ j = 8 ∨ j = 11 ∨ j = 12 ∨ j = 13 ∨ j = 14 ∨ j = 15 ∨ j = 16 ∨ j = 17 ∨ j = 18 := by omega
      rcases this with rfl | rfl | rfl | rfl | rfl | rfl | rfl | rfl | rfl | rfl <;> first | rfl | exact absurd rfl e
theorem qM_w14 {x : Int32} : wI (qM m so jo en ar dg mo D sm nu dn F3 F4 F5 F6 F7) 201 14 x = qM m so jo en ar dg x D sm nu dn F3 F4 F5 F6 F7 := by
  refine qM_ext rfl (fun j => ?_) (fun j => zI_ne (by decide)) (fun j => zI_ne (by decide)) (fun j => zI_ne (by decide)) (fun j => zI_ne (by decide)) (fun j => zI_ne (by decide)) (fun c j h => by rw [zI_ne (by omega), qM_o h, qM_o h])
  by_cases e : j = 14
  · subst e; rw [zI_eq]; rfl
  · rw [zI_nk e]
    by_cases h : j < 6 ∨ j = 7 ∨ j = 9 ∨ j = 10 ∨ 18 < j
    · rw [qM_k h, qM_k h]
    · have : j = 6 ∨ j = 8 ∨ j = 11 ∨ j = 12 ∨ j = 13 ∨ j = 14 ∨ j = 15 ∨ j = 16 ∨ j = 17 ∨ j = 18 := by omega
      rcases this with rfl | rfl | rfl | rfl | rfl | rfl | rfl | rfl | rfl | rfl <;> first | rfl | exact absurd rfl e
theorem qM_w15 {x : Int32} : wI (qM m so jo en ar dg mo D sm nu dn F3 F4 F5 F6 F7) 201 15 x = qM m so jo en ar dg mo x sm nu dn F3 F4 F5 F6 F7 := by
  refine qM_ext rfl (fun j => ?_) (fun j => zI_ne (by decide)) (fun j => zI_ne (by decide)) (fun j => zI_ne (by decide)) (fun j => zI_ne (by decide)) (fun j => zI_ne (by decide)) (fun c j h => by rw [zI_ne (by omega), qM_o h, qM_o h])
  by_cases e : j = 15
  · subst e; rw [zI_eq]; rfl
  · rw [zI_nk e]
    by_cases h : j < 6 ∨ j = 7 ∨ j = 9 ∨ j = 10 ∨ 18 < j
    · rw [qM_k h, qM_k h]
    · have : j = 6 ∨ j = 8 ∨ j = 11 ∨ j = 12 ∨ j = 13 ∨ j = 14 ∨ j = 15 ∨ j = 16 ∨ j = 17 ∨ j = 18 := by omega
      rcases this with rfl | rfl | rfl | rfl | rfl | rfl | rfl | rfl | rfl | rfl <;> first | rfl | exact absurd rfl e
theorem qM_w16 {x : Int32} : wI (qM m so jo en ar dg mo D sm nu dn F3 F4 F5 F6 F7) 201 16 x = qM m so jo en ar dg mo D x nu dn F3 F4 F5 F6 F7 := by
  refine qM_ext rfl (fun j => ?_) (fun j => zI_ne (by decide)) (fun j => zI_ne (by decide)) (fun j => zI_ne (by decide)) (fun j => zI_ne (by decide)) (fun j => zI_ne (by decide)) (fun c j h => by rw [zI_ne (by omega), qM_o h, qM_o h])
  by_cases e : j = 16
  · subst e; rw [zI_eq]; rfl
  · rw [zI_nk e]
    by_cases h : j < 6 ∨ j = 7 ∨ j = 9 ∨ j = 10 ∨ 18 < j
    · rw [qM_k h, qM_k h]
    · have : j = 6 ∨ j = 8 ∨ j = 11 ∨ j = 12 ∨ j = 13 ∨ j = 14 ∨ j = 15 ∨ j = 16 ∨ j = 17 ∨ j = 18 := by omega
      rcases this with rfl | rfl | rfl | rfl | rfl | rfl | rfl | rfl | rfl | rfl <;> first | rfl | exact absurd rfl e
theorem qM_w17 {x : Int32} : wI (qM m so jo en ar dg mo D sm nu dn F3 F4 F5 F6 F7) 201 17 x = qM m so jo en ar dg mo D sm x dn F3 F4 F5 F6 F7 := by
  refine qM_ext rfl (fun j => ?_) (fun j => zI_ne (by decide)) (fun j => zI_ne (by decide)) (fun j => zI_ne (by decide)) (fun j => zI_ne (by decide)) (fun j => zI_ne (by decide)) (fun c j h => by rw [zI_ne (by omega), qM_o h, qM_o h])
  by_cases e : j = 17
  · subst e; rw [zI_eq]; rfl
  · rw [zI_nk e]
    by_cases h : j < 6 ∨ j = 7 ∨ j = 9 ∨ j = 10 ∨ 18 < j
    · rw [qM_k h, qM_k h]
    · have : j = 6 ∨ j = 8 ∨ j = 11 ∨ j = 12 ∨ j = 13 ∨ j = 14 ∨ j = 15 ∨ j = 16 ∨ j = 17 ∨ j = 18 := by omega
      rcases this with rfl | rfl | rfl | rfl | rfl | rfl | rfl | rfl | rfl | rfl <;> first | rfl | exact absurd rfl e
theorem qM_w18 {x : Int32} : wI (qM m so jo en ar dg mo D sm nu dn F3 F4 F5 F6 F7) 201 18 x = qM m so jo en ar dg mo D sm nu x F3 F4 F5 F6 F7 := by
  refine qM_ext rfl (fun j => ?_) (fun j => zI_ne (by decide)) (fun j => zI_ne (by decide)) (fun j => zI_ne (by decide)) (fun j => zI_ne (by decide)) (fun j => zI_ne (by decide)) (fun c j h => by rw [zI_ne (by omega), qM_o h, qM_o h])
  by_cases e : j = 18
  · subst e; rw [zI_eq]; rfl
  · rw [zI_nk e]
    by_cases h : j < 6 ∨ j = 7 ∨ j = 9 ∨ j = 10 ∨ 18 < j
    · rw [qM_k h, qM_k h]
    · have : j = 6 ∨ j = 8 ∨ j = 11 ∨ j = 12 ∨ j = 13 ∨ j = 14 ∨ j = 15 ∨ j = 16 ∨ j = 17 ∨ j = 18 := by omega
      rcases this with rfl | rfl | rfl | rfl | rfl | rfl | rfl | rfl | rfl | rfl <;> first | rfl | exact absurd rfl e
theorem qM_a3 {i : Nat} {x : Int32} : wI (qM m so jo en ar dg mo D sm nu dn F3 F4 F5 F6 F7) 203 i x = qM m so jo en ar dg mo D sm nu dn (up F3 i x) F4 F5 F6 F7 := by
  refine qM_ext rfl (fun j => zI_ne (by decide)) (fun j => ?_) (fun j => zI_ne (by decide)) (fun j => zI_ne (by decide)) (fun j => zI_ne (by decide)) (fun j => zI_ne (by decide)) (fun c j h => by rw [zI_ne (by omega), qM_o h, qM_o h])
  show _ = up F3 i x j
  by_cases e : j = i
  · subst e; rw [zI_eq, up_eq]
  · rw [zI_nk e, up_ne _ _ e]; rfl
theorem qM_a4 {i : Nat} {x : Int32} : wI (qM m so jo en ar dg mo D sm nu dn F3 F4 F5 F6 F7) 204 i x = qM m so jo en ar dg mo D sm nu dn F3 (up F4 i x) F5 F6 F7 := by
  refine qM_ext rfl (fun j => zI_ne (by decide)) (fun j => zI_ne (by decide)) (fun j => ?_) (fun j => zI_ne (by decide)) (fun j => zI_ne (by decide)) (fun j => zI_ne (by decide)) (fun c j h => by rw [zI_ne (by omega), qM_o h, qM_o h])
  show _ = up F4 i x j
  by_cases e : j = i
  · subst e; rw [zI_eq, up_eq]
  · rw [zI_nk e, up_ne _ _ e]; rfl
theorem qM_a5 {i : Nat} {x : Int32} : wI (qM m so jo en ar dg mo D sm nu dn F3 F4 F5 F6 F7) 205 i x = qM m so jo en ar dg mo D sm nu dn F3 F4 (up F5 i x) F6 F7 := by
  refine qM_ext rfl (fun j => zI_ne (by decide)) (fun j => zI_ne (by decide)) (fun j => zI_ne (by decide)) (fun j => ?_) (fun j => zI_ne (by decide)) (fun j => zI_ne (by decide)) (fun c j h => by rw [zI_ne (by omega), qM_o h, qM_o h])
  show _ = up F5 i x j
  by_cases e : j = i
  · subst e; rw [zI_eq, up_eq]
  · rw [zI_nk e, up_ne _ _ e]; rfl
theorem qM_a6 {i : Nat} {x : Int32} : wI (qM m so jo en ar dg mo D sm nu dn F3 F4 F5 F6 F7) 206 i x = qM m so jo en ar dg mo D sm nu dn F3 F4 F5 (up F6 i x) F7 := by
  refine qM_ext rfl (fun j => zI_ne (by decide)) (fun j => zI_ne (by decide)) (fun j => zI_ne (by decide)) (fun j => zI_ne (by decide)) (fun j => ?_) (fun j => zI_ne (by decide)) (fun c j h => by rw [zI_ne (by omega), qM_o h, qM_o h])
  show _ = up F6 i x j
  by_cases e : j = i
  · subst e; rw [zI_eq, up_eq]
  · rw [zI_nk e, up_ne _ _ e]; rfl
theorem qM_a7 {i : Nat} {x : Int32} : wI (qM m so jo en ar dg mo D sm nu dn F3 F4 F5 F6 F7) 207 i x = qM m so jo en ar dg mo D sm nu dn F3 F4 F5 F6 (up F7 i x) := by
  refine qM_ext rfl (fun j => zI_ne (by decide)) (fun j => zI_ne (by decide)) (fun j => zI_ne (by decide)) (fun j => zI_ne (by decide)) (fun j => zI_ne (by decide)) (fun j => ?_) (fun c j h => by rw [zI_ne (by omega), qM_o h, qM_o h])
  show _ = up F7 i x j
  by_cases e : j = i
  · subst e; rw [zI_eq, up_eq]
  · rw [zI_nk e, up_ne _ _ e]; rfl
end QM

/-- a stack, its top first, in two rows -/
def SA (F3 F4 : Nat → Int32) : List (Int × Int) → Prop
  | [] => True
  | q :: S => (F3 S.length = i3 q.1 ∧ F4 S.length = i3 q.2 ∧ 0 ≤ q.1 ∧ q.1 ≤ 30) ∧ SA F3 F4 S
theorem SA_up {F3 F4 : Nat → Int32} {x y : Int32} : ∀ (S : List (Int × Int)) (i : Nat), S.length ≤ i → SA F3 F4 S → SA (up F3 i x) (up F4 i y) S
  | [], _, _, _ => trivial
  | q :: S, i, h, hS => ⟨⟨by rw [up_ne _ _ (by simp at h; omega)]; exact hS.1.1, by rw [up_ne _ _ (by simp at h; omega)]; exact hS.1.2.1, hS.1.2.2⟩, SA_up S i (by simp at h; omega) hS.2⟩
theorem SA_up3 {F3 F4 : Nat → Int32} {x : Int32} : ∀ (S : List (Int × Int)) (i : Nat), S.length ≤ i → SA F3 F4 S → SA (up F3 i x) F4 S
  | [], _, _, _ => trivial
  | q :: S, i, h, hS => ⟨⟨by rw [up_ne _ _ (by simp at h; omega)]; exact hS.1.1, hS.1.2⟩, SA_up3 S i (by simp at h; omega) hS.2⟩
def JA (F5 : Nat → Int32) : List Int → Prop
  | [] => True
  | j :: J => F5 J.length = i3 j ∧ JA F5 J
theorem JA_up {F5 : Nat → Int32} {x : Int32} : ∀ (J : List Int) (i : Nat), J.length ≤ i → JA F5 J → JA (up F5 i x) J
  | [], _, _, _ => trivial
  | j :: J, i, h, hJ => ⟨by rw [up_ne _ _ (by simp at h; omega)]; exact hJ.1, JA_up J i (by simp at h; omega) hJ.2⟩
/-- the memory at M holds the reading: what is to come, jumps, code, the argument so far, digit, month, days, number -/
def RQ (m : Mm) (S : List (Int × Int)) (J : List Int) (C : Cx) (ar dg mo : Int) (D : Bool) (sm nu dn : Int) (M : Mm) : Prop :=
  ∃ F3 F4 F5 F6 F7 : Nat → Int32, M = qM m (i3 S.length) (i3 J.length) (i3 C.length) (i3 ar) (i3 dg) (i3 mo) (b3 D) (i3 sm) (i3 nu) (i3 dn) F3 F4 F5 F6 F7 ∧ SA F3 F4 S ∧ JA F5 J ∧ CA F6 F7 0 C
def QF (m : Mm) (dg mo nu dn : Int) (M : Mm) : Prop := ∃ (S : List (Int × Int)) (J : List Int) (C : Cx) (ar : Int) (D : Bool) (sm : Int), RQ m S J C ar dg mo D sm nu dn M
theorem RQ.qf {m M : Mm} {S : List (Int × Int)} {J : List Int} {C : Cx} {ar dg mo : Int} {D : Bool} {sm nu dn : Int} (h : RQ m S J C ar dg mo D sm nu dn M) : QF m dg mo nu dn M := ⟨S, J, C, ar, D, sm, h⟩
section MP
variable {m M : Mm} {S : List (Int × Int)} {J : List Int} {C : Cx} {ar dg mo : Int} {D : Bool} {sm nu dn : Int}
theorem CA.emit {F6 F7 : Nat → Int32} {C : Cx} {k x : Int} (h : CA F6 F7 0 C) : CA (up F6 C.length (i3 k)) (up F7 C.length (i3 x)) 0 (C ++ [(k, x)]) := by
  refine h.app (fun i hi => ⟨up_ne _ _ (by omega), up_ne _ _ (by omega)⟩) ?_
  rw [Nat.zero_add]
  exact CA.one
theorem mp_push (h : RQ m S J C ar dg mo D sm nu dn M) (hS : S.length < 500) {w i : Int} (hw : 0 ≤ w ∧ w ≤ 30) : ∃ M', f_Mod_push (i3 w) (i3 i) M = some M' ∧ RQ m ((w, i) :: S) J C ar dg mo D sm nu dn M' := by
  obtain ⟨F3, F4, F5, F6, F7, rfl, h1, h2, h3⟩ := h
  have hin : zIn (i3 (S.length : Int)) 500 := (i3_in ⟨by omega, by omega⟩).mpr ⟨by omega, by omega⟩
  have hix : zIx (i3 (S.length : Int)) = S.length := by rw [i3_ix ⟨by omega, by omega⟩, Int.toNat_natCast]
  refine ⟨_, ?_, up F3 S.length (i3 w), up F4 S.length (i3 i), F5, F6, F7, rfl, ⟨⟨up_eq _ _ _, up_eq _ _ _, hw⟩, SA_up S _ (Nat.le_refl _) h1⟩, h2, h3⟩
  unfold f_Mod_push
  simp only [zLet, qM_6, if_pos hin, hix, qM_a3, qM_a4, i3_add1, qM_w6]
  rfl
theorem mp_emits (h : RQ m S J C ar dg mo D sm nu dn M) (hC : C.length < 80) {k x : Int} : ∃ M', f_Mod_emits (i3 k) (i3 x) M = some M' ∧ RQ m S J (C ++ [(k, x)]) ar dg mo D sm nu dn M' := by
  obtain ⟨F3, F4, F5, F6, F7, rfl, h1, h2, h3⟩ := h
  have hin : zIn (i3 (C.length : Int)) 80 := (i3_in ⟨by omega, by omega⟩).mpr ⟨by omega, by omega⟩
  have hix : zIx (i3 (C.length : Int)) = C.length := by rw [i3_ix ⟨by omega, by omega⟩, Int.toNat_natCast]
  refine ⟨_, ?_, F3, F4, F5, up F6 C.length (i3 k), up F7 C.length (i3 x), rfl, h1, h2, h3.emit⟩
  unfold f_Mod_emits
  simp only [zLet, qM_11, if_pos hin, hix, qM_a6, qM_a7, i3_add1, qM_w11, List.length_append, List.length_cons, List.length_nil]
  rfl
theorem mp_pop {q : Int × Int} (h : RQ m (q :: S) J C ar dg mo D sm nu dn M) : zI M 201 6 - 1 = i3 S.length ∧ RQ m S J C ar dg mo D sm nu dn (wI M 201 6 (i3 S.length)) := by
  obtain ⟨F3, F4, F5, F6, F7, rfl, h1, h2, h3⟩ := h
  refine ⟨?_, F3, F4, F5, F6, F7, by rw [qM_w6], h1.2, h2, h3⟩
  rw [qM_6, i3_sub1]
  congr 1
  simp
/-- the top of what is to come -/
theorem mp_top {q : Int × Int} (h : RQ m (q :: S) J C ar dg mo D sm nu dn M) (hS : S.length < 500) : zI M 201 6 = i3 (S.length + 1 : Nat) ∧ zIn (zI M 201 6 - 1) 500 ∧ zI M 203 (zIx (zI M 201 6 - 1)) = i3 q.1 ∧ zI M 204 (zIx (zI M 201 6 - 1)) = i3 q.2 ∧ 0 ≤ q.1 ∧ q.1 ≤ 30 := by
  obtain ⟨F3, F4, F5, F6, F7, rfl, h1, h2, h3⟩ := h
  have e : zI (qM m (i3 ((q :: S).length : Nat)) (i3 J.length) (i3 C.length) (i3 ar) (i3 dg) (i3 mo) (b3 D) (i3 sm) (i3 nu) (i3 dn) F3 F4 F5 F6 F7) 201 6 - 1 = i3 (S.length : Int) := by
    rw [qM_6, i3_sub1]
    congr 1
    simp
  have hix : zIx (i3 (S.length : Int)) = S.length := by rw [i3_ix ⟨by omega, by omega⟩, Int.toNat_natCast]
  rw [e, hix]
  exact ⟨rfl, (i3_in ⟨by omega, by omega⟩).mpr ⟨by omega, by omega⟩, h1.1.1, h1.1.2.1, h1.1.2.2⟩
theorem mp_jumps (h : RQ m S J C ar dg mo D sm nu dn M) (hJ : J.length < 100) (hC : C.length < 80) {k : Int} : ∃ M', f_Mod_jumps (i3 k) M = some M' ∧ RQ m S ((C.length : Int) :: J) (C ++ [(k, 0)]) ar dg mo D sm nu dn M' := by
  obtain ⟨F3, F4, F5, F6, F7, rfl, h1, h2, h3⟩ := h
  have hin : zIn (i3 (J.length : Int)) 100 := (i3_in ⟨by omega, by omega⟩).mpr ⟨by omega, by omega⟩
  have hix : zIx (i3 (J.length : Int)) = J.length := by rw [i3_ix ⟨by omega, by omega⟩, Int.toNat_natCast]
  have h9 : RQ m S ((C.length : Int) :: J) C ar dg mo D sm nu dn (qM m (i3 S.length) (i3 ((J.length + 1 : Nat) : Int)) (i3 C.length) (i3 ar) (i3 dg) (i3 mo) (b3 D) (i3 sm) (i3 nu) (i3 dn) F3 F4 (up F5 J.length (i3 C.length)) F6 F7) :=
    ⟨F3, F4, up F5 J.length (i3 C.length), F6, F7, rfl, h1, ⟨up_eq _ _ _, JA_up J _ (Nat.le_refl _) h2⟩, h3⟩
  obtain ⟨M', e, h10⟩ := mp_emits h9 hC (k := k) (x := 0)
  refine ⟨M', ?_, h10⟩
  unfold f_Mod_jumps
  simp only [zLet, qM_8, qM_11, if_pos hin, hix, qM_a5, i3_add1, qM_w8, i3_z]
  rw [show i3 ((J.length : Int) + 1) = i3 ((J.length + 1 : Nat) : Int) from rfl, e]
  rfl
theorem mp_lands {A B : Cx} {k y : Int} (h : RQ m S ((A.length : Int) :: J) (A ++ [(k, y)] ++ B) ar dg mo D sm nu dn M) (hJ : J.length < 100) (hC : A.length < 80) : ∃ M', f_Mod_lands M = some M' ∧ RQ m S J (A ++ [(k, ((A.length + 1 + B.length : Nat) : Int))] ++ B) ar dg mo D sm nu dn M' := by
  obtain ⟨F3, F4, F5, F6, F7, rfl, h1, h2, h3⟩ := h
  have hin : zIn (i3 (J.length : Int)) 100 := (i3_in ⟨by omega, by omega⟩).mpr ⟨by omega, by omega⟩
  have hix : zIx (i3 (J.length : Int)) = J.length := by rw [i3_ix ⟨by omega, by omega⟩, Int.toNat_natCast]
  have hin2 : zIn (i3 (A.length : Int)) 80 := (i3_in ⟨by omega, by omega⟩).mpr ⟨by omega, by omega⟩
  have hix2 : zIx (i3 (A.length : Int)) = A.length := by rw [i3_ix ⟨by omega, by omega⟩, Int.toNat_natCast]
  have hl : (A ++ [(k, y)] ++ B).length = A.length + 1 + B.length := by simp; omega
  have hl2 : (A ++ [(k, ((A.length + 1 + B.length : Nat) : Int))] ++ B).length = A.length + 1 + B.length := by simp; omega
  have ej : i3 (((A.length : Int) :: J).length : Nat) - 1 = i3 (J.length : Int) := by
    rw [i3_sub1]
    congr 1
    simp
  refine ⟨_, ?_, F3, F4, F5, F6, up F7 A.length (i3 ((A.length + 1 + B.length : Nat) : Int)), rfl, h1, h2.2, ?_⟩
  · unfold f_Mod_lands
    simp only [zLet, qM_8, ej, qM_w8, if_pos hin, hix, qM_5, h2.1, if_pos hin2, hix2, qM_11, qM_a7, hl, hl2]
  · have := h3.set (x := ((A.length + 1 + B.length : Nat) : Int))
    rw [Nat.zero_add] at this
    exact this
def cEnd (D : Bool) (sm : Int) : Cx := if D = true ∧ sm ≠ 0 then [(5, 5000 + sm)] else []
theorem mp_ends (h : RQ m S J C ar dg mo D sm nu dn M) (hC : C.length < 80) (hs : -1000000 ≤ sm ∧ sm ≤ 1000000) : ∃ M', f_Mod_endsDays M = some M' ∧ RQ m S J (C ++ cEnd D sm) ar dg mo false 0 nu dn M' := by
  have fin : ∀ {C' : Cx} {M1 : Mm}, RQ m S J C' ar dg mo D sm nu dn M1 → RQ m S J C' ar dg mo false 0 nu dn (wI (wI M1 201 15 0) 201 16 0) := by
    rintro C' M1 ⟨F3, F4, F5, F6, F7, rfl, h1, h2, h3⟩
    exact ⟨F3, F4, F5, F6, F7, by rw [qM_w15, qM_w16]; rfl, h1, h2, h3⟩
  have e15 : zI M 201 15 = b3 D ∧ zI M 201 16 = i3 sm := by
    obtain ⟨F3, F4, F5, F6, F7, rfl, h1, h2, h3⟩ := h
    exact ⟨rfl, rfl⟩
  unfold f_Mod_endsDays cEnd
  simp only [zLet, e15.1, e15.2]
  rw [i3_z]
  by_cases h1 : D = true
  · by_cases h2 : sm = 0
    · refine ⟨_, ?_, by rw [if_neg (fun q => q.2 h2), List.append_nil]; exact fin h⟩
      rw [it_b0, if_neg (by rw [h1]; decide), it_eq ⟨by omega, by omega⟩ ⟨by decide, by decide⟩, if_pos h2]
      rfl
    · obtain ⟨M1, e, h9⟩ := mp_emits h hC (k := 5) (x := 5000 + sm)
      refine ⟨_, ?_, by rw [if_pos ⟨h1, h2⟩]; exact fin h9⟩
      rw [it_b0, if_neg (by rw [h1]; decide), it_eq ⟨by omega, by omega⟩ ⟨by decide, by decide⟩, if_neg h2]
      rw [show (5 : Int32) = i3 5 from rfl, show (5000 : Int32) = i3 5000 from rfl, i3_add, e, zBV_some]
      rfl
  · refine ⟨_, ?_, by rw [if_neg (fun q => h1 q.1), List.append_nil]; exact fin h⟩
    rw [it_b0, if_pos (by simpa using h1)]
    rfl
end MP
