/-! THE CLASS READS A RULE PLAINLY: moves, days -/
section PLN3
variable {m : Mm} {q y t : Nat} {T : List Int}
theorem pln_move (h : LT m q T y t) {c : Int} {r r1 : List Int} {v : Int} (hs : Sf T r) (h0 : mvK c ≠ 0) (hp : pPart (mvK c) (mvF c) r = .inr ([(mvK c, v)], r1)) {d : Int} (hd : -1 ≤ d ∧ d < 400) (lv : Bool) :
    f_Pla_readMove (i3 c) (b3 lv) (lM m (i3 (pl T r)) (i3 d)) = some (lM m (i3 (pl T r1)) (i3 (if lv then sMove y t (mvK c) v d else d))) ∧ Sf T r1 := by
  have hcs : c = 62 ∨ c = 60 ∨ c = 93 ∨ c = 91 ∨ c = 79 ∨ c = 81 ∨ c = 88 := by
    unfold mvK at h0
    by_cases q1 : c = 62
    · omega
    by_cases q2 : c = 60
    · omega
    by_cases q3 : c = 93
    · omega
    by_cases q4 : c = 91
    · omega
    by_cases q5 : c = 79
    · omega
    by_cases q6 : c = 81
    · omega
    by_cases q7 : c = 88
    · omega
    simp [q1, q2, q3, q4, q5, q6, q7] at h0
  obtain ⟨v', e1, hf⟩ := part_ne hp
  cases e1
  have W : ∀ {p dd : Int32}, Wk (lM m p dd) 165 y t := fun {p dd} => h.lt.2.2.2.2
  have D : ∀ {p : Int32}, zI (lM m p (i3 d)) 165 5 = i3 d := fun {p} => lM_d
  have wk : mvF c = [119] → f_Pla_nextNumber 1 (lM m (i3 (pl T r)) (i3 d)) = some (i3 v, lM m (i3 (pl T r1)) (i3 d)) ∧ Sf T r1 ∧ 0 ≤ v ∧ v ≤ 6 := by
    intro e
    rw [e] at hf
    have en := fl_wd hf
    obtain ⟨q1, q2⟩ := pln_num h hs (d := i3 d) (k := 1) (by decide)
    rw [en] at q1 q2
    rw [pFlds_w] at hf
    obtain ⟨x, r2, h1, h2⟩ := pB_inv hf
    obtain ⟨_, _, _, a1, a2⟩ := pDig_inv h1
    cases h2
    exact ⟨q1, q2, by omega, by omega⟩
  have nk : mvF c = [] → r1 = r ∧ v = 0 := by
    intro e
    rw [e] at hf
    cases hf
    exact ⟨rfl, rfl⟩
  unfold f_Pla_readMove
  rcases hcs with rfl | rfl | rfl | rfl | rfl | rfl | rfl
  · obtain ⟨k1, k2, k3⟩ := wk rfl
    refine ⟨?_, k2⟩
    simp only [zLet]
    rw [if_pos (show i3 62 = 62 by decide), if_neg (show ¬ (1 : Int32) = 0 by decide), k1, zBI_some]
    cases lv with
    | false => exact if_pos (by decide)
    | true =>
      rw [if_neg (show ¬ b3 true = 0 by decide), if_neg (show ¬ i3 62 = 60 by decide), if_pos (show i3 62 = 62 by decide), wal_behind W D hd k3, zBV_some, lM_wd]
      rfl
  · obtain ⟨k1, k2, k3⟩ := wk rfl
    refine ⟨?_, k2⟩
    simp only [zLet]
    rw [if_neg (show ¬ i3 60 = 62 by decide), if_pos (show i3 60 = 60 by decide), if_neg (show ¬ (1 : Int32) = 0 by decide), k1, zBI_some]
    cases lv with
    | false => exact if_pos (by decide)
    | true =>
      rw [if_neg (show ¬ b3 true = 0 by decide), if_pos (show i3 60 = 60 by decide), wal_ahead W D hd k3, zBV_some, lM_wd]
      rfl
  · obtain ⟨k1, k2, k3⟩ := wk rfl
    refine ⟨?_, k2⟩
    simp only [zLet]
    rw [if_neg (show ¬ i3 93 = 62 by decide), if_neg (show ¬ i3 93 = 60 by decide), if_pos (show i3 93 = 93 by decide), if_neg (show ¬ (1 : Int32) = 0 by decide), k1, zBI_some]
    cases lv with
    | false => exact if_pos (by decide)
    | true =>
      rw [if_neg (show ¬ b3 true = 0 by decide), if_neg (show ¬ i3 93 = 60 by decide), if_neg (show ¬ i3 93 = 62 by decide), if_neg (show ¬ i3 93 = 79 by decide), if_neg (show ¬ i3 93 = 81 by decide), if_neg (show ¬ i3 93 = 91 by decide), if_pos (show i3 93 = 93 by decide), wal_notahead W D hd k3, zBV_some, lM_wd]
      rfl
  · obtain ⟨k1, k2, k3⟩ := wk rfl
    refine ⟨?_, k2⟩
    simp only [zLet]
    rw [if_neg (show ¬ i3 91 = 62 by decide), if_neg (show ¬ i3 91 = 60 by decide), if_neg (show ¬ i3 91 = 93 by decide), if_pos (show i3 91 = 91 by decide), if_neg (show ¬ (1 : Int32) = 0 by decide), k1, zBI_some]
    cases lv with
    | false => exact if_pos (by decide)
    | true =>
      rw [if_neg (show ¬ b3 true = 0 by decide), if_neg (show ¬ i3 91 = 60 by decide), if_neg (show ¬ i3 91 = 62 by decide), if_neg (show ¬ i3 91 = 79 by decide), if_neg (show ¬ i3 91 = 81 by decide), if_pos (show i3 91 = 91 by decide), wal_notbehind W D hd k3, zBV_some, lM_wd]
      rfl
  · obtain ⟨rfl, rfl⟩ := nk rfl
    refine ⟨?_, hs⟩
    simp only [zLet]
    rw [if_neg (show ¬ i3 79 = 62 by decide), if_neg (show ¬ i3 79 = 60 by decide), if_neg (show ¬ i3 79 = 93 by decide), if_neg (show ¬ i3 79 = 91 by decide), if_pos trivial]
    cases lv with
    | false => exact if_pos (by decide)
    | true =>
      rw [if_neg (show ¬ b3 true = 0 by decide), if_neg (show ¬ i3 79 = 60 by decide), if_neg (show ¬ i3 79 = 62 by decide), if_pos (show i3 79 = 79 by decide), show (14 : Int32) = i3 14 from rfl, wal_moon W D hd ⟨by decide, by decide⟩, zBV_some, lM_wd]
      rfl
  · obtain ⟨rfl, rfl⟩ := nk rfl
    refine ⟨?_, hs⟩
    simp only [zLet]
    rw [if_neg (show ¬ i3 81 = 62 by decide), if_neg (show ¬ i3 81 = 60 by decide), if_neg (show ¬ i3 81 = 93 by decide), if_neg (show ¬ i3 81 = 91 by decide), if_pos trivial]
    cases lv with
    | false => exact if_pos (by decide)
    | true =>
      have wm := wal_moon (g := 0) (W (p := i3 (pl T r1)) (dd := i3 d)) D hd ⟨by decide, by decide⟩
      have wm' : f_Wal_toMoonOfAge 165 0 (lM m (i3 (pl T r1)) (i3 d)) = _ := wm
      rw [if_neg (show ¬ b3 true = 0 by decide), if_neg (show ¬ i3 81 = 60 by decide), if_neg (show ¬ i3 81 = 62 by decide), if_neg (show ¬ i3 81 = 79 by decide), if_pos (show i3 81 = 81 by decide), wm', zBV_some, lM_wd]
      rfl
  · obtain ⟨rfl, rfl⟩ := nk rfl
    refine ⟨?_, hs⟩
    simp only [zLet]
    rw [if_neg (show ¬ i3 88 = 62 by decide), if_neg (show ¬ i3 88 = 60 by decide), if_neg (show ¬ i3 88 = 93 by decide), if_neg (show ¬ i3 88 = 91 by decide), if_pos trivial]
    cases lv with
    | false => exact if_pos (by decide)
    | true =>
      rw [if_neg (show ¬ b3 true = 0 by decide), if_neg (show ¬ i3 88 = 60 by decide), if_neg (show ¬ i3 88 = 62 by decide), if_neg (show ¬ i3 88 = 79 by decide), if_neg (show ¬ i3 88 = 81 by decide), if_neg (show ¬ i3 88 = 91 by decide), if_neg (show ¬ i3 88 = 93 by decide), wal_none, zBV_some, lM_wd]
      rfl
theorem pDays_dig {u : Nat} {σ c : Int} {r : List Int} (hc : ¬ (c = 43 ∨ c = 45)) : pDays u σ (c :: r) = .inr (σ, c :: r) := by
  cases u with
  | zero => rfl
  | succ u => exact if_neg hc
theorem pln_days (h : LT m q T y t) {u : Nat} {σ' : Int} {s r : List Int} (hs : Sf T s) (hu : s.length < u) (hp : pDays u 0 s = .inr (σ', r)) (hr : ¬ (48 ≤ r.headD 0 ∧ r.headD 0 ≤ 57)) {d : Int} (hd : -1 ≤ d ∧ d < 400) (lv : Bool) :
    f_Pla_readDays (b3 lv) (lM m (i3 (pl T s)) (i3 d)) = some (lM m (i3 (pl T r)) (i3 (if lv then sLater y d σ' else d))) ∧ Sf T r := by
  have h40 := h.2.2.2.1.1
  have W : ∀ {p dd : Int32}, Wk (lM m p dd) 165 y t := fun {p dd} => h.lt.2.2.2.2
  have D : ∀ {p : Int32}, zI (lM m p (i3 d)) 165 5 = i3 d := fun {p} => lM_d
  have both : ∀ (Q : Option Mm → Prop), (∀ X, X = some (lM m (i3 (pl T r)) (i3 (if lv then sLater y d σ' else d))) ∧ Sf T r → Q X) → Q (f_Pla_readDays (b3 lv) (lM m (i3 (pl T s)) (i3 d))) := by
    intro Q hQ
    rw [e_Pla_readDays]
    refine ex_zLp2 (Q := Q) (fun j x1 x2 mm => ∃ (σ : Int) (i u : Nat) (s1 : List Int), x1 = i3 σ ∧ x2 = i3 i ∧ j = s1.length ∧ mm = lM m (i3 (pl T s1)) (i3 d) ∧ Sf T s1 ∧ s1.length < u ∧ pDays u σ s1 = .inr (σ', r) ∧ 2 * i + s1.length ≤ s.length ∧ (-366 * (i : Int) ≤ σ ∧ σ ≤ 366 * (i : Int))) ?_ zFu s.length _ _ _ ⟨0, 0, u, s, rfl, rfl, rfl, rfl, hs, hu, hp, by omega, by omega, by omega⟩ (by have := hs.le; unfold zFu; omega)
    rintro R j x1 x2 mm ⟨σ, i, u, s1, rfl, rfl, rfl, rfl, hs1, hu1, hp1, hi, hσ⟩
    obtain ⟨g, e2⟩ := pln_at h hs1 (d := i3 d)
    have hh := pln_h h hs1
    have hle := hs.le
    unfold l_Pla_readDays_0
    simp only [zLet]
    rw [if_neg (show ¬ (40 : Int32) ≤ i3 (i : Int) by rw [show (40 : Int32) = i3 40 from rfl, i3_le ⟨by decide, by decide⟩ ⟨by omega, by omega⟩]; omega), g, g, e2, zBP_some, zBP_some]
    have fin : ¬ (s1.headD 0 = 43 ∨ s1.headD 0 = 45) → Q (if b3 lv = 0 then some (lM m (i3 (pl T s1)) (i3 d)) else zBV (f_Wal_toLater 165 (i3 σ) (lM m (i3 (pl T s1)) (i3 d))) fun m8 => some m8) := by
      intro hne
      have e3 : σ' = σ ∧ r = s1 := by
        cases s1 with
        | nil =>
          obtain ⟨u', rfl⟩ : ∃ u', u = u' + 1 := ⟨u - 1, by omega⟩
          cases hp1
          exact ⟨rfl, rfl⟩
        | cons c r' =>
          rw [pDays_dig (show ¬ (c = 43 ∨ c = 45) from hne)] at hp1
          cases hp1
          exact ⟨rfl, rfl⟩
      obtain ⟨rfl, rfl⟩ := e3
      refine hQ _ ⟨?_, hs1⟩
      cases lv with
      | false => exact if_pos (by decide)
      | true =>
        rw [if_neg (show ¬ b3 true = 0 by decide), wal_toLater W D hd ⟨by omega, by omega⟩, zBV_some, lM_wd]
        rfl
    by_cases hpm : s1.headD 0 = 43 ∨ s1.headD 0 = 45
    case neg =>
      left
      rw [if_neg (show ¬ i3 (s1.headD 0) = 43 by rw [show (43 : Int32) = i3 43 from rfl, i3_eq ⟨by omega, by omega⟩ ⟨by decide, by decide⟩]; omega), if_neg (show ¬ i3 (s1.headD 0) = 45 by rw [show (45 : Int32) = i3 45 from rfl, i3_eq ⟨by omega, by omega⟩ ⟨by decide, by decide⟩]; omega)]
      exact fin hpm
    cases s1 with
    | nil => exact absurd hpm (by decide)
    | cons c r' =>
      have hpm : c = 43 ∨ c = 45 := hpm
      have hr' := hs1.tl.1
      obtain ⟨u', rfl⟩ : ∃ u', u = u' + 1 := ⟨u - 1, by omega⟩
      unfold pDays at hp1
      rw [if_pos hpm] at hp1
      obtain ⟨x, r2, hx, hp2⟩ := pB_inv hp1
      obtain ⟨e, rfl, rfl, a1, a2⟩ := dig_in (by decide) (by decide) hx
      have hr2 := hr'.tl.1
      have hpl := pMore_len 2 (e - 48) r2
      have hpb := pMore_bd 2 (e - 48) r2 (by omega)
      have hnd : ¬ (48 ≤ (pMore 2 (e - 48) r2).2.headD 0 ∧ (pMore 2 (e - 48) r2).2.headD 0 ≤ 57) := by
        intro hz
        generalize (pMore 2 (e - 48) r2).2 = p2 at hp2 hz
        cases p2 with
        | nil => exact absurd hz (by decide)
        | cons z p3 =>
          have hz : 48 ≤ z ∧ z ≤ 57 := hz
          rw [pDays_dig (by omega)] at hp2
          cases hp2
          exact hr hz
      have enum : pNum 3 0 (e :: r2) = pMore 2 (e - 48) r2 := by
        rw [pNum_cons, if_pos ⟨a1, a2⟩, show 10 * 0 + (e - 48) = e - 48 by omega]
        exact num_more 2 _ r2 hnd
      obtain ⟨n1, n2⟩ := pln_num h hr' (d := i3 d) (k := 3) (by decide)
      rw [enum] at n1 n2
      have n1' : f_Pla_nextNumber 3 (lM m (i3 (pl T (e :: r2))) (i3 d)) = _ := n1
      right
      have sgn := pln_sign h hs1 (d := i3 d)
      simp only [List.length_cons] at hi hu1 hle ⊢
      refine ⟨_, _, _, (pMore 2 (e - 48) r2).2.length, by omega, ⟨if c = 43 then σ + (pMore 2 (e - 48) r2).1 else σ - (pMore 2 (e - 48) r2).1, i + 1, u', (pMore 2 (e - 48) r2).2, rfl, rfl, rfl, rfl, n2, by omega, hp2, by omega, by split <;> omega⟩, ?_⟩
      rw [sgn, zBI_some, List.headD_cons]
      rcases hpm with rfl | rfl
      · rw [if_pos (show i3 43 = 43 by decide), if_pos (show i3 43 = 43 by decide), n1', zBI_some]
        rw [if_neg (show ¬ (1 : Int32) = 0 by decide), i3_add, i3_add1, if_pos rfl]
        rfl
      · rw [if_neg (show ¬ i3 45 = 43 by decide), if_pos (show i3 45 = 45 by decide), if_neg (show ¬ i3 45 = 43 by decide), n1', zBI_some]
        rw [if_pos trivial, i3_neg, i3_add, i3_add1, if_neg (show ¬ (45 : Int) = 43 by decide)]
        rfl
  exact both (fun X => X = some (lM m (i3 (pl T r)) (i3 (if lv then sLater y d σ' else d))) ∧ Sf T r) (fun X hX => hX)
end PLN3
