/-! WHAT THE CONSTRUCTORS MAKE: a memory of zeros, by the list of its references; made by the generator -/
def Lk : List (Nat × Nat × Nat) → Nat → Nat → Nat
  | [], _, _ => 0
  | e :: l, b, j => if b = e.1 ∧ j = e.2.1 then e.2.2 else Lk l b j
def mkM (n : Nat) (l : List (Nat × Nat × Nat)) : Mm := (fun _ _ => 0, Lk l, fun _ _ => 0, n)
def Okl (n : Nat) (l : List (Nat × Nat × Nat)) : Prop := ∀ e, e ∈ l → e.1 < n
theorem Okl.c {n n' a k q : Nat} {l : List (Nat × Nat × Nat)} (h : Okl n l) (ha : a < n') (hn : n ≤ n') : Okl n' ((a, k, q) :: l) := fun e he => by
  rcases List.mem_cons.mp he with rfl | he
  · exact ha
  · exact Nat.lt_of_lt_of_le (h e he) hn
theorem Okl.s {n n' : Nat} {l : List (Nat × Nat × Nat)} (h : Okl n l) (hn : n ≤ n') : Okl n' l := fun e he => Nat.lt_of_lt_of_le (h e he) hn
theorem Lk_no {n j : Nat} : ∀ {l : List (Nat × Nat × Nat)}, (∀ e, e ∈ l → e.1 ≠ n) → Lk l n j = 0 := by
  intro l
  induction l with
  | nil => intro _; rfl
  | cons e l ih =>
    intro h
    have h1 : n ≠ e.1 := fun c => h e List.mem_cons_self c.symm
    exact (if_neg (fun c => h1 c.1)).trans (ih fun e' he => h e' (List.mem_cons_of_mem _ he))
theorem zNew_mk {n : Nat} {l : List (Nat × Nat × Nat)} (h : Okl n l) : zNew (mkM n l) n = mkM (n + 1) l := by
  have e : (fun b j => if b = n then 0 else Lk l b j) = Lk l := by
    funext b j
    by_cases hb : b = n
    · rw [if_pos hb, hb, Lk_no fun e he c => absurd (h e he) (by omega)]
    · rw [if_neg hb]
  have e0 : ∀ {α : Type} (z : α), (fun b _ => if b = n then z else z : Nat → Nat → α) = fun _ _ => z := by
    intro α z; funext b j; exact ite_self z
  show ((fun b j => if b = n then 0 else (0 : Int32)), (fun b j => if b = n then 0 else Lk l b j), (fun b j => if b = n then 0 else (0 : Int64)), n + 1) = _
  rw [e, e0, e0]
  rfl
def rowsL (n : Nat) : Nat → List (Nat × Nat × Nat) → List (Nat × Nat × Nat)
  | 0, l => l
  | k + 1, l => (n, k, n + 1 + k) :: rowsL n k l
theorem Lk_rows {n b j : Nat} {l : List (Nat × Nat × Nat)} : ∀ k, Lk (rowsL n k l) b j = if b = n ∧ j < k then n + 1 + j else Lk l b j
  | 0 => (if_neg (fun c => Nat.not_lt_zero _ c.2)).symm
  | k + 1 => by
    show (if b = n ∧ j = k then n + 1 + k else Lk (rowsL n k l) b j) = _
    rw [Lk_rows k]
    by_cases hb : b = n
    · by_cases hj : j = k
      · rw [if_pos ⟨hb, hj⟩, if_pos ⟨hb, by omega⟩, hj]
      · rw [if_neg (fun c => hj c.2)]
        by_cases hk : j < k
        · rw [if_pos ⟨hb, hk⟩, if_pos ⟨hb, by omega⟩]
        · rw [if_neg (fun c => hk c.2), if_neg (fun c => by omega)]
    · rw [if_neg (fun c => hb c.1), if_neg (fun c => hb c.1), if_neg (fun c => hb c.1)]
theorem Okl.r {n n' : Nat} {l : List (Nat × Nat × Nat)} (h : Okl n l) (hn : n < n') : ∀ k, Okl n' (rowsL n k l)
  | 0 => h.s (by omega)
  | k + 1 => (Okl.r h hn k).c hn (Nat.le_refl _)
theorem zNewM_mk {n k : Nat} {l : List (Nat × Nat × Nat)} (h : Okl n l) : zNewM (mkM n l) n k = mkM (n + 1 + k) (rowsL n k l) := by
  have e : (fun b j => if b = n then (if j < k then n + 1 + j else 0) else if n ≤ b ∧ b ≤ n + k then 0 else Lk l b j) = Lk (rowsL n k l) := by
    funext b j
    rw [Lk_rows k]
    by_cases hb : b = n
    · rw [if_pos hb]
      by_cases hj : j < k
      · rw [if_pos hj, if_pos ⟨hb, hj⟩]
      · rw [if_neg hj, if_neg (fun c => hj c.2), hb, Lk_no fun e he c => absurd (h e he) (by omega)]
    · rw [if_neg hb, if_neg (show ¬ (b = n ∧ j < k) from fun c => hb c.1)]
      by_cases hc : n ≤ b ∧ b ≤ n + k
      · rw [if_pos hc, Lk_no fun e he c => absurd (h e he) (by omega)]
      · rw [if_neg hc]
  have e0 : ∀ {α : Type} (z : α), (fun b _ => if n ≤ b ∧ b ≤ n + k then z else z : Nat → Nat → α) = fun _ _ => z := by
    intro α z; funext b j; exact ite_self z
  show ((fun b j => if n ≤ b ∧ b ≤ n + k then 0 else (0 : Int32)), (fun b j => if b = n then (if j < k then n + 1 + j else 0) else if n ≤ b ∧ b ≤ n + k then 0 else Lk l b j), (fun b j => if n ≤ b ∧ b ≤ n + k then 0 else (0 : Int64)), n + 1 + k) = _
  rw [e, e0, e0]
  rfl
theorem wI_mk {n a k : Nat} {l : List (Nat × Nat × Nat)} : wI (mkM n l) a k 0 = mkM n l := by
  have e : zU (fun _ _ => (0 : Int32)) a k 0 = fun _ _ => 0 := by
    funext b j; exact ite_self _
  show (zU (fun _ _ => (0 : Int32)) a k 0, _) = _
  rw [e]
  rfl
section RS
variable {n n' n2 a k q : Nat} {l : List (Nat × Nat × Nat)} {f : Mm → Option Mm} {t : Option Mm}
theorem rz_new (o : Okl n l) (h : n = n') (h2 : n + 1 = n2) (r : f (mkM n2 l) = t) : (if zN (mkM n l) = n' then zLet (zNew (mkM n l) n') f else none) = t := by
  subst h h2
  refine (if_pos rfl).trans ?_
  show f (zNew (mkM n l) n) = t
  rw [zNew_mk o]; exact r
theorem rz_newM (o : Okl n l) (h : n = n') (hk : zLn n' = k) (h2 : n + 1 + k = n2) (r : f (mkM n2 (rowsL n' k l)) = t) : (if zN (mkM n l) = n' then zLet (zNewM (mkM n l) n' (zLn n')) f else none) = t := by
  subst h h2
  rw [hk]
  refine (if_pos rfl).trans ?_
  show f (zNewM (mkM n l) n k) = t
  rw [zNewM_mk o]; exact r
theorem rz_put (h : a < n) (r : f (mkM n ((a, k, q) :: l)) = t) : (if a < zN (mkM n l) then zLet (wR (mkM n l) a k q) f else none) = t := (if_pos h).trans r
theorem rz_int (h : a < n) (r : f (mkM n l) = t) : (if a < zN (mkM n l) then zLet (wI (mkM n l) a k 0) f else none) = t := by
  refine (if_pos h).trans ?_
  show f (wI (mkM n l) a k 0) = t
  rw [wI_mk]; exact r
theorem rz_see (h : a < n) (h2 : Lk l a k ≠ 0) {t' : Option Mm} (r : t = t') : (if a < zN (mkM n l) ∧ zR (mkM n l) a k ≠ 0 then t else none) = t' := (if_pos ⟨h, h2⟩).trans r
theorem rz_call {e : Option Mm} {m : Mm} (h : e = some m) (r : f m = t) : zBV e f = t := by rw [h]; exact r
end RS

def lTxt (a : Nat) (l : List (Nat × Nat × Nat)) : List (Nat × Nat × Nat) := ((a, 0, (a + 1)) :: l)
theorem g_Txt {a n : Nat} {l : List (Nat × Nat × Nat)} (o : Okl n l) (h : n = a + 1) : f_Txt_init a (mkM n l) = some (mkM (a + 2) (lTxt a l)) ∧ Okl (a + 2) (lTxt a l) := by
  subst h
  have o0 : Okl (a + 1) l := o
  have o1 : Okl (a + 2) l := o0.s (by omega)
  have o2 : Okl (a + 2) ((a, 0, (a + 1)) :: l) := o1.c (by omega) (by omega)
  refine ⟨?_, o2⟩
  refine rz_new o0 rfl (n2 := a + 2) rfl ?_
  refine rz_put (by omega) ?_
  exact rfl
def lCod (a : Nat) (l : List (Nat × Nat × Nat)) : List (Nat × Nat × Nat) := ((a, 1, (a + 2)) :: ((a, 0, (a + 1)) :: l))
theorem g_Cod {a n : Nat} {l : List (Nat × Nat × Nat)} (o : Okl n l) (h : n = a + 1) : f_Cod_init a (mkM n l) = some (mkM (a + 3) (lCod a l)) ∧ Okl (a + 3) (lCod a l) := by
  subst h
  have o0 : Okl (a + 1) l := o
  have o1 : Okl (a + 2) l := o0.s (by omega)
  have o2 : Okl (a + 2) ((a, 0, (a + 1)) :: l) := o1.c (by omega) (by omega)
  have o3 : Okl (a + 3) ((a, 0, (a + 1)) :: l) := o2.s (by omega)
  have o4 : Okl (a + 3) ((a, 1, (a + 2)) :: ((a, 0, (a + 1)) :: l)) := o3.c (by omega) (by omega)
  refine ⟨?_, o4⟩
  refine rz_new o0 rfl (n2 := a + 2) rfl ?_
  refine rz_put (by omega) ?_
  refine rz_new o2 rfl (n2 := a + 3) rfl ?_
  refine rz_put (by omega) ?_
  exact rfl
def lWal (a : Nat) (l : List (Nat × Nat × Nat)) : List (Nat × Nat × Nat) := l
theorem g_Wal {a n : Nat} {l : List (Nat × Nat × Nat)} (o : Okl n l) (h : n = a + 1) : f_Wal_init a (mkM n l) = some (mkM (a + 1) (lWal a l)) ∧ Okl (a + 1) (lWal a l) := by
  subst h
  have o0 : Okl (a + 1) l := o
  refine ⟨?_, o0⟩
  exact rfl
def lFea (a : Nat) (l : List (Nat × Nat × Nat)) : List (Nat × Nat × Nat) := ((a, 1, (a + 3)) :: (lCod (a + 3) ((a, 0, (a + 1)) :: (lTxt (a + 1) l))))
theorem g_Fea {a n : Nat} {l : List (Nat × Nat × Nat)} (o : Okl n l) (h : n = a + 1) : f_Fea_init a (mkM n l) = some (mkM (a + 6) (lFea a l)) ∧ Okl (a + 6) (lFea a l) := by
  subst h
  have o0 : Okl (a + 1) l := o
  have o1 : Okl (a + 2) l := o0.s (by omega)
  have g1 := g_Txt (a := a + 1) (n := a + 2) o1 (by omega)
  have o2 : Okl (a + 3) (lTxt (a + 1) l) := g1.2.s (by omega)
  have o3 : Okl (a + 3) ((a, 0, (a + 1)) :: (lTxt (a + 1) l)) := o2.c (by omega) (by omega)
  have o4 : Okl (a + 4) ((a, 0, (a + 1)) :: (lTxt (a + 1) l)) := o3.s (by omega)
  have g4 := g_Cod (a := a + 3) (n := a + 4) o4 (by omega)
  have o5 : Okl (a + 6) (lCod (a + 3) ((a, 0, (a + 1)) :: (lTxt (a + 1) l))) := g4.2.s (by omega)
  have o6 : Okl (a + 6) ((a, 1, (a + 3)) :: (lCod (a + 3) ((a, 0, (a + 1)) :: (lTxt (a + 1) l)))) := o5.c (by omega) (by omega)
  refine ⟨?_, o6⟩
  refine rz_new o0 rfl (n2 := a + 2) rfl ?_
  refine rz_call g1.1 ?_
  refine rz_put (by omega) ?_
  refine rz_new o3 rfl (n2 := a + 4) rfl ?_
  refine rz_call g4.1 ?_
  refine rz_put (by omega) ?_
  exact rfl
def lBoo (a : Nat) (q : Nat) (l : List (Nat × Nat × Nat)) : List (Nat × Nat × Nat) := ((a, 0, q) :: ((a, 5, (a + 5)) :: ((a, 4, (a + 4)) :: ((a, 3, (a + 3)) :: ((a, 2, (a + 2)) :: ((a, 1, (a + 1)) :: (lWal (a + 1) l)))))))
theorem g_Boo {a n : Nat} {q : Nat} {l : List (Nat × Nat × Nat)} (o : Okl n l) (h : n = a + 1) : f_Boo_init a q (mkM n l) = some (mkM (a + 6) (lBoo a q l)) ∧ Okl (a + 6) (lBoo a q l) := by
  subst h
  have o0 : Okl (a + 1) l := o
  have o1 : Okl (a + 2) l := o0.s (by omega)
  have g1 := g_Wal (a := a + 1) (n := a + 2) o1 (by omega)
  have o2 : Okl (a + 2) (lWal (a + 1) l) := g1.2.s (by omega)
  have o3 : Okl (a + 2) ((a, 1, (a + 1)) :: (lWal (a + 1) l)) := o2.c (by omega) (by omega)
  have o4 : Okl (a + 3) ((a, 1, (a + 1)) :: (lWal (a + 1) l)) := o3.s (by omega)
  have o5 : Okl (a + 3) ((a, 2, (a + 2)) :: ((a, 1, (a + 1)) :: (lWal (a + 1) l))) := o4.c (by omega) (by omega)
  have o6 : Okl (a + 4) ((a, 2, (a + 2)) :: ((a, 1, (a + 1)) :: (lWal (a + 1) l))) := o5.s (by omega)
  have o7 : Okl (a + 4) ((a, 3, (a + 3)) :: ((a, 2, (a + 2)) :: ((a, 1, (a + 1)) :: (lWal (a + 1) l)))) := o6.c (by omega) (by omega)
  have o8 : Okl (a + 5) ((a, 3, (a + 3)) :: ((a, 2, (a + 2)) :: ((a, 1, (a + 1)) :: (lWal (a + 1) l)))) := o7.s (by omega)
  have o9 : Okl (a + 5) ((a, 4, (a + 4)) :: ((a, 3, (a + 3)) :: ((a, 2, (a + 2)) :: ((a, 1, (a + 1)) :: (lWal (a + 1) l))))) := o8.c (by omega) (by omega)
  have o10 : Okl (a + 6) ((a, 4, (a + 4)) :: ((a, 3, (a + 3)) :: ((a, 2, (a + 2)) :: ((a, 1, (a + 1)) :: (lWal (a + 1) l))))) := o9.s (by omega)
  have o11 : Okl (a + 6) ((a, 5, (a + 5)) :: ((a, 4, (a + 4)) :: ((a, 3, (a + 3)) :: ((a, 2, (a + 2)) :: ((a, 1, (a + 1)) :: (lWal (a + 1) l)))))) := o10.c (by omega) (by omega)
  have o12 : Okl (a + 6) ((a, 0, q) :: ((a, 5, (a + 5)) :: ((a, 4, (a + 4)) :: ((a, 3, (a + 3)) :: ((a, 2, (a + 2)) :: ((a, 1, (a + 1)) :: (lWal (a + 1) l))))))) := o11.c (by omega) (by omega)
  refine ⟨?_, o12⟩
  refine rz_new o0 rfl (n2 := a + 2) rfl ?_
  refine rz_call g1.1 ?_
  refine rz_put (by omega) ?_
  refine rz_new o3 rfl (n2 := a + 3) rfl ?_
  refine rz_put (by omega) ?_
  refine rz_new o5 rfl (n2 := a + 4) rfl ?_
  refine rz_put (by omega) ?_
  refine rz_new o7 rfl (n2 := a + 5) rfl ?_
  refine rz_put (by omega) ?_
  refine rz_new o9 rfl (n2 := a + 6) rfl ?_
  refine rz_put (by omega) ?_
  refine rz_put (by omega) ?_
  exact rfl
def lPla (a : Nat) (q : Nat) (l : List (Nat × Nat × Nat)) : List (Nat × Nat × Nat) := ((a, 4, (a + 4)) :: (lTxt (a + 4) ((a, 0, q) :: ((a, 3, (a + 3)) :: ((a, 2, (a + 2)) :: ((a, 1, (a + 1)) :: (lWal (a + 1) l)))))))
theorem g_Pla {a n : Nat} {q : Nat} {l : List (Nat × Nat × Nat)} (o : Okl n l) (h : n = a + 1) : f_Pla_init a q (mkM n l) = some (mkM (a + 6) (lPla a q l)) ∧ Okl (a + 6) (lPla a q l) := by
  subst h
  have o0 : Okl (a + 1) l := o
  have o1 : Okl (a + 2) l := o0.s (by omega)
  have g1 := g_Wal (a := a + 1) (n := a + 2) o1 (by omega)
  have o2 : Okl (a + 2) (lWal (a + 1) l) := g1.2.s (by omega)
  have o3 : Okl (a + 2) ((a, 1, (a + 1)) :: (lWal (a + 1) l)) := o2.c (by omega) (by omega)
  have o4 : Okl (a + 3) ((a, 1, (a + 1)) :: (lWal (a + 1) l)) := o3.s (by omega)
  have o5 : Okl (a + 3) ((a, 2, (a + 2)) :: ((a, 1, (a + 1)) :: (lWal (a + 1) l))) := o4.c (by omega) (by omega)
  have o6 : Okl (a + 4) ((a, 2, (a + 2)) :: ((a, 1, (a + 1)) :: (lWal (a + 1) l))) := o5.s (by omega)
  have o7 : Okl (a + 4) ((a, 3, (a + 3)) :: ((a, 2, (a + 2)) :: ((a, 1, (a + 1)) :: (lWal (a + 1) l)))) := o6.c (by omega) (by omega)
  have o8 : Okl (a + 4) ((a, 0, q) :: ((a, 3, (a + 3)) :: ((a, 2, (a + 2)) :: ((a, 1, (a + 1)) :: (lWal (a + 1) l))))) := o7.c (by omega) (by omega)
  have o9 : Okl (a + 5) ((a, 0, q) :: ((a, 3, (a + 3)) :: ((a, 2, (a + 2)) :: ((a, 1, (a + 1)) :: (lWal (a + 1) l))))) := o8.s (by omega)
  have g9 := g_Txt (a := a + 4) (n := a + 5) o9 (by omega)
  have o10 : Okl (a + 6) (lTxt (a + 4) ((a, 0, q) :: ((a, 3, (a + 3)) :: ((a, 2, (a + 2)) :: ((a, 1, (a + 1)) :: (lWal (a + 1) l)))))) := g9.2.s (by omega)
  have o11 : Okl (a + 6) ((a, 4, (a + 4)) :: (lTxt (a + 4) ((a, 0, q) :: ((a, 3, (a + 3)) :: ((a, 2, (a + 2)) :: ((a, 1, (a + 1)) :: (lWal (a + 1) l))))))) := o10.c (by omega) (by omega)
  refine ⟨?_, o11⟩
  refine rz_new o0 rfl (n2 := a + 2) rfl ?_
  refine rz_call g1.1 ?_
  refine rz_put (by omega) ?_
  refine rz_new o3 rfl (n2 := a + 3) rfl ?_
  refine rz_put (by omega) ?_
  refine rz_new o5 rfl (n2 := a + 4) rfl ?_
  refine rz_put (by omega) ?_
  refine rz_put (by omega) ?_
  refine rz_new o8 rfl (n2 := a + 5) rfl ?_
  refine rz_call g9.1 ?_
  refine rz_put (by omega) ?_
  exact rfl
def lPar (a : Nat) (l : List (Nat × Nat × Nat)) : List (Nat × Nat × Nat) := ((a, 1, (a + 4)) :: (lTxt (a + 4) ((a, 0, (a + 1)) :: (lCod (a + 1) l))))
theorem g_Par {a n : Nat} {l : List (Nat × Nat × Nat)} (o : Okl n l) (h : n = a + 1) : f_Par_init a (mkM n l) = some (mkM (a + 6) (lPar a l)) ∧ Okl (a + 6) (lPar a l) := by
  subst h
  have o0 : Okl (a + 1) l := o
  have o1 : Okl (a + 2) l := o0.s (by omega)
  have g1 := g_Cod (a := a + 1) (n := a + 2) o1 (by omega)
  have o2 : Okl (a + 4) (lCod (a + 1) l) := g1.2.s (by omega)
  have o3 : Okl (a + 4) ((a, 0, (a + 1)) :: (lCod (a + 1) l)) := o2.c (by omega) (by omega)
  have o4 : Okl (a + 5) ((a, 0, (a + 1)) :: (lCod (a + 1) l)) := o3.s (by omega)
  have g4 := g_Txt (a := a + 4) (n := a + 5) o4 (by omega)
  have o5 : Okl (a + 6) (lTxt (a + 4) ((a, 0, (a + 1)) :: (lCod (a + 1) l))) := g4.2.s (by omega)
  have o6 : Okl (a + 6) ((a, 1, (a + 4)) :: (lTxt (a + 4) ((a, 0, (a + 1)) :: (lCod (a + 1) l)))) := o5.c (by omega) (by omega)
  refine ⟨?_, o6⟩
  refine rz_new o0 rfl (n2 := a + 2) rfl ?_
  refine rz_call g1.1 ?_
  refine rz_put (by omega) ?_
  refine rz_new o3 rfl (n2 := a + 5) rfl ?_
  refine rz_call g4.1 ?_
  refine rz_put (by omega) ?_
  exact rfl
def lSol (a : Nat) (l : List (Nat × Nat × Nat)) : List (Nat × Nat × Nat) := ((a, 0, (a + 1)) :: (lCod (a + 1) l))
theorem g_Sol {a n : Nat} {l : List (Nat × Nat × Nat)} (o : Okl n l) (h : n = a + 1) : f_Sol_init a (mkM n l) = some (mkM (a + 4) (lSol a l)) ∧ Okl (a + 4) (lSol a l) := by
  subst h
  have o0 : Okl (a + 1) l := o
  have o1 : Okl (a + 2) l := o0.s (by omega)
  have g1 := g_Cod (a := a + 1) (n := a + 2) o1 (by omega)
  have o2 : Okl (a + 4) (lCod (a + 1) l) := g1.2.s (by omega)
  have o3 : Okl (a + 4) ((a, 0, (a + 1)) :: (lCod (a + 1) l)) := o2.c (by omega) (by omega)
  refine ⟨?_, o3⟩
  refine rz_new o0 rfl (n2 := a + 2) rfl ?_
  refine rz_call g1.1 ?_
  refine rz_put (by omega) ?_
  exact rfl
def lBel (a : Nat) (l : List (Nat × Nat × Nat)) : List (Nat × Nat × Nat) := ((a, 6, (a + 6)) :: (rowsL (a + 6) 20 ((a, 5, (a + 5)) :: ((a, 4, (a + 4)) :: ((a, 2, (a + 3)) :: ((a, 1, (a + 2)) :: ((a, 0, (a + 1)) :: l)))))))
theorem g_Bel {a n : Nat} {l : List (Nat × Nat × Nat)} (o : Okl n l) (h : n = a + 1) (hln : zLn (a + 6) = 20) : f_Bel_init a (mkM n l) = some (mkM (a + 27) (lBel a l)) ∧ Okl (a + 27) (lBel a l) := by
  subst h
  have o0 : Okl (a + 1) l := o
  have o1 : Okl (a + 2) l := o0.s (by omega)
  have o2 : Okl (a + 2) ((a, 0, (a + 1)) :: l) := o1.c (by omega) (by omega)
  have o3 : Okl (a + 3) ((a, 0, (a + 1)) :: l) := o2.s (by omega)
  have o4 : Okl (a + 3) ((a, 1, (a + 2)) :: ((a, 0, (a + 1)) :: l)) := o3.c (by omega) (by omega)
  have o5 : Okl (a + 4) ((a, 1, (a + 2)) :: ((a, 0, (a + 1)) :: l)) := o4.s (by omega)
  have o6 : Okl (a + 4) ((a, 2, (a + 3)) :: ((a, 1, (a + 2)) :: ((a, 0, (a + 1)) :: l))) := o5.c (by omega) (by omega)
  have o7 : Okl (a + 5) ((a, 2, (a + 3)) :: ((a, 1, (a + 2)) :: ((a, 0, (a + 1)) :: l))) := o6.s (by omega)
  have o8 : Okl (a + 5) ((a, 4, (a + 4)) :: ((a, 2, (a + 3)) :: ((a, 1, (a + 2)) :: ((a, 0, (a + 1)) :: l)))) := o7.c (by omega) (by omega)
  have o9 : Okl (a + 6) ((a, 4, (a + 4)) :: ((a, 2, (a + 3)) :: ((a, 1, (a + 2)) :: ((a, 0, (a + 1)) :: l)))) := o8.s (by omega)
  have o10 : Okl (a + 6) ((a, 5, (a + 5)) :: ((a, 4, (a + 4)) :: ((a, 2, (a + 3)) :: ((a, 1, (a + 2)) :: ((a, 0, (a + 1)) :: l))))) := o9.c (by omega) (by omega)
  have o11 : Okl (a + 27) (rowsL (a + 6) 20 ((a, 5, (a + 5)) :: ((a, 4, (a + 4)) :: ((a, 2, (a + 3)) :: ((a, 1, (a + 2)) :: ((a, 0, (a + 1)) :: l)))))) := o10.r (by omega) 20 |>.s (Nat.le_refl _)
  have o12 : Okl (a + 27) ((a, 6, (a + 6)) :: (rowsL (a + 6) 20 ((a, 5, (a + 5)) :: ((a, 4, (a + 4)) :: ((a, 2, (a + 3)) :: ((a, 1, (a + 2)) :: ((a, 0, (a + 1)) :: l))))))) := o11.c (by omega) (by omega)
  refine ⟨?_, o12⟩
  refine rz_new o0 rfl (n2 := a + 2) rfl ?_
  refine rz_put (by omega) ?_
  refine rz_new o2 rfl (n2 := a + 3) rfl ?_
  refine rz_put (by omega) ?_
  refine rz_new o4 rfl (n2 := a + 4) rfl ?_
  refine rz_put (by omega) ?_
  refine rz_new o6 rfl (n2 := a + 5) rfl ?_
  refine rz_put (by omega) ?_
  refine rz_new o8 rfl (n2 := a + 6) rfl ?_
  refine rz_put (by omega) ?_
  refine rz_newM o10 rfl hln (n2 := a + 27) (by omega) ?_
  refine rz_put (by omega) ?_
  exact rfl
def lAl : Nat → Nat → List (Nat × Nat × Nat) → List (Nat × Nat × Nat)
  | 0, _, l => l
  | k + 1, i, l => lAl k (i + 1) ((26, i, 25 + 7 + 6 * i) :: lFea (25 + 7 + 6 * i) l)
theorem al_ix : ∀ i : Nat, i < 20 → ¬ (20 : Int32) ≤ i3 (i : Int) ∧ zIn (i3 (i : Int)) (zLn (25 + 1)) ∧ zIx (i3 (i : Int)) = i := by decide +kernel
theorem g_AlL : ∀ (k i : Nat), k + i = 20 → ∀ (n : Nat) (l : List (Nat × Nat × Nat)), Okl n l → n = 25 + 7 + 6 * i → Lk l 25 0 = 26 → f_Alm_loop 25 (k + 1) i (mkM n l) = some (mkM (25 + 7 + 6 * 20) (lAl k i l)) ∧ Okl (25 + 7 + 6 * 20) (lAl k i l) := by
  intro k
  induction k with
  | zero =>
    intro i hi n l o hn h0
    have hi : i = 20 := by omega
    subst hi hn
    exact ⟨(if_pos (show (20 : Int32) ≤ i3 ((20 : Nat) : Int) by decide +kernel)).trans rfl, o⟩
  | succ k ih =>
    intro i hi n l o hn h0
    obtain ⟨x1, x2, x3⟩ := al_ix i (by omega)
    subst hn
    have g := g_Fea (a := 25 + 7 + 6 * i) (n := 25 + 7 + 6 * i + 1) (l := l) (o.s (by omega)) rfl
    have o2 : Okl (25 + 7 + 6 * (i + 1)) ((26, i, 25 + 7 + 6 * i) :: lFea (25 + 7 + 6 * i) l) := g.2.c (by omega) (by omega)
    have h2 : Lk ((26, i, 25 + 7 + 6 * i) :: lFea (25 + 7 + 6 * i) l) 25 0 = 26 := by
      refine (if_neg (fun c => absurd c.1 (show ¬ 25 = 26 by decide))).trans ?_
      refine (if_neg (fun c => absurd c.1 (by omega))).trans ?_
      refine (if_neg (fun c => absurd c.1 (by omega))).trans ?_
      refine (if_neg (fun c => absurd c.1 (by omega))).trans ?_
      refine (if_neg (fun c => absurd c.1 (by omega))).trans ?_
      refine (if_neg (fun c => absurd c.1 (by omega))).trans ?_
      exact h0
    have r := ih (i + 1) (by omega) _ _ o2 rfl h2
    refine ⟨?_, r.2⟩
    refine (if_neg x1).trans ?_
    refine (if_pos (show 25 < 25 + 7 + 6 * i ∧ Lk l 25 0 = 25 + 1 from ⟨by omega, h0⟩)).trans ?_
    refine rz_new o rfl (n2 := 25 + 7 + 6 * i + 1) rfl ?_
    refine rz_call g.1 ?_
    refine (if_pos (show (25 + 1 < 25 + 7 + 6 * i + 6 ∧ 25 + 7 + 6 * i < 25 + 7 + 6 * i + 6) ∧ zIn (i3 (i : Int)) (zLn (25 + 1)) from ⟨⟨by omega, by omega⟩, x2⟩)).trans ?_
    rw [x3]
    exact r.1
def lAlm (l : List (Nat × Nat × Nat)) : List (Nat × Nat × Nat) := lAl 20 0 ((25, 6, (25 + 6)) :: ((25, 5, (25 + 5)) :: ((25, 4, (25 + 4)) :: ((25, 2, (25 + 3)) :: ((25, 1, (25 + 2)) :: ((25, 0, (25 + 1)) :: l))))))
theorem g_Alm {n : Nat} {l : List (Nat × Nat × Nat)} (o : Okl n l) (h : n = 25 + 1) : f_Alm_init 25 (mkM n l) = some (mkM (25 + 127) (lAlm l)) ∧ Okl (25 + 127) (lAlm l) := by
  subst h
  have o0 : Okl (25 + 1) l := o
  have o1 : Okl (25 + 2) l := o0.s (by omega)
  have o2 : Okl (25 + 2) ((25, 0, (25 + 1)) :: l) := o1.c (by omega) (by omega)
  have o3 : Okl (25 + 3) ((25, 0, (25 + 1)) :: l) := o2.s (by omega)
  have o4 : Okl (25 + 3) ((25, 1, (25 + 2)) :: ((25, 0, (25 + 1)) :: l)) := o3.c (by omega) (by omega)
  have o5 : Okl (25 + 4) ((25, 1, (25 + 2)) :: ((25, 0, (25 + 1)) :: l)) := o4.s (by omega)
  have o6 : Okl (25 + 4) ((25, 2, (25 + 3)) :: ((25, 1, (25 + 2)) :: ((25, 0, (25 + 1)) :: l))) := o5.c (by omega) (by omega)
  have o7 : Okl (25 + 5) ((25, 2, (25 + 3)) :: ((25, 1, (25 + 2)) :: ((25, 0, (25 + 1)) :: l))) := o6.s (by omega)
  have o8 : Okl (25 + 5) ((25, 4, (25 + 4)) :: ((25, 2, (25 + 3)) :: ((25, 1, (25 + 2)) :: ((25, 0, (25 + 1)) :: l)))) := o7.c (by omega) (by omega)
  have o9 : Okl (25 + 6) ((25, 4, (25 + 4)) :: ((25, 2, (25 + 3)) :: ((25, 1, (25 + 2)) :: ((25, 0, (25 + 1)) :: l)))) := o8.s (by omega)
  have o10 : Okl (25 + 6) ((25, 5, (25 + 5)) :: ((25, 4, (25 + 4)) :: ((25, 2, (25 + 3)) :: ((25, 1, (25 + 2)) :: ((25, 0, (25 + 1)) :: l))))) := o9.c (by omega) (by omega)
  have o11 : Okl (25 + 7) ((25, 5, (25 + 5)) :: ((25, 4, (25 + 4)) :: ((25, 2, (25 + 3)) :: ((25, 1, (25 + 2)) :: ((25, 0, (25 + 1)) :: l))))) := o10.s (by omega)
  have o12 : Okl (25 + 7) ((25, 6, (25 + 6)) :: ((25, 5, (25 + 5)) :: ((25, 4, (25 + 4)) :: ((25, 2, (25 + 3)) :: ((25, 1, (25 + 2)) :: ((25, 0, (25 + 1)) :: l)))))) := o11.c (by omega) (by omega)
  have g := g_AlL 20 0 rfl _ _ o12 rfl (by refine (if_neg (fun c => absurd c.2 (by decide))).trans ?_; refine (if_neg (fun c => absurd c.2 (by decide))).trans ?_; refine (if_neg (fun c => absurd c.2 (by decide))).trans ?_; refine (if_neg (fun c => absurd c.2 (by decide))).trans ?_; refine (if_neg (fun c => absurd c.2 (by decide))).trans ?_; exact if_pos ⟨rfl, rfl⟩)
  refine ⟨?_, g.2⟩
  refine rz_new o0 rfl (n2 := 25 + 2) rfl ?_
  refine rz_put (by omega) ?_
  refine rz_new o2 rfl (n2 := 25 + 3) rfl ?_
  refine rz_put (by omega) ?_
  refine rz_new o4 rfl (n2 := 25 + 4) rfl ?_
  refine rz_put (by omega) ?_
  refine rz_new o6 rfl (n2 := 25 + 5) rfl ?_
  refine rz_put (by omega) ?_
  refine rz_new o8 rfl (n2 := 25 + 6) rfl ?_
  refine rz_put (by omega) ?_
  refine rz_new o10 rfl (n2 := 25 + 7) rfl ?_
  refine rz_put (by omega) ?_
  exact g.1
def lLoo : List (Nat × Nat × Nat) := ((16, 7, (16 + 158)) :: (lBel (16 + 158) ((16, 6, (16 + 154)) :: (lSol (16 + 154) ((16, 5, (16 + 148)) :: (lPla (16 + 148) 25 ((16, 4, (16 + 142)) :: (lBoo (16 + 142) 25 ((16, 3, (16 + 136)) :: (lBoo (16 + 136) 25 ((16, 2, (16 + 9)) :: (lAlm ((16, 1, (16 + 3)) :: (lPar (16 + 3) ((16, 0, (16 + 1)) :: (lTxt (16 + 1) []))))))))))))))))
theorem g_Loo : f_Loo_init 16 (mkM 17 []) = some (mkM 201 lLoo) ∧ Okl 201 lLoo := by
  have o0 : Okl (16 + 1) [] := fun e he => absurd he List.not_mem_nil
  have o1 : Okl (16 + 2) [] := o0.s (by omega)
  have g1 := g_Txt (a := 16 + 1) (n := 16 + 2) o1 (by omega)
  have o2 : Okl (16 + 3) (lTxt (16 + 1) []) := g1.2.s (by omega)
  have o3 : Okl (16 + 3) ((16, 0, (16 + 1)) :: (lTxt (16 + 1) [])) := o2.c (by omega) (by omega)
  have o4 : Okl (16 + 4) ((16, 0, (16 + 1)) :: (lTxt (16 + 1) [])) := o3.s (by omega)
  have g4 := g_Par (a := 16 + 3) (n := 16 + 4) o4 (by omega)
  have o5 : Okl (16 + 9) (lPar (16 + 3) ((16, 0, (16 + 1)) :: (lTxt (16 + 1) []))) := g4.2.s (by omega)
  have o6 : Okl (16 + 9) ((16, 1, (16 + 3)) :: (lPar (16 + 3) ((16, 0, (16 + 1)) :: (lTxt (16 + 1) [])))) := o5.c (by omega) (by omega)
  have o7 : Okl (16 + 10) ((16, 1, (16 + 3)) :: (lPar (16 + 3) ((16, 0, (16 + 1)) :: (lTxt (16 + 1) [])))) := o6.s (by omega)
  have g7 := g_Alm (n := 16 + 10) o7 rfl
  have o8 : Okl (16 + 136) (lAlm ((16, 1, (16 + 3)) :: (lPar (16 + 3) ((16, 0, (16 + 1)) :: (lTxt (16 + 1) []))))) := g7.2.s (by omega)
  have o9 : Okl (16 + 136) ((16, 2, (16 + 9)) :: (lAlm ((16, 1, (16 + 3)) :: (lPar (16 + 3) ((16, 0, (16 + 1)) :: (lTxt (16 + 1) [])))))) := o8.c (by omega) (by omega)
  have o10 : Okl (16 + 137) ((16, 2, (16 + 9)) :: (lAlm ((16, 1, (16 + 3)) :: (lPar (16 + 3) ((16, 0, (16 + 1)) :: (lTxt (16 + 1) [])))))) := o9.s (by omega)
  have g10 := g_Boo (a := 16 + 136) (q := 25) (n := 16 + 137) o10 (by omega)
  have o11 : Okl (16 + 142) (lBoo (16 + 136) 25 ((16, 2, (16 + 9)) :: (lAlm ((16, 1, (16 + 3)) :: (lPar (16 + 3) ((16, 0, (16 + 1)) :: (lTxt (16 + 1) []))))))) := g10.2.s (by omega)
  have o12 : Okl (16 + 142) ((16, 3, (16 + 136)) :: (lBoo (16 + 136) 25 ((16, 2, (16 + 9)) :: (lAlm ((16, 1, (16 + 3)) :: (lPar (16 + 3) ((16, 0, (16 + 1)) :: (lTxt (16 + 1) [])))))))) := o11.c (by omega) (by omega)
  have o13 : Okl (16 + 143) ((16, 3, (16 + 136)) :: (lBoo (16 + 136) 25 ((16, 2, (16 + 9)) :: (lAlm ((16, 1, (16 + 3)) :: (lPar (16 + 3) ((16, 0, (16 + 1)) :: (lTxt (16 + 1) [])))))))) := o12.s (by omega)
  have g13 := g_Boo (a := 16 + 142) (q := 25) (n := 16 + 143) o13 (by omega)
  have o14 : Okl (16 + 148) (lBoo (16 + 142) 25 ((16, 3, (16 + 136)) :: (lBoo (16 + 136) 25 ((16, 2, (16 + 9)) :: (lAlm ((16, 1, (16 + 3)) :: (lPar (16 + 3) ((16, 0, (16 + 1)) :: (lTxt (16 + 1) []))))))))) := g13.2.s (by omega)
  have o15 : Okl (16 + 148) ((16, 4, (16 + 142)) :: (lBoo (16 + 142) 25 ((16, 3, (16 + 136)) :: (lBoo (16 + 136) 25 ((16, 2, (16 + 9)) :: (lAlm ((16, 1, (16 + 3)) :: (lPar (16 + 3) ((16, 0, (16 + 1)) :: (lTxt (16 + 1) [])))))))))) := o14.c (by omega) (by omega)
  have o16 : Okl (16 + 149) ((16, 4, (16 + 142)) :: (lBoo (16 + 142) 25 ((16, 3, (16 + 136)) :: (lBoo (16 + 136) 25 ((16, 2, (16 + 9)) :: (lAlm ((16, 1, (16 + 3)) :: (lPar (16 + 3) ((16, 0, (16 + 1)) :: (lTxt (16 + 1) [])))))))))) := o15.s (by omega)
  have g16 := g_Pla (a := 16 + 148) (q := 25) (n := 16 + 149) o16 (by omega)
  have o17 : Okl (16 + 154) (lPla (16 + 148) 25 ((16, 4, (16 + 142)) :: (lBoo (16 + 142) 25 ((16, 3, (16 + 136)) :: (lBoo (16 + 136) 25 ((16, 2, (16 + 9)) :: (lAlm ((16, 1, (16 + 3)) :: (lPar (16 + 3) ((16, 0, (16 + 1)) :: (lTxt (16 + 1) []))))))))))) := g16.2.s (by omega)
  have o18 : Okl (16 + 154) ((16, 5, (16 + 148)) :: (lPla (16 + 148) 25 ((16, 4, (16 + 142)) :: (lBoo (16 + 142) 25 ((16, 3, (16 + 136)) :: (lBoo (16 + 136) 25 ((16, 2, (16 + 9)) :: (lAlm ((16, 1, (16 + 3)) :: (lPar (16 + 3) ((16, 0, (16 + 1)) :: (lTxt (16 + 1) [])))))))))))) := o17.c (by omega) (by omega)
  have o19 : Okl (16 + 155) ((16, 5, (16 + 148)) :: (lPla (16 + 148) 25 ((16, 4, (16 + 142)) :: (lBoo (16 + 142) 25 ((16, 3, (16 + 136)) :: (lBoo (16 + 136) 25 ((16, 2, (16 + 9)) :: (lAlm ((16, 1, (16 + 3)) :: (lPar (16 + 3) ((16, 0, (16 + 1)) :: (lTxt (16 + 1) [])))))))))))) := o18.s (by omega)
  have g19 := g_Sol (a := 16 + 154) (n := 16 + 155) o19 (by omega)
  have o20 : Okl (16 + 158) (lSol (16 + 154) ((16, 5, (16 + 148)) :: (lPla (16 + 148) 25 ((16, 4, (16 + 142)) :: (lBoo (16 + 142) 25 ((16, 3, (16 + 136)) :: (lBoo (16 + 136) 25 ((16, 2, (16 + 9)) :: (lAlm ((16, 1, (16 + 3)) :: (lPar (16 + 3) ((16, 0, (16 + 1)) :: (lTxt (16 + 1) []))))))))))))) := g19.2.s (by omega)
  have o21 : Okl (16 + 158) ((16, 6, (16 + 154)) :: (lSol (16 + 154) ((16, 5, (16 + 148)) :: (lPla (16 + 148) 25 ((16, 4, (16 + 142)) :: (lBoo (16 + 142) 25 ((16, 3, (16 + 136)) :: (lBoo (16 + 136) 25 ((16, 2, (16 + 9)) :: (lAlm ((16, 1, (16 + 3)) :: (lPar (16 + 3) ((16, 0, (16 + 1)) :: (lTxt (16 + 1) [])))))))))))))) := o20.c (by omega) (by omega)
  have o22 : Okl (16 + 159) ((16, 6, (16 + 154)) :: (lSol (16 + 154) ((16, 5, (16 + 148)) :: (lPla (16 + 148) 25 ((16, 4, (16 + 142)) :: (lBoo (16 + 142) 25 ((16, 3, (16 + 136)) :: (lBoo (16 + 136) 25 ((16, 2, (16 + 9)) :: (lAlm ((16, 1, (16 + 3)) :: (lPar (16 + 3) ((16, 0, (16 + 1)) :: (lTxt (16 + 1) [])))))))))))))) := o21.s (by omega)
  have g22 := g_Bel (a := 16 + 158) (n := 16 + 159) o22 (by omega) (by decide +kernel)
  have o23 : Okl (16 + 185) (lBel (16 + 158) ((16, 6, (16 + 154)) :: (lSol (16 + 154) ((16, 5, (16 + 148)) :: (lPla (16 + 148) 25 ((16, 4, (16 + 142)) :: (lBoo (16 + 142) 25 ((16, 3, (16 + 136)) :: (lBoo (16 + 136) 25 ((16, 2, (16 + 9)) :: (lAlm ((16, 1, (16 + 3)) :: (lPar (16 + 3) ((16, 0, (16 + 1)) :: (lTxt (16 + 1) []))))))))))))))) := g22.2.s (by omega)
  have o24 : Okl (16 + 185) ((16, 7, (16 + 158)) :: (lBel (16 + 158) ((16, 6, (16 + 154)) :: (lSol (16 + 154) ((16, 5, (16 + 148)) :: (lPla (16 + 148) 25 ((16, 4, (16 + 142)) :: (lBoo (16 + 142) 25 ((16, 3, (16 + 136)) :: (lBoo (16 + 136) 25 ((16, 2, (16 + 9)) :: (lAlm ((16, 1, (16 + 3)) :: (lPar (16 + 3) ((16, 0, (16 + 1)) :: (lTxt (16 + 1) [])))))))))))))))) := o23.c (by omega) (by omega)
  refine ⟨?_, o24⟩
  refine rz_new o0 rfl (n2 := 16 + 2) rfl ?_
  refine rz_call g1.1 ?_
  refine rz_put (by omega) ?_
  refine rz_new o3 rfl (n2 := 16 + 4) rfl ?_
  refine rz_call g4.1 ?_
  refine rz_put (by omega) ?_
  refine rz_new o6 rfl (n2 := 16 + 10) rfl ?_
  refine rz_call g7.1 ?_
  refine rz_put (by omega) ?_
  refine rz_new o9 rfl (n2 := 16 + 137) rfl ?_
  refine rz_see (by omega) (by decide +kernel) ?_
  rw [show zR (mkM (16 + 137) ((16, 2, (16 + 9)) :: (lAlm ((16, 1, (16 + 3)) :: (lPar (16 + 3) ((16, 0, (16 + 1)) :: (lTxt (16 + 1) []))))))) 16 2 = 25 from by decide +kernel]
  refine rz_call g10.1 ?_
  refine rz_put (by omega) ?_
  refine rz_new o12 rfl (n2 := 16 + 143) rfl ?_
  refine rz_see (by omega) (by decide +kernel) ?_
  rw [show zR (mkM (16 + 143) ((16, 3, (16 + 136)) :: (lBoo (16 + 136) 25 ((16, 2, (16 + 9)) :: (lAlm ((16, 1, (16 + 3)) :: (lPar (16 + 3) ((16, 0, (16 + 1)) :: (lTxt (16 + 1) []))))))))) 16 2 = 25 from by decide +kernel]
  refine rz_call g13.1 ?_
  refine rz_put (by omega) ?_
  refine rz_new o15 rfl (n2 := 16 + 149) rfl ?_
  refine rz_see (by omega) (by decide +kernel) ?_
  rw [show zR (mkM (16 + 149) ((16, 4, (16 + 142)) :: (lBoo (16 + 142) 25 ((16, 3, (16 + 136)) :: (lBoo (16 + 136) 25 ((16, 2, (16 + 9)) :: (lAlm ((16, 1, (16 + 3)) :: (lPar (16 + 3) ((16, 0, (16 + 1)) :: (lTxt (16 + 1) []))))))))))) 16 2 = 25 from by decide +kernel]
  refine rz_call g16.1 ?_
  refine rz_put (by omega) ?_
  refine rz_new o18 rfl (n2 := 16 + 155) rfl ?_
  refine rz_call g19.1 ?_
  refine rz_put (by omega) ?_
  refine rz_new o21 rfl (n2 := 16 + 159) rfl ?_
  refine rz_call g22.1 ?_
  refine rz_put (by omega) ?_
  refine rz_int (by omega) ?_
  exact rfl
/-- all that the new object leads to -/
theorem lay_row : ∀ a, a < 207 → ∀ k, k < (zRL.getD a []).length → zRf a k ≠ 0 → Lk lLoo a k = zRf a k := by decide +kernel
theorem getD_out {α : Type} {l : List α} {d : α} {i : Nat} (h : l.length ≤ i) : l.getD i d = d := by
  rw [List.getD_eq_getElem?_getD, List.getElem?_eq_none h]; rfl
theorem lay_end : zLay (mkM 207 lLoo) := by
  intro a k h
  by_cases ha : a < 207
  · by_cases hk : k < (zRL.getD a []).length
    · exact lay_row a ha k hk h
    · exact absurd (show zRf a k = 0 from getD_out (by omega)) h
  · refine absurd (show zRf a k = 0 from ?_) h
    show (zRL.getD a []).getD k 0 = 0
    rw [getD_out (l := zRL) (Nat.le_trans (show zRL.length ≤ 207 by decide +kernel) (Nat.le_of_not_lt ha))]
    rfl
