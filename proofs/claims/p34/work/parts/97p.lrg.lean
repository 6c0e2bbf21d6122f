/-! THE LAW RINGS -/
/-- all is kept but the law's last two arrays -/
def FH (m M : Mm) : Prop := (∀ b j, Sc b j → b ≠ 207 + 4 → b ≠ 207 + 5 → zI M b j = zI m b j) ∧ ∀ b j, zL M b j = zL m b j
theorem FH.refl {m : Mm} : FH m m := ⟨fun _ _ _ _ _ => rfl, fun _ _ => rfl⟩
theorem FH.trans {m m' m'' : Mm} (h : FH m m') (h2 : FH m' m'') : FH m m'' := ⟨fun b j q1 q2 q3 => (h2.1 b j q1 q2 q3).trans (h.1 b j q1 q2 q3), fun b j => (h2.2 b j).trans (h.2 b j)⟩
theorem SF.fh {m M : Mm} (h : SF m M) : FH m M := ⟨fun b j q1 _ _ => h.1 b j q1, h.2⟩
theorem FH.w4 {m : Mm} {k : Nat} {v : Int32} : FH m (wI m (207 + 4) k v) := ⟨fun b j _ q2 _ => zI_ne q2, fun _ _ => rfl⟩
theorem FH.w5 {m : Mm} {k : Nat} {v : Int32} : FH m (wI m (207 + 5) k v) := ⟨fun b j _ _ q3 => zI_ne q3, fun _ _ => rfl⟩
theorem FH.fz {m M : Mm} (h : FH m M) : Fz 6 0 m M := ⟨fun b j a1 a2 a3 => h.1 b j (zone_Sc a1) (fun e => a2 (zone_T (by omega))) (fun e => a2 (zone_T (by omega))), h.2 _ _⟩
theorem FH.lo {m M : Mm} (h : FH m M) {b j : Nat} (hb : 201 ≤ b) (h4 : b < 211) : zI M b j = zI m b j := h.1 b j (Sc.l hb) (by omega) (by omega)
/-- counts and last days -/
def HL (M : Mm) (nR : Nat) (s : RS) : Prop := ∀ n, n < nR → zI M (207 + 4) n = i3 (s.2.1 n) ∧ (s.2.1 n ≠ 0 → zI M (207 + 5) n = i3 (s.1 n))
theorem HL.sf {m M : Mm} {nR : Nat} {s : RS} (h : HL m nR s) (hS : SF m M) : HL M nR s := fun n hn => ⟨by rw [hS.1 _ _ (Sc.l (by omega))]; exact (h n hn).1, fun hz => by rw [hS.1 _ _ (Sc.l (by omega))]; exact (h n hn).2 hz⟩
def yH (x91 x93 : Int32) (r94 : Int32 → Int32 → Int32 → Mm → Option (Int32 × Mm)) (x30 x83 x99 x101 x107 : Int32) (m108 : Mm) : Option (Int32 × Mm) :=
  zLet (fun (x111 : Int32) =>
    zLet (x91 + x111) fun x113 =>
    zLet (fun (m115 : Mm) =>
      zLet (x93 + 1) fun x117 =>
      r94 x113 x107 x117 m115) fun j116 =>
    if 0 ≤ x101 then
      if zIn x101 10 then
        if zIn x101 10 then
          zLet (wI m108 (207 + 4) (zIx x101) ((zI m108 (207 + 4) (zIx x101)) + 1)) fun m118 =>
          if zIn x101 10 then
            zLet (wI m118 (207 + 5) (zIx x101) (x30 + x83)) fun m119 =>
            j116 m119
          else none
        else none
      else none
    else
      j116 m108) fun j112 =>
  zLet (j112 0) fun j120 =>
  if x99 = 0 then
    j120
  else
    if 0 ≤ x101 then
      j120
    else
      j112 1
def yE (x91 x93 : Int32) (r94 : Int32 → Int32 → Int32 → Mm → Option (Int32 × Mm)) (x30 x83 x99 x92 : Int32) (m95 : Mm) (x71 p7 x87 x101 : Int32) : Option (Int32 × Mm) :=
  zLet (yH x91 x93 r94 x30 x83 x99 x101) fun j109 =>
  if 12 ≤ x92 then
    j109 x92 m95
  else
    zLet (zBI (n_Loo_rings x71 p7 x87 x93 m95) fun v125 m124 =>
    if v125 = x101 then
      zLet (x92 + 1) fun x127 =>
      j109 x127 m124
    else
      some (0, m124)) fun j123 =>
    if x99 = 0 then
      if x93 = 5 then
        if x87 = (x71 % 6) then
          j123
        else
          j109 x92 m95
      else
        j109 x92 m95
    else
      j123
theorem e_y1 (x91 x93 : Int32) (r94 : Int32 → Int32 → Int32 → Mm → Option (Int32 × Mm)) (x30 x83 x99 x92 : Int32) (m95 : Mm) (x71 p7 x87 : Int32) (r103 : Int32 → Int32 → Option (Int32 × Mm)) (x101 x102 : Int32) : l_Law_year_1 x91 x93 r94 x30 x83 x99 x92 m95 x71 p7 x87 r103 x101 x102 =
  if zIn 3 6 then
    if (zI m95 204 (zIx 3)) ≤ x102 then
      yE x91 x93 r94 x30 x83 x99 x92 m95 x71 p7 x87 x101
    else
      if x99 = 0 then
        yE x91 x93 r94 x30 x83 x99 x92 m95 x71 p7 x87 x101
      else
        if zIn (6 + (2 * x102)) 26 then
          zLet (fun (x132 : Int32) =>
            zLet (x102 + 1) fun x134 =>
            r103 x132 x134) fun j133 =>
          if (zI m95 206 (zIx (6 + (2 * x102)))) = x87 then
            if zIn x102 10 then
              zLet (zLet (j133 x102) fun j138 =>
              if x101 < 0 then
                j138
              else
                if zIn x102 10 then
                  if zIn x101 10 then
                    if (zI m95 (207 + 4) (zIx x101)) ≤ (zI m95 (207 + 4) (zIx x102)) then
                      j133 x101
                    else
                      j138
                  else none
                else none) fun j136 =>
              if (zI m95 (207 + 4) (zIx x102)) ≤ 0 then
                j136
              else
                if zIn x102 10 then
                  if zIn (7 + (2 * x102)) 26 then
                    if (zI m95 206 (zIx (7 + (2 * x102)))) < (x30 - (zI m95 (207 + 5) (zIx x102))) then
                      j136
                    else
                      j133 x101
                  else none
                else none
            else none
          else
            j133 x101
        else none
  else none := by
  unfold l_Law_year_1 yE yH
  rfl
section LRG
variable {M : Mm} {N nb nR t y : Nat} {fr : Nat → Nat → Int} {Rv F Y E PR RE BE : Nat → Int} {s : RS} {d ld sil B : Int} {p f b : Nat}
theorem yH_eq (hH : HL M nR s) (hn : nR ≤ 10) (hb : RSb B s) (hB : B ≤ 1000000) {rg : Bool} (hrg : rg = false → rIts PR RE nR p d s = rIts PR RE nR p d s) (r94 : Int32 → Int32 → Int32 → Mm → Option (Int32 × Mm)) {nt : Int} (hld : d + nt = ld) (lk : Int32) :
    ∃ M', HL M' nR (if rg then rOne PR RE nR d ld f p b s else s) ∧ FH M M' ∧ yH (i3 s.2.2.2) (i3 b) r94 (i3 d) (i3 nt) (b3 rg) (i3 (if rg then rIts PR RE nR p d s else -1)) lk M = r94 (i3 (if rg then rOne PR RE nR d ld f p b s else s).2.2.2) lk (i3 ((b + 1 : Nat) : Int)) M' := by
  unfold yH
  simp only [zLet_q, ad1]
  cases rg with
  | false =>
    refine ⟨M, hH, FH.refl, ?_⟩
    rw [if_pos (show b3 false = 0 by decide)]
    show (if (0 : Int32) ≤ i3 (-1) then _ else _) = _
    rw [if_neg (by decide), show (0 : Int32) = i3 0 from rfl, i3_add, Int.add_zero]
    rfl
  | true =>
    rw [if_neg (show ¬ b3 true = 0 by decide)]
    simp only [if_true]
    rcases rIts_cases (PR := PR) (RE := RE) (nR := nR) (p := p) (d := d) (s := s) with e | ⟨g, hg, e⟩
    · refine ⟨M, ?_, FH.refl, ?_⟩
      · unfold rOne
        rw [if_pos e]
        exact hH
      · unfold rOne
        rw [if_pos e, e, if_neg (show ¬ (0 : Int32) ≤ i3 (-1) by decide), if_neg (show ¬ (0 : Int32) ≤ i3 (-1) by decide), show (1 : Int32) = i3 1 from rfl, i3_add]
    · obtain ⟨h1, h2⟩ := in_n (k := g) (n := 10) (by omega) (by decide)
      have h0 : (0 : Int32) ≤ i3 (g : Int) := by
        rw [show (0 : Int32) = i3 0 from rfl, i3_le ⟨by decide, by decide⟩ ⟨by omega, by omega⟩]
        omega
      refine ⟨wI (wI M (207 + 4) g (i3 (s.2.1 g + 1))) (207 + 5) g (i3 ld), ?_, FH.w4.trans FH.w5, ?_⟩
      · unfold rOne
        rw [if_neg (by omega), e, Int.toNat_natCast]
        intro n hnn
        show zI _ (207 + 4) n = i3 (upI s.2.1 g (s.2.1 g + 1) n) ∧ (upI s.2.1 g (s.2.1 g + 1) n ≠ 0 → zI _ (207 + 5) n = i3 (upI s.1 g ld n))
        unfold upI
        by_cases en : n = g
        · rw [if_pos en, if_pos en, zI_ne (by decide), en, zI_eq, zI_eq]
          exact ⟨rfl, fun _ => rfl⟩
        · rw [if_neg en, if_neg en, zI_ne (by decide), zI_nk en, zI_nk en, zI_ne (by decide)]
          exact hH n hnn
      · have eO : rOne PR RE nR d ld f p b s = (upI s.1 g ld, upI s.2.1 g (s.2.1 g + 1), upI s.2.2.1 (36 * f + (6 * p + b)) (g : Int), s.2.2.2) := by
          unfold rOne
          rw [if_neg (by omega), e, Int.toNat_natCast]
        rw [eO, e, if_pos h0, if_pos h0, if_pos h1, if_pos h1, if_pos h1, h2, (hH g hg).1, i3_add1, i3_add, hld, show (0 : Int32) = i3 0 from rfl, i3_add, Int.add_zero]
/-- what the class answers is asked for, or not -/
theorem yE_eq (hH : HL M nR s) (hn : nR ≤ 10) (hb : RSb B s) (hB : B ≤ 1000000) {rg : Bool} {lk : Int} (hlk : 0 ≤ lk ∧ lk ≤ 12) (r94 : Int32 → Int32 → Int32 → Mm → Option (Int32 × Mm)) {nt : Int} (hld : d + nt = ld)
    (hcall : ∃ m1, n_Loo_rings (i3 f) (i3 y) (i3 p) (i3 b) M = some (i3 (if rg then rIts PR RE nR p d s else -1), m1) ∧ SF M m1) :
    ∃ M' lk', (0 ≤ lk' ∧ lk' ≤ 12) ∧ HL M' nR (if rg then rOne PR RE nR d ld f p b s else s) ∧ FH M M' ∧ yE (i3 s.2.2.2) (i3 b) r94 (i3 d) (i3 nt) (b3 rg) (i3 lk) M (i3 f) (i3 y) (i3 p) (i3 (if rg then rIts PR RE nR p d s else -1)) = r94 (i3 (if rg then rOne PR RE nR d ld f p b s else s).2.2.2) (i3 lk') (i3 ((b + 1 : Nat) : Int)) M' := by
  obtain ⟨M0, a1, a2, a3⟩ := yH_eq (PR := PR) (RE := RE) (p := p) (f := f) (b := b) hH hn hb hB (rg := rg) (fun _ => rfl) r94 hld (i3 lk)
  obtain ⟨m1, e1, hS⟩ := hcall
  obtain ⟨M1, b1, b2, b3'⟩ := yH_eq (PR := PR) (RE := RE) (p := p) (f := f) (b := b) (hH.sf hS) hn hb hB (rg := rg) (fun _ => rfl) r94 hld (i3 (lk + 1))
  unfold yE
  simp only [zLet_q]
  rw [show (12 : Int32) = i3 12 from rfl, it_le ⟨by decide, by decide⟩ ⟨by omega, by omega⟩]
  by_cases c : 12 ≤ lk
  · rw [if_pos c]
    exact ⟨M0, lk, hlk, a1, a2, a3⟩
  · rw [if_neg c, e1, zBI_some, if_pos rfl, i3_add1]
    by_cases c1 : b3 rg = 0
    · rw [if_pos c1]
      by_cases c2 : i3 (b : Int) = 5
      · rw [if_pos c2]
        by_cases c3 : i3 (p : Int) = i3 (f : Int) % 6
        · rw [if_pos c3]
          exact ⟨M1, lk + 1, ⟨by omega, by omega⟩, b1, hS.fh.trans b2, b3'⟩
        · rw [if_neg c3]
          exact ⟨M0, lk, hlk, a1, a2, a3⟩
      · rw [if_neg c2]
        exact ⟨M0, lk, hlk, a1, a2, a3⟩
    · rw [if_neg c1]
      exact ⟨M1, lk + 1, ⟨by omega, by omega⟩, b1, hS.fh.trans b2, b3'⟩
/-- the best ringer is looked for; then the class is asked -/
theorem ring1 (hg : zI M 204 3 = i3 nR) (hw : ∀ k, k < nR → zI M 206 (6 + 2 * k) = i3 (PR k) ∧ zI M 206 (7 + 2 * k) = i3 (RE k)) (hv : vRg nR PR RE) (hH : HL M nR s) (hn : nR ≤ 10) (hb : RSb B s) (hB : B ≤ 1000000) (hd : 0 ≤ d ∧ d ≤ 400) (hp : p < 6) {rg : Bool} {lk : Int} (hlk : 0 ≤ lk ∧ lk ≤ 12) (r94 : Int32 → Int32 → Int32 → Mm → Option (Int32 × Mm)) {nt : Int} (hld : d + nt = ld)
    (hcall : ∃ m1, n_Loo_rings (i3 f) (i3 y) (i3 p) (i3 b) M = some (i3 (if rg then rIts PR RE nR p d s else -1), m1) ∧ SF M m1) :
    ∃ M' lk', (0 ≤ lk' ∧ lk' ≤ 12) ∧ HL M' nR (if rg then rOne PR RE nR d ld f p b s else s) ∧ FH M M' ∧ zLq2 (l_Law_year_1 (i3 s.2.2.2) (i3 b) r94 (i3 d) (i3 nt) (b3 rg) (i3 lk) M (i3 f) (i3 y) (i3 p)) zFu (-1) 0 = r94 (i3 (if rg then rOne PR RE nR d ld f p b s else s).2.2.2) (i3 lk') (i3 ((b + 1 : Nat) : Int)) M' := by
  obtain ⟨M', lk', h1, h2, h3, h4⟩ := yE_eq hH hn hb hB hlk r94 hld hcall
  refine ⟨M', lk', h1, h2, h3, ?_⟩
  have z3 : zIn (3 : Int32) 6 ∧ zIx (3 : Int32) = 3 := by decide
  cases rg with
  | false =>
    refine run_zLq2 (fun j x101 x102 => j = 0 ∧ x101 = i3 (-1)) ?_ zFu 0 _ _ ⟨rfl, rfl⟩ (by unfold zFu; omega)
    rintro r j _ x102 ⟨rfl, rfl⟩
    left
    rw [e_y1, if_pos z3.1, if_pos (show b3 false = 0 by decide)]
    split
    · exact h4
    · exact h4
  | true =>
    generalize hR : (fun k => -(s.2.1 k)) = R at *
    have hRe : ∀ k, R k = -(s.2.1 k) := fun k => by rw [← hR]
    have hits : rIts PR RE nR p d s = bst R (rFr PR RE p d s) nR := by
      unfold rIts
      rw [hR]
    refine run_zLq2 (fun j x101 x102 => ∃ i : Nat, x101 = i3 (bst R (rFr PR RE p d s) i) ∧ x102 = i3 i ∧ i ≤ nR ∧ j = nR - i) ?_ zFu nR _ _ ⟨0, rfl, rfl, Nat.zero_le _, rfl⟩ (by unfold zFu; omega)
    rintro r j _ _ ⟨i, rfl, rfl, hi, rfl⟩
    rw [e_y1, if_pos z3.1, z3.2, hg, it_le ⟨by omega, by omega⟩ ⟨by omega, by omega⟩, if_neg (show ¬ b3 true = 0 by decide)]
    by_cases e : (nR : Int) ≤ i
    · left
      rw [if_pos e, show i = nR by omega, ← hits]
      exact h4
    · right
      have hlt : i < nR := by omega
      obtain ⟨v1, v2⟩ := hv.2 i hlt
      obtain ⟨w1, w2⟩ := hw i hlt
      obtain ⟨g1, g2⟩ := hH i hlt
      have ci := hb.1 i
      have cl := hb.2.1 i
      obtain ⟨i1, x1⟩ := in_n (k := i) (n := 10) (by omega) (by decide)
      obtain ⟨i2, x2⟩ := in_n (k := 6 + 2 * i) (n := 26) (by omega) (by decide)
      obtain ⟨i3', x3⟩ := in_n (k := 7 + 2 * i) (n := 26) (by omega) (by decide)
      have q6 : (6 : Int32) + 2 * i3 (i : Int) = i3 ((6 + 2 * i : Nat) : Int) := by rw [show (2 : Int32) = i3 2 from rfl, i3_mul, show (6 : Int32) = i3 6 from rfl, i3_add]; rfl
      have q7 : (7 : Int32) + 2 * i3 (i : Int) = i3 ((7 + 2 * i : Nat) : Int) := by rw [show (2 : Int32) = i3 2 from rfl, i3_mul, show (7 : Int32) = i3 7 from rfl, i3_add]; rfl
      refine ⟨i3 (bst R (rFr PR RE p d s) (i + 1)), i3 ((i + 1 : Nat) : Int), nR - (i + 1), by omega, ⟨i + 1, rfl, rfl, hlt, rfl⟩, ?_⟩
      rw [if_neg e, q6, q7, if_pos i2, x2, x3]
      simp only [zLet_q, if_pos i1, if_pos i3', x1, w1, w2, g1, ad1]
      rw [it_eq ⟨by omega, by omega⟩ ⟨by omega, by omega⟩, bst_succ]
      by_cases c1 : PR i = (p : Int)
      · rw [if_pos c1]
        have hask : (s.2.1 i = 0 ∨ RE i < d - s.1 i) → rFr PR RE p d s i = true := fun h => decide_eq_true ⟨c1, h⟩
        have hnot : ¬ (s.2.1 i = 0 ∨ RE i < d - s.1 i) → rFr PR RE p d s i = false := fun h => decide_eq_false (fun z => h z.2)
        -- a ringer who may ring
        have hyes : rFr PR RE p d s i = true → (if i3 (bst R (rFr PR RE p d s) i) < 0 then r (i3 (i : Int)) (i3 ((i + 1 : Nat) : Int)) else if zIn (i3 (bst R (rFr PR RE p d s) i)) 10 then if zI M (207 + 4) (zIx (i3 (bst R (rFr PR RE p d s) i))) ≤ i3 (s.2.1 i) then r (i3 (bst R (rFr PR RE p d s) i)) (i3 ((i + 1 : Nat) : Int)) else r (i3 (i : Int)) (i3 ((i + 1 : Nat) : Int)) else none) = r (i3 (if rFr PR RE p d s i then (if bst R (rFr PR RE p d s) i = -1 then (i : Int) else if R i ≤ R (bst R (rFr PR RE p d s) i).toNat then bst R (rFr PR RE p d s) i else i) else bst R (rFr PR RE p d s) i)) (i3 ((i + 1 : Nat) : Int)) := by
          intro hf
          rw [if_pos hf]
          rcases bst_cases (R := R) (ask := rFr PR RE p d s) i with e2 | ⟨g, h5, h6, -⟩
          · rw [e2, if_pos (show i3 (-1) < 0 by decide), if_pos rfl]
          · have cg := hb.1 g
            obtain ⟨j1, j2⟩ := in_n (k := g) (n := 10) (by omega) (by decide)
            rw [h6, it_lt0 ⟨by omega, by omega⟩, if_neg (by omega), if_neg (show ¬ (g : Int) = -1 by omega), if_pos j1, j2, (hH g (by omega)).1, it_le ⟨by omega, by omega⟩ ⟨by omega, by omega⟩, Int.toNat_natCast, hRe, hRe]
            by_cases c : s.2.1 g ≤ s.2.1 i
            · rw [if_pos c, if_pos (show -(s.2.1 i) ≤ -(s.2.1 g) by omega)]
            · rw [if_neg c, if_neg (show ¬ -(s.2.1 i) ≤ -(s.2.1 g) by omega)]
        rw [show (if i3 (s.2.1 i) ≤ 0 then (if i3 (bst R (rFr PR RE p d s) i) < 0 then r (i3 (i : Int)) (i3 ((i + 1 : Nat) : Int)) else if zIn (i3 (bst R (rFr PR RE p d s) i)) 10 then if zI M (207 + 4) (zIx (i3 (bst R (rFr PR RE p d s) i))) ≤ i3 (s.2.1 i) then r (i3 (bst R (rFr PR RE p d s) i)) (i3 ((i + 1 : Nat) : Int)) else r (i3 (i : Int)) (i3 ((i + 1 : Nat) : Int)) else none) else if i3 (RE i) < i3 d - zI M (207 + 5) i then (if i3 (bst R (rFr PR RE p d s) i) < 0 then r (i3 (i : Int)) (i3 ((i + 1 : Nat) : Int)) else if zIn (i3 (bst R (rFr PR RE p d s) i)) 10 then if zI M (207 + 4) (zIx (i3 (bst R (rFr PR RE p d s) i))) ≤ i3 (s.2.1 i) then r (i3 (bst R (rFr PR RE p d s) i)) (i3 ((i + 1 : Nat) : Int)) else r (i3 (i : Int)) (i3 ((i + 1 : Nat) : Int)) else none) else r (i3 (bst R (rFr PR RE p d s) i)) (i3 ((i + 1 : Nat) : Int))) = (if s.2.1 i ≤ 0 then (if i3 (bst R (rFr PR RE p d s) i) < 0 then r (i3 (i : Int)) (i3 ((i + 1 : Nat) : Int)) else if zIn (i3 (bst R (rFr PR RE p d s) i)) 10 then if zI M (207 + 4) (zIx (i3 (bst R (rFr PR RE p d s) i))) ≤ i3 (s.2.1 i) then r (i3 (bst R (rFr PR RE p d s) i)) (i3 ((i + 1 : Nat) : Int)) else r (i3 (i : Int)) (i3 ((i + 1 : Nat) : Int)) else none) else if i3 (RE i) < i3 d - zI M (207 + 5) i then (if i3 (bst R (rFr PR RE p d s) i) < 0 then r (i3 (i : Int)) (i3 ((i + 1 : Nat) : Int)) else if zIn (i3 (bst R (rFr PR RE p d s) i)) 10 then if zI M (207 + 4) (zIx (i3 (bst R (rFr PR RE p d s) i))) ≤ i3 (s.2.1 i) then r (i3 (bst R (rFr PR RE p d s) i)) (i3 ((i + 1 : Nat) : Int)) else r (i3 (i : Int)) (i3 ((i + 1 : Nat) : Int)) else none) else r (i3 (bst R (rFr PR RE p d s) i)) (i3 ((i + 1 : Nat) : Int))) from it_le (b := 0) ⟨by omega, by omega⟩ ⟨by decide, by decide⟩]
        by_cases c2 : s.2.1 i ≤ 0
        · rw [if_pos c2]
          exact hyes (hask (Or.inl (by omega)))
        · rw [if_neg c2, g2 (by omega), i3_sub, it_lt ⟨by omega, by omega⟩ ⟨by omega, by omega⟩]
          by_cases c3 : RE i < d - s.1 i
          · rw [if_pos c3]
            exact hyes (hask (Or.inr c3))
          · rw [if_neg c3, hnot (fun z => z.elim (fun z => c2 (by omega)) c3)]
            rfl
      · rw [if_neg c1, show rFr PR RE p d s i = false from decide_eq_false (fun z => c1 z.1)]
        rfl
end LRG
