theorem zrem (x y : Int32) : x - x / y * y = x % y := by
  apply Int32.toInt_inj.mp
  rw [Int32.toInt_sub, Int32.toInt_mul, Int32.toInt_div, Int32.toInt_mod]
  simp only [Int.bmod_mul_bmod, Int.sub_bmod_bmod]
  have h : x.toInt - x.toInt.tdiv y.toInt * y.toInt = x.toInt.tmod y.toInt := by
    have := Int.tmod_def x.toInt y.toInt
    rw [this, Int.mul_comm]
  rw [h]
  have h1 := Int32.toInt_mod x y
  have h2 := Int32.toInt_lt (x % y)
  have h3 := Int32.le_toInt (x % y)
  rw [h1] at h2 h3
  exact Int.bmod_eq_of_le (by omega) (by omega)
section ROWB
variable {ω0 ω : Wd} {ph : Bool} {D mc ms : Nat} {κ : Kx} {α : Type} {φ : α → Zo} {c0 s0 : Nat} {m : Mm} {pc : Nat} {ls : List (Option Value)} {st : List Value} {t t1 t2 : Option α}
theorem x_iadd {x y : Int32} (d : decode κ.2.1 pc = .ok (.iadd, 1))  (k : Sx ω0 ω ph D mc ms κ φ c0 s0 m (pc + 1) ls (.int (x + y) :: st) t) : Sx ω0 ω ph D mc ms κ φ c0 s0 m (pc) ls (.int y :: .int x :: st) t :=
  Sx.go (fun C L k => lv_iadd C.1 C.2.1 d  (k _ L)) k
theorem x_isub {x y : Int32} (d : decode κ.2.1 pc = .ok (.isub, 1))  (k : Sx ω0 ω ph D mc ms κ φ c0 s0 m (pc + 1) ls (.int (x - y) :: st) t) : Sx ω0 ω ph D mc ms κ φ c0 s0 m (pc) ls (.int y :: .int x :: st) t :=
  Sx.go (fun C L k => lv_isub C.1 C.2.1 d  (k _ L)) k
theorem x_imul {x y : Int32} (d : decode κ.2.1 pc = .ok (.imul, 1))  (k : Sx ω0 ω ph D mc ms κ φ c0 s0 m (pc + 1) ls (.int (x * y) :: st) t) : Sx ω0 ω ph D mc ms κ φ c0 s0 m (pc) ls (.int y :: .int x :: st) t :=
  Sx.go (fun C L k => lv_imul C.1 C.2.1 d  (k _ L)) k
theorem x_iand {x y : Int32} (d : decode κ.2.1 pc = .ok (.iand, 1))  (k : Sx ω0 ω ph D mc ms κ φ c0 s0 m (pc + 1) ls (.int (x &&& y) :: st) t) : Sx ω0 ω ph D mc ms κ φ c0 s0 m (pc) ls (.int y :: .int x :: st) t :=
  Sx.go (fun C L k => lv_iand C.1 C.2.1 d  (k _ L)) k
theorem x_ior {x y : Int32} (d : decode κ.2.1 pc = .ok (.ior, 1))  (k : Sx ω0 ω ph D mc ms κ φ c0 s0 m (pc + 1) ls (.int (x ||| y) :: st) t) : Sx ω0 ω ph D mc ms κ φ c0 s0 m (pc) ls (.int y :: .int x :: st) t :=
  Sx.go (fun C L k => lv_ior C.1 C.2.1 d  (k _ L)) k
theorem x_ixor {x y : Int32} (d : decode κ.2.1 pc = .ok (.ixor, 1))  (k : Sx ω0 ω ph D mc ms κ φ c0 s0 m (pc + 1) ls (.int (x ^^^ y) :: st) t) : Sx ω0 ω ph D mc ms κ φ c0 s0 m (pc) ls (.int y :: .int x :: st) t :=
  Sx.go (fun C L k => lv_ixor C.1 C.2.1 d  (k _ L)) k
theorem x_ishl {x y : Int32} (d : decode κ.2.1 pc = .ok (.ishl, 1))  (k : Sx ω0 ω ph D mc ms κ φ c0 s0 m (pc + 1) ls (.int (x <<< (y &&& 31)) :: st) t) : Sx ω0 ω ph D mc ms κ φ c0 s0 m (pc) ls (.int y :: .int x :: st) t :=
  Sx.go (fun C L k => lv_ishl C.1 C.2.1 d  (k _ L)) k
theorem x_ishr {x y : Int32} (d : decode κ.2.1 pc = .ok (.ishr, 1))  (k : Sx ω0 ω ph D mc ms κ φ c0 s0 m (pc + 1) ls (.int (x >>> (y &&& 31)) :: st) t) : Sx ω0 ω ph D mc ms κ φ c0 s0 m (pc) ls (.int y :: .int x :: st) t :=
  Sx.go (fun C L k => lv_ishr C.1 C.2.1 d  (k _ L)) k
theorem x_iushr {x y : Int32} (d : decode κ.2.1 pc = .ok (.iushr, 1))  (k : Sx ω0 ω ph D mc ms κ φ c0 s0 m (pc + 1) ls (.int ((x.toUInt32 >>> (y.toUInt32 &&& Int32.toUInt32 31)).toInt32) :: st) t) : Sx ω0 ω ph D mc ms κ φ c0 s0 m (pc) ls (.int y :: .int x :: st) t :=
  Sx.go (fun C L k => lv_iushr C.1 C.2.1 d rfl (k _ L)) k
theorem x_idiv {x y : Int32} (d : decode κ.2.1 pc = .ok (.idiv, 1)) (hne : ¬ y = 0) (k : Sx ω0 ω ph D mc ms κ φ c0 s0 m (pc + 1) ls (.int (x / y) :: st) t) : Sx ω0 ω ph D mc ms κ φ c0 s0 m (pc) ls (.int y :: .int x :: st) t :=
  Sx.go (fun C L k => lv_idiv C.1 C.2.1 d hne (k _ L)) k
theorem x_irem {x y : Int32} (d : decode κ.2.1 pc = .ok (.irem, 1)) (hne : ¬ y = 0) (k : Sx ω0 ω ph D mc ms κ φ c0 s0 m (pc + 1) ls (.int (x % y) :: st) t) : Sx ω0 ω ph D mc ms κ φ c0 s0 m (pc) ls (.int y :: .int x :: st) t :=
  Sx.go (fun C L k => lv_irem C.1 C.2.1 d hne (by rw [zrem]; exact k _ L)) k
theorem x_ineg {x : Int32} (d : decode κ.2.1 pc = .ok (.ineg, 1))  (k : Sx ω0 ω ph D mc ms κ φ c0 s0 m (pc + 1) ls (.int (-x) :: st) t) : Sx ω0 ω ph D mc ms κ φ c0 s0 m (pc) ls (.int x :: st) t :=
  Sx.go (fun C L k => lv_ineg C.1 C.2.1 d  (k _ L)) k
theorem x_ladd {x y : Int64} (d : decode κ.2.1 pc = .ok (.ladd, 1))  (k : Sx ω0 ω ph D mc ms κ φ c0 s0 m (pc + 1) ls (.long (x + y) :: st) t) : Sx ω0 ω ph D mc ms κ φ c0 s0 m (pc) ls (.long y :: .long x :: st) t :=
  Sx.go (fun C L k => lv_ladd C.1 C.2.1 d  (k _ L)) k
theorem x_i2l {x : Int32} (d : decode κ.2.1 pc = .ok (.i2l, 1))  (k : Sx ω0 ω ph D mc ms κ φ c0 s0 m (pc + 1) ls (.long x.toInt64 :: st) t) : Sx ω0 ω ph D mc ms κ φ c0 s0 m (pc) ls (.int x :: st) t :=
  Sx.go (fun C L k => lv_i2l C.1 C.2.1 d rfl (k _ L)) k
theorem x_i2c {x : Int32} (d : decode κ.2.1 pc = .ok (.i2c, 1))  (k : Sx ω0 ω ph D mc ms κ φ c0 s0 m (pc + 1) ls (.int (x.toUInt32 % 65536).toInt32 :: st) t) : Sx ω0 ω ph D mc ms κ φ c0 s0 m (pc) ls (.int x :: st) t :=
  Sx.go (fun C L k => lv_i2c C.1 C.2.1 d rfl (k _ L)) k
theorem x_lcmp {x y : Int64} (d : decode κ.2.1 pc = .ok (.lcmp, 1))  (k : Sx ω0 ω ph D mc ms κ φ c0 s0 m (pc + 1) ls (.int (lg_cmp x y) :: st) t) : Sx ω0 ω ph D mc ms κ φ c0 s0 m (pc) ls (.long y :: .long x :: st) t :=
  Sx.go (fun C L k => W.lcmp C.1 C.2.1 d  (k _ L)) k
theorem x_iconst {n : Int} {v : Int32} (d : decode κ.2.1 pc = .ok (.iconst n, 1)) (hv : Int32.ofInt n = v) (k : Sx ω0 ω ph D mc ms κ φ c0 s0 m (pc + 1) ls (.int v :: st) t) : Sx ω0 ω ph D mc ms κ φ c0 s0 m (pc) ls (st) t :=
  Sx.go (fun C L k => lv_iconst C.1 C.2.1 d hv (k _ L)) k
theorem x_bipush {n : Int} {v : Int32} (d : decode κ.2.1 pc = .ok (.bipush n, 2)) (hv : (Int8.ofInt n).toInt32 = v) (k : Sx ω0 ω ph D mc ms κ φ c0 s0 m (pc + 2) ls (.int v :: st) t) : Sx ω0 ω ph D mc ms κ φ c0 s0 m (pc) ls (st) t :=
  Sx.go (fun C L k => lv_bipush C.1 C.2.1 d hv (k _ L)) k
theorem x_sipush {n : Int} {v : Int32} (d : decode κ.2.1 pc = .ok (.sipush n, 3)) (hv : (Int16.ofInt n).toInt32 = v) (k : Sx ω0 ω ph D mc ms κ φ c0 s0 m (pc + 3) ls (.int v :: st) t) : Sx ω0 ω ph D mc ms κ φ c0 s0 m (pc) ls (st) t :=
  Sx.go (fun C L k => lv_sipush C.1 C.2.1 d hv (k _ L)) k
theorem x_lconst {n : Fin 2} {v : Int64} (d : decode κ.2.1 pc = .ok (.lconst n, 1)) (hv : Int64.ofNat (n : Nat) = v) (k : Sx ω0 ω ph D mc ms κ φ c0 s0 m (pc + 1) ls (.long v :: st) t) : Sx ω0 ω ph D mc ms κ φ c0 s0 m (pc) ls (st) t :=
  Sx.go (fun C L k => lv_lconst C.1 C.2.1 d hv (k _ L)) k
theorem x_dup {va : Value} (d : decode κ.2.1 pc = .ok (.dup, 1)) (hva : va.category = 1) (k : Sx ω0 ω ph D mc ms κ φ c0 s0 m (pc + 1) ls (va :: va :: st) t) : Sx ω0 ω ph D mc ms κ φ c0 s0 m (pc) ls (va :: st) t :=
  Sx.go (fun C L k => lv_dup C.1 C.2.1 d hva (k _ L)) k
theorem x_iload_n {k : Fin 4} {x : Int32} (d : decode κ.2.1 pc = .ok (.iload_n k, 1)) (h : ls[(k : Nat)]? = some (some (.int x))) (k : Sx ω0 ω ph D mc ms κ φ c0 s0 m (pc + 1) ls (.int x :: st) t) : Sx ω0 ω ph D mc ms κ φ c0 s0 m (pc) ls (st) t :=
  Sx.go (fun C L k => lv_iload_n C.1 C.2.1 d rfl (L.at h) (k _ L)) k
theorem x_iload {i : Nat} {x : Int32} (d : decode κ.2.1 pc = .ok (.iload i, 2)) (h : ls[i]? = some (some (.int x))) (k : Sx ω0 ω ph D mc ms κ φ c0 s0 m (pc + 2) ls (.int x :: st) t) : Sx ω0 ω ph D mc ms κ φ c0 s0 m (pc) ls (st) t :=
  Sx.go (fun C L k => lv_iload C.1 C.2.1 d (L.at h) (k _ L)) k
theorem x_aload_n {k : Fin 4} {x : Nat} (d : decode κ.2.1 pc = .ok (.aload_n k, 1)) (h : ls[(k : Nat)]? = some (some (.ref x))) (k : Sx ω0 ω ph D mc ms κ φ c0 s0 m (pc + 1) ls (.ref x :: st) t) : Sx ω0 ω ph D mc ms κ φ c0 s0 m (pc) ls (st) t :=
  Sx.go (fun C L k => lv_aload_n C.1 C.2.1 d rfl (L.at h) (k _ L)) k
theorem x_aload {i : Nat} {x : Nat} (d : decode κ.2.1 pc = .ok (.aload i, 2)) (h : ls[i]? = some (some (.ref x))) (k : Sx ω0 ω ph D mc ms κ φ c0 s0 m (pc + 2) ls (.ref x :: st) t) : Sx ω0 ω ph D mc ms κ φ c0 s0 m (pc) ls (st) t :=
  Sx.go (fun C L k => lv_aload C.1 C.2.1 d (L.at h) (k _ L)) k
theorem x_istore_n {k : Fin 4} {x : Int32} {ls' : List (Option Value)} (d : decode κ.2.1 pc = .ok (.istore_n k, 1)) (hn : (k : Nat) < κ.2.2.1) (h : ls.set (k : Nat) (some (.int x)) = ls') (k : Sx ω0 ω ph D mc ms κ φ c0 s0 m (pc + 1) ls' (st) t) : Sx ω0 ω ph D mc ms κ φ c0 s0 m (pc) ls (.int x :: st) t := by
  subst h
  exact Sx.go (fun C L k => lv_istore_n C.1 C.2.1 d rfl L.has hn rfl (fun la h => k la (L.store rfl h))) k
theorem x_istore {i : Nat} {x : Int32} {ls' : List (Option Value)} (d : decode κ.2.1 pc = .ok (.istore i, 2)) (hn : i < κ.2.2.1) (h : ls.set i (some (.int x)) = ls') (k : Sx ω0 ω ph D mc ms κ φ c0 s0 m (pc + 2) ls' (st) t) : Sx ω0 ω ph D mc ms κ φ c0 s0 m (pc) ls (.int x :: st) t := by
  subst h
  exact Sx.go (fun C L k => lv_istore C.1 C.2.1 d L.has hn rfl (fun la h => k la (L.store rfl h))) k
theorem x_astore_n {k : Fin 4} {x : Nat} {ls' : List (Option Value)} (d : decode κ.2.1 pc = .ok (.astore_n k, 1)) (hn : (k : Nat) < κ.2.2.1) (h : ls.set (k : Nat) (some (.ref x)) = ls') (k : Sx ω0 ω ph D mc ms κ φ c0 s0 m (pc + 1) ls' (st) t) : Sx ω0 ω ph D mc ms κ φ c0 s0 m (pc) ls (.ref x :: st) t := by
  subst h
  exact Sx.go (fun C L k => lv_astore_n C.1 C.2.1 d rfl L.has hn rfl (fun la h => k la (L.store rfl h))) k
theorem x_astore {i : Nat} {x : Nat} {ls' : List (Option Value)} (d : decode κ.2.1 pc = .ok (.astore i, 2)) (hn : i < κ.2.2.1) (h : ls.set i (some (.ref x)) = ls') (k : Sx ω0 ω ph D mc ms κ φ c0 s0 m (pc + 2) ls' (st) t) : Sx ω0 ω ph D mc ms κ φ c0 s0 m (pc) ls (.ref x :: st) t := by
  subst h
  exact Sx.go (fun C L k => lv_astore C.1 C.2.1 d L.has hn rfl (fun la h => k la (L.store rfl h))) k
theorem x_iinc {i : Nat} {n : Int} {x v : Int32} {ls' : List (Option Value)} (d : decode κ.2.1 pc = .ok (.iinc i n, 3)) (h0 : ls[i]? = some (some (.int x))) (hv : x + Int32.ofInt n = v) (hn : i < κ.2.2.1) (h : ls.set i (some (.int v)) = ls') (k : Sx ω0 ω ph D mc ms κ φ c0 s0 m (pc + 3) ls' (st) t) : Sx ω0 ω ph D mc ms κ φ c0 s0 m (pc) ls (st) t := by
  subst h
  obtain ⟨j, hj⟩ := List.getElem?_of_mem (zas_mem (q := (i, Value.int x)).mpr h0)
  exact Sx.go (fun C L k => lv_iinc C.1 C.2.1 d L.has hj hv hn rfl (fun la h => k la (L.store rfl h))) k
theorem x_if_eq {x : Int32} {off : Int} {tgt : Nat} (d : decode κ.2.1 pc = .ok (.ifCond .eq off, 3)) (ht : (pc : Int) + off = (tgt : Int)) (k1 : x = 0 → Sx ω0 ω ph D mc ms κ φ c0 s0 m (tgt) ls (st) t1) (k2 : ¬ (x = 0) → Sx ω0 ω ph D mc ms κ φ c0 s0 m (pc + 3) ls (st) t2) : Sx ω0 ω ph D mc ms κ φ c0 s0 m (pc) ls (.int x :: st) (if x = 0 then t1 else t2) :=
  Sx.go2 (fun C L k1 k2 => lv_if_eq C.1 C.2.1 d ht k1 k2) k1 k2
theorem x_if_ne {x : Int32} {off : Int} {tgt : Nat} (d : decode κ.2.1 pc = .ok (.ifCond .ne off, 3)) (ht : (pc : Int) + off = (tgt : Int)) (k1 : x = 0 → Sx ω0 ω ph D mc ms κ φ c0 s0 m (pc + 3) ls (st) t1) (k2 : ¬ (x = 0) → Sx ω0 ω ph D mc ms κ φ c0 s0 m (tgt) ls (st) t2) : Sx ω0 ω ph D mc ms κ φ c0 s0 m (pc) ls (.int x :: st) (if x = 0 then t1 else t2) :=
  Sx.go2 (fun C L k1 k2 => lv_if_ne C.1 C.2.1 d ht k2 k1) k1 k2
theorem x_if_lt {x : Int32} {off : Int} {tgt : Nat} (d : decode κ.2.1 pc = .ok (.ifCond .lt off, 3)) (ht : (pc : Int) + off = (tgt : Int)) (k1 : x < 0 → Sx ω0 ω ph D mc ms κ φ c0 s0 m (tgt) ls (st) t1) (k2 : ¬ (x < 0) → Sx ω0 ω ph D mc ms κ φ c0 s0 m (pc + 3) ls (st) t2) : Sx ω0 ω ph D mc ms κ φ c0 s0 m (pc) ls (.int x :: st) (if x < 0 then t1 else t2) :=
  Sx.go2 (fun C L k1 k2 => lv_if_lt C.1 C.2.1 d ht k1 k2) k1 k2
theorem x_if_ge {x : Int32} {off : Int} {tgt : Nat} (d : decode κ.2.1 pc = .ok (.ifCond .ge off, 3)) (ht : (pc : Int) + off = (tgt : Int)) (k1 : 0 ≤ x → Sx ω0 ω ph D mc ms κ φ c0 s0 m (tgt) ls (st) t1) (k2 : ¬ (0 ≤ x) → Sx ω0 ω ph D mc ms κ φ c0 s0 m (pc + 3) ls (st) t2) : Sx ω0 ω ph D mc ms κ φ c0 s0 m (pc) ls (.int x :: st) (if 0 ≤ x then t1 else t2) :=
  Sx.go2 (fun C L k1 k2 => lv_if_ge C.1 C.2.1 d ht k1 k2) k1 k2
theorem x_if_gt {x : Int32} {off : Int} {tgt : Nat} (d : decode κ.2.1 pc = .ok (.ifCond .gt off, 3)) (ht : (pc : Int) + off = (tgt : Int)) (k1 : 0 < x → Sx ω0 ω ph D mc ms κ φ c0 s0 m (tgt) ls (st) t1) (k2 : ¬ (0 < x) → Sx ω0 ω ph D mc ms κ φ c0 s0 m (pc + 3) ls (st) t2) : Sx ω0 ω ph D mc ms κ φ c0 s0 m (pc) ls (.int x :: st) (if 0 < x then t1 else t2) :=
  Sx.go2 (fun C L k1 k2 => lv_if_gt C.1 C.2.1 d ht k1 k2) k1 k2
theorem x_if_le {x : Int32} {off : Int} {tgt : Nat} (d : decode κ.2.1 pc = .ok (.ifCond .le off, 3)) (ht : (pc : Int) + off = (tgt : Int)) (k1 : x ≤ 0 → Sx ω0 ω ph D mc ms κ φ c0 s0 m (tgt) ls (st) t1) (k2 : ¬ (x ≤ 0) → Sx ω0 ω ph D mc ms κ φ c0 s0 m (pc + 3) ls (st) t2) : Sx ω0 ω ph D mc ms κ φ c0 s0 m (pc) ls (.int x :: st) (if x ≤ 0 then t1 else t2) :=
  Sx.go2 (fun C L k1 k2 => lv_if_le C.1 C.2.1 d ht k1 k2) k1 k2
theorem x_icmp_eq {x y : Int32} {off : Int} {tgt : Nat} (d : decode κ.2.1 pc = .ok (.if_icmp .eq off, 3)) (ht : (pc : Int) + off = (tgt : Int)) (k1 : x = y → Sx ω0 ω ph D mc ms κ φ c0 s0 m (tgt) ls (st) t1) (k2 : ¬ (x = y) → Sx ω0 ω ph D mc ms κ φ c0 s0 m (pc + 3) ls (st) t2) : Sx ω0 ω ph D mc ms κ φ c0 s0 m (pc) ls (.int y :: .int x :: st) (if x = y then t1 else t2) :=
  Sx.go2 (fun C L k1 k2 => lv_icmp_eq C.1 C.2.1 d ht k1 k2) k1 k2
theorem x_icmp_ne {x y : Int32} {off : Int} {tgt : Nat} (d : decode κ.2.1 pc = .ok (.if_icmp .ne off, 3)) (ht : (pc : Int) + off = (tgt : Int)) (k1 : x = y → Sx ω0 ω ph D mc ms κ φ c0 s0 m (pc + 3) ls (st) t1) (k2 : ¬ (x = y) → Sx ω0 ω ph D mc ms κ φ c0 s0 m (tgt) ls (st) t2) : Sx ω0 ω ph D mc ms κ φ c0 s0 m (pc) ls (.int y :: .int x :: st) (if x = y then t1 else t2) :=
  Sx.go2 (fun C L k1 k2 => lv_icmp_ne C.1 C.2.1 d ht k2 k1) k1 k2
theorem x_icmp_lt {x y : Int32} {off : Int} {tgt : Nat} (d : decode κ.2.1 pc = .ok (.if_icmp .lt off, 3)) (ht : (pc : Int) + off = (tgt : Int)) (k1 : x < y → Sx ω0 ω ph D mc ms κ φ c0 s0 m (tgt) ls (st) t1) (k2 : ¬ (x < y) → Sx ω0 ω ph D mc ms κ φ c0 s0 m (pc + 3) ls (st) t2) : Sx ω0 ω ph D mc ms κ φ c0 s0 m (pc) ls (.int y :: .int x :: st) (if x < y then t1 else t2) :=
  Sx.go2 (fun C L k1 k2 => lv_icmp_lt C.1 C.2.1 d ht k1 k2) k1 k2
theorem x_icmp_ge {x y : Int32} {off : Int} {tgt : Nat} (d : decode κ.2.1 pc = .ok (.if_icmp .ge off, 3)) (ht : (pc : Int) + off = (tgt : Int)) (k1 : y ≤ x → Sx ω0 ω ph D mc ms κ φ c0 s0 m (tgt) ls (st) t1) (k2 : ¬ (y ≤ x) → Sx ω0 ω ph D mc ms κ φ c0 s0 m (pc + 3) ls (st) t2) : Sx ω0 ω ph D mc ms κ φ c0 s0 m (pc) ls (.int y :: .int x :: st) (if y ≤ x then t1 else t2) :=
  Sx.go2 (fun C L k1 k2 => lv_icmp_ge C.1 C.2.1 d ht k1 k2) k1 k2
theorem x_icmp_gt {x y : Int32} {off : Int} {tgt : Nat} (d : decode κ.2.1 pc = .ok (.if_icmp .gt off, 3)) (ht : (pc : Int) + off = (tgt : Int)) (k1 : y < x → Sx ω0 ω ph D mc ms κ φ c0 s0 m (tgt) ls (st) t1) (k2 : ¬ (y < x) → Sx ω0 ω ph D mc ms κ φ c0 s0 m (pc + 3) ls (st) t2) : Sx ω0 ω ph D mc ms κ φ c0 s0 m (pc) ls (.int y :: .int x :: st) (if y < x then t1 else t2) :=
  Sx.go2 (fun C L k1 k2 => lv_icmp_gt C.1 C.2.1 d ht k1 k2) k1 k2
theorem x_icmp_le {x y : Int32} {off : Int} {tgt : Nat} (d : decode κ.2.1 pc = .ok (.if_icmp .le off, 3)) (ht : (pc : Int) + off = (tgt : Int)) (k1 : x ≤ y → Sx ω0 ω ph D mc ms κ φ c0 s0 m (tgt) ls (st) t1) (k2 : ¬ (x ≤ y) → Sx ω0 ω ph D mc ms κ φ c0 s0 m (pc + 3) ls (st) t2) : Sx ω0 ω ph D mc ms κ φ c0 s0 m (pc) ls (.int y :: .int x :: st) (if x ≤ y then t1 else t2) :=
  Sx.go2 (fun C L k1 k2 => lv_icmp_le C.1 C.2.1 d ht k1 k2) k1 k2
theorem x_goto {off : Int} {tgt : Nat} (d : decode κ.2.1 pc = .ok (.goto off, 3)) (ht : (pc : Int) + off = (tgt : Int)) (k : Sx ω0 ω ph D mc ms κ φ c0 s0 m (tgt) ls (st) t) : Sx ω0 ω ph D mc ms κ φ c0 s0 m (pc) ls (st) t :=
  Sx.go (fun C L k => lv_goto C.1 C.2.1 d ht (k _ L)) k
theorem x_lookup {dflt : Int} {ps : Array (Int × Int)} {len : Nat} {x : Int32} {off : Int} {tgt : Nat} (d : decode κ.2.1 pc = .ok (.lookupswitch dflt ps, len)) (hp : (ps.toList.zip (ps.toList.drop 1)).all (fun (a, next) => a.1 < next.1) = true) (ho : Op.lookupswitch.offset ps.toList dflt x.toInt = off) (ht : (pc : Int) + off = (tgt : Int)) (k : Sx ω0 ω ph D mc ms κ φ c0 s0 m (tgt) ls (st) t) : Sx ω0 ω ph D mc ms κ φ c0 s0 m (pc) ls (.int x :: st) t :=
  Sx.go (fun C L k => lv_lookup C.1 C.2.1 d hp ho ht (k _ L)) k
theorem x_tableOut {dflt lo hi : Int} {offs : Array Int} {len : Nat} {x : Int32} {tgt : Nat} (d : decode κ.2.1 pc = .ok (.tableswitch dflt lo hi offs, len)) (h : x.toInt < lo ∨ hi < x.toInt) (ht : (pc : Int) + dflt = (tgt : Int)) (k : Sx ω0 ω ph D mc ms κ φ c0 s0 m (tgt) ls (st) t) : Sx ω0 ω ph D mc ms κ φ c0 s0 m (pc) ls (.int x :: st) t :=
  Sx.go (fun C L k => lv_tableOut C.1 C.2.1 d h ht (k _ L)) k
theorem x_tableIn {dflt lo hi : Int} {offs : Array Int} {len : Nat} {x : Int32} {off : Int} {tgt : Nat} (d : decode κ.2.1 pc = .ok (.tableswitch dflt lo hi offs, len)) (h1 : ¬ x.toInt < lo) (h2 : ¬ hi < x.toInt) (ho : offs[(x.toInt - lo).toNat]? = some off) (ht : (pc : Int) + off = (tgt : Int)) (k : Sx ω0 ω ph D mc ms κ φ c0 s0 m (tgt) ls (st) t) : Sx ω0 ω ph D mc ms κ φ c0 s0 m (pc) ls (.int x :: st) t :=
  Sx.go (fun C L k => lv_tableIn C.1 C.2.1 d h1 h2 ho ht (k _ L)) k
end ROWB
