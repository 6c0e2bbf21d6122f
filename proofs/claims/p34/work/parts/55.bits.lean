/-! SETS OF FEASTS AS BITS -/
theorem i3_bv (N : Nat) : (i3 N).toBitVec = BitVec.ofNat 32 N := by
  rw [i3_litN]
  rfl
theorem i3_or {N M : Nat} : i3 N ||| i3 M = i3 ((N ||| M : Nat)) := by
  apply Int32.toBitVec.inj
  rw [Int32.toBitVec_or, i3_bv, i3_bv, i3_bv]
  apply BitVec.eq_of_getLsbD_eq
  intro i hi
  simp [Nat.testBit_or, hi]
theorem i3_pow {k : Nat} (hk : k < 20) : ((1 : Int32) <<< (i3 ((k : Nat) : Int) &&& 31)) = i3 ((2 ^ k : Nat)) := by
  have h1 : ∀ k : Nat, k < 20 → ((1 : Int32) <<< (i3 ((k : Nat) : Int) &&& 31)) = i3 ((2 ^ k : Nat)) := by decide +kernel
  exact h1 k hk
def bt (b : Bool) : Int := if b then 1 else 0
theorem bt_bv {N k : Nat} (hk : k < 20) (hN : N < 2147483648) {x : BitVec 32} (h : ∀ i, i < 32 → x.getLsbD i = (decide (i = 0) && N.testBit k)) : x = (i3 (bt (N.testBit k))).toBitVec := by
  apply BitVec.eq_of_getLsbD_eq
  intro i hi
  rw [h i hi]
  cases hb : N.testBit k with
  | false =>
    have : (i3 (bt false)).toBitVec = 0#32 := by decide
    rw [this]
    simp
  | true =>
    have : (i3 (bt true)).toBitVec = 1#32 := by decide
    rw [this]
    simp
theorem and1_bit {x : BitVec 32} {i : Nat} (hi : i < 32) : (x &&& 1#32).getLsbD i = (decide (i = 0) && x.getLsbD 0) := by
  rw [BitVec.getLsbD_and]
  cases i with
  | zero => simp
  | succ i => simp
theorem i3_tb {N k : Nat} (hk : k < 20) (hN : N < 2147483648) : ((i3 N >>> (i3 ((k : Nat) : Int) &&& 31)) &&& 1) = i3 (bt (N.testBit k)) := by
  have h1 : ∀ k : Nat, k < 20 → ((i3 ((k : Nat) : Int) &&& 31).toBitVec.smod 32).toNat = k := by decide +kernel
  apply Int32.toBitVec.inj
  refine bt_bv hk hN (fun i hi => ?_)
  rw [Int32.toBitVec_and, Int32.toBitVec_shiftRight, BitVec.sshiftRight_eq', h1 k hk]
  rw [show (1 : Int32).toBitVec = 1#32 from rfl, and1_bit hi, BitVec.getLsbD_sshiftRight, i3_bv, Nat.add_zero, BitVec.getLsbD_ofNat]
  simp [show k < 32 by omega]
theorem i3_tbu {N k : Nat} (hk : k < 20) (hN : N < 2147483648) : ((((i3 N).toUInt32 >>> ((i3 ((k : Nat) : Int)).toUInt32 &&& Int32.toUInt32 31)).toInt32) &&& 1) = i3 (bt (N.testBit k)) := by
  have h1 : ∀ k : Nat, k < 20 → (((i3 ((k : Nat) : Int)).toUInt32 &&& Int32.toUInt32 31).toBitVec % 32).toNat = k := by decide +kernel
  apply Int32.toBitVec.inj
  refine bt_bv hk hN (fun i hi => ?_)
  rw [Int32.toBitVec_and, UInt32.toBitVec_toInt32, UInt32.toBitVec_shiftRight, BitVec.ushiftRight_eq', h1 k hk]
  rw [show (1 : Int32).toBitVec = 1#32 from rfl, and1_bit hi, BitVec.getLsbD_ushiftRight, Int32.toBitVec_toUInt32, i3_bv, Nat.add_zero, BitVec.getLsbD_ofNat]
  simp [show k < 32 by omega]
theorem bt_0 {b : Bool} : (i3 (bt b) = 0) ↔ b = false := by
  cases b <;> decide
theorem bt_1 {b : Bool} : (i3 (bt b) = 1) ↔ b = true := by
  cases b <;> decide
