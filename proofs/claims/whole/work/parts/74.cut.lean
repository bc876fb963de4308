/-! cut to a sort: by shifts, by narrowing -/
theorem bv_cut (b : BitVec 64) (n : Nat) (hn : 0 < n) (h : n ≤ 64) (i : Nat) (hi : i < 64) : ((b <<< (64 - n)).sshiftRight (64 - n)).getLsbD i = if i < n then b.getLsbD i else b.getLsbD (n - 1) := by
  rw [BitVec.getLsbD_sshiftRight]
  by_cases c : i < n
  · rw [if_pos c]
    simp only [show ¬ 64 ≤ i by omega, decide_false, Bool.not_false, Bool.true_and, show 64 - n + i < 64 by omega, if_true, BitVec.getLsbD_shiftLeft]
    simp [show 64 - n + i < 64 by omega, show ¬ 64 - n + i < 64 - n by omega, show 64 - n + i - (64 - n) = i by omega]
  · rw [if_neg c]
    simp only [show ¬ 64 ≤ i by omega, decide_false, Bool.not_false, Bool.true_and, show ¬ 64 - n + i < 64 by omega, if_false, BitVec.msb_eq_getLsbD_last, BitVec.getLsbD_shiftLeft]
    simp [show ¬ 63 < 64 - n by omega, show 63 - (64 - n) = n - 1 by omega]
theorem cutL (x s : Int64) {n : Nat} (hs : (s.toBitVec.smod 64).toNat = 64 - n) : ((x <<< s) >>> s).toBitVec = (x.toBitVec <<< (64 - n)).sshiftRight (64 - n) := by
  show (x.toBitVec <<< (s.toBitVec.smod 64)).sshiftRight' (s.toBitVec.smod 64) = _
  rw [BitVec.sshiftRight', BitVec.shiftLeft_eq', hs]
theorem cut_b {x s y : Int64} {n : Nat} (hn : 0 < n) (h : n ≤ 64) (hs : (s.toBitVec.smod 64).toNat = 64 - n) (hy : ∀ i, i < 64 → y.toBitVec.getLsbD i = if i < n then x.toBitVec.getLsbD i else x.toBitVec.getLsbD (n - 1)) : (x <<< s) >>> s = y := by
  apply Int64.toBitVec_inj.mp
  apply BitVec.eq_of_getLsbD_eq
  intro i hi
  rw [cutL x s hs, bv_cut _ n hn h i hi, hy i hi]
theorem nar8 (x : Int64) (i : Nat) (hi : i < 64) : (x.toInt32.toInt8.toInt32.toInt64).toBitVec.getLsbD i = if i < 8 then x.toBitVec.getLsbD i else x.toBitVec.getLsbD (8 - 1) := by
  rw [Int32.toBitVec_toInt64, Int8.toBitVec_toInt32, Int32.toBitVec_toInt8, Int64.toBitVec_toInt32]
  by_cases c : i < 8
  · simp only [BitVec.getLsbD_signExtend, BitVec.msb_eq_getLsbD_last, hi, decide_true, Bool.true_and, if_true, if_false, Nat.reduceSub, show (7 : Nat) < 8 by decide, show (7 : Nat) < 32 by decide, show (7 : Nat) < 64 by decide, show (31 : Nat) < 32 by decide, show (31 : Nat) < 64 by decide, show ¬ (31 : Nat) < 8 by decide, c, show i < 32 by omega]
  · by_cases c2 : i < 32
    · simp only [BitVec.getLsbD_signExtend, BitVec.msb_eq_getLsbD_last, hi, decide_true, Bool.true_and, if_true, if_false, Nat.reduceSub, show (7 : Nat) < 8 by decide, show (7 : Nat) < 32 by decide, show (7 : Nat) < 64 by decide, show (31 : Nat) < 32 by decide, show (31 : Nat) < 64 by decide, show ¬ (31 : Nat) < 8 by decide, c, c2]
    · simp only [BitVec.getLsbD_signExtend, BitVec.msb_eq_getLsbD_last, hi, decide_true, Bool.true_and, if_true, if_false, Nat.reduceSub, show (7 : Nat) < 8 by decide, show (7 : Nat) < 32 by decide, show (7 : Nat) < 64 by decide, show (31 : Nat) < 32 by decide, show (31 : Nat) < 64 by decide, show ¬ (31 : Nat) < 8 by decide, c, c2]
theorem nar32 (x : Int64) (i : Nat) (hi : i < 64) : (x.toInt32.toInt64).toBitVec.getLsbD i = if i < 32 then x.toBitVec.getLsbD i else x.toBitVec.getLsbD (32 - 1) := by
  rw [Int32.toBitVec_toInt64, Int64.toBitVec_toInt32]
  by_cases c : i < 32
  · simp only [BitVec.getLsbD_signExtend, BitVec.msb_eq_getLsbD_last, hi, decide_true, Bool.true_and, if_true, if_false, Nat.reduceSub, show (7 : Nat) < 8 by decide, show (7 : Nat) < 32 by decide, show (7 : Nat) < 64 by decide, show (31 : Nat) < 32 by decide, show (31 : Nat) < 64 by decide, show ¬ (31 : Nat) < 8 by decide, c]
  · simp only [BitVec.getLsbD_signExtend, BitVec.msb_eq_getLsbD_last, hi, decide_true, Bool.true_and, if_true, if_false, Nat.reduceSub, show (7 : Nat) < 8 by decide, show (7 : Nat) < 32 by decide, show (7 : Nat) < 64 by decide, show (31 : Nat) < 32 by decide, show (31 : Nat) < 64 by decide, show ¬ (31 : Nat) < 8 by decide, c]
theorem nar16 (x : Int64) (i : Nat) (hi : i < 64) : (x.toInt32.toInt16.toInt32.toInt64).toBitVec.getLsbD i = if i < 16 then x.toBitVec.getLsbD i else x.toBitVec.getLsbD (16 - 1) := by
  rw [Int32.toBitVec_toInt64, Int16.toBitVec_toInt32, Int32.toBitVec_toInt16, Int64.toBitVec_toInt32]
  by_cases c : i < 16
  · simp only [BitVec.getLsbD_signExtend, BitVec.msb_eq_getLsbD_last, hi, decide_true, Bool.true_and, if_true, if_false, Nat.reduceSub, show (15 : Nat) < 16 by decide, show (15 : Nat) < 32 by decide, show (15 : Nat) < 64 by decide, show (31 : Nat) < 32 by decide, show (31 : Nat) < 64 by decide, show ¬ (31 : Nat) < 16 by decide, c, show i < 32 by omega]
  · by_cases c2 : i < 32
    · simp only [BitVec.getLsbD_signExtend, BitVec.msb_eq_getLsbD_last, hi, decide_true, Bool.true_and, if_true, if_false, Nat.reduceSub, show (15 : Nat) < 16 by decide, show (15 : Nat) < 32 by decide, show (15 : Nat) < 64 by decide, show (31 : Nat) < 32 by decide, show (31 : Nat) < 64 by decide, show ¬ (31 : Nat) < 16 by decide, c, c2]
    · simp only [BitVec.getLsbD_signExtend, BitVec.msb_eq_getLsbD_last, hi, decide_true, Bool.true_and, if_true, if_false, Nat.reduceSub, show (15 : Nat) < 16 by decide, show (15 : Nat) < 32 by decide, show (15 : Nat) < 64 by decide, show (31 : Nat) < 32 by decide, show (31 : Nat) < 64 by decide, show ¬ (31 : Nat) < 16 by decide, c, c2]
/-- what the class cuts is what the reference shifts -/
theorem cut_sh (x : Int64) : (x <<< (((64 : Int32) - ((8 : Int32) <<< ((0 : Int32) &&& 31))).toInt64 &&& 63)) >>> (((64 : Int32) - ((8 : Int32) <<< ((0 : Int32) &&& 31))).toInt64 &&& 63) = x.toInt32.toInt8.toInt32.toInt64 ∧ (x <<< (((64 : Int32) - ((8 : Int32) <<< ((1 : Int32) &&& 31))).toInt64 &&& 63)) >>> (((64 : Int32) - ((8 : Int32) <<< ((1 : Int32) &&& 31))).toInt64 &&& 63) = x.toInt32.toInt16.toInt32.toInt64 ∧ (x <<< (((64 : Int32) - ((8 : Int32) <<< ((2 : Int32) &&& 31))).toInt64 &&& 63)) >>> (((64 : Int32) - ((8 : Int32) <<< ((2 : Int32) &&& 31))).toInt64 &&& 63) = x.toInt32.toInt64 ∧ (x <<< (((64 : Int32) - ((8 : Int32) <<< ((3 : Int32) &&& 31))).toInt64 &&& 63)) >>> (((64 : Int32) - ((8 : Int32) <<< ((3 : Int32) &&& 31))).toInt64 &&& 63) = x :=
  ⟨cut_b (n := 8) (by decide) (by decide) (by decide) (nar8 x), cut_b (n := 16) (by decide) (by decide) (by decide) (nar16 x), cut_b (n := 32) (by decide) (by decide) (by decide) (nar32 x), cut_b (n := 64) (by decide) (by decide) (by decide) (fun i hi => by rw [if_pos hi])⟩
