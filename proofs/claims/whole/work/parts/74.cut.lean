/-! cut to a sort: by shifts, by narrowing -/
theorem bv_cut (b : BitVec 64) (n : Nat) (hn : 0 < n) (h : n ≤ 64) (i : Nat) (hi : i < 64) : ((b <<< (64 - n)).sshiftRight (64 - n)).getLsbD i = if i < n then b.getLsbD i else b.getLsbD (n - 1) := by
  rw [BitVec.getLsbD_sshiftRight]
  by_cases c : i < n
  · rw [if_pos c]
    simp only [show ¬ 64 ≤ i by omega, decide_false, Bool.not_false, Bool.true_and, show 64 - n + i < 64 by omega, if_true, BitVec.getLsbD_shiftLeft]
    simp [show 64 - n + i < 64 by omega, show ¬ 64 - n + i < 64 - n by omega, show 64 - n + i - (64 - n) = i by omega]
  · rw [if_neg c]
    simp only [show ¬ 64 ≤ i by omega, decide_false, Bool.not_false, Bool.true_and, show ¬ 64 - n + i < 64 by omega, if_false, BitVec.msb_eq_getLsbD_last, BitVec.getLsbD_shiftLeft]
    simp [show ¬ 63 < 64 - n by omega, show 63 - (64 - n) = n - 1 by omega]
