/-! bits -/
theorem sm64 : ∀ i, i < 64 → (((nI i).toInt64 &&& 63).toBitVec.smod 64).toNat = i := by decide
theorem sm32 : ∀ i, i < 32 → ((nI i &&& 31).toBitVec.smod 32).toNat = i := by decide
theorem shr64 (x s : Int64) {i k : Nat} (hs : (s.toBitVec.smod 64).toNat = i) (hi : i + k < 64) : (x >>> s).toBitVec.getLsbD k = x.toBitVec.getLsbD (i + k) := by
  show (x.toBitVec.sshiftRight' (s.toBitVec.smod 64)).getLsbD k = _
  rw [BitVec.sshiftRight', hs, BitVec.getLsbD_sshiftRight]
  simp [hi, show ¬ 64 ≤ k by omega]
theorem and1_64 (y : Int64) : (y &&& 1) = 0 ↔ y.toBitVec.getLsbD 0 = false := by
  rw [← Int64.toBitVec_inj, Int64.toBitVec_and]
  constructor
  · intro h
    have := congrArg (fun z => z.getLsbD 0) h
    simp at this
    exact this
  · intro h
    apply BitVec.eq_of_getLsbD_eq
    intro i hi
    by_cases e : i = 0
    · subst e; simp only [BitVec.getLsbD_and, h, Bool.false_and]; rfl
    · simp [e, BitVec.getLsbD_one]
theorem shr32 (x s : Int32) {i k : Nat} (hs : (s.toBitVec.smod 32).toNat = i) (hi : i + k < 32) : (x >>> s).toBitVec.getLsbD k = x.toBitVec.getLsbD (i + k) := by
  show (x.toBitVec.sshiftRight' (s.toBitVec.smod 32)).getLsbD k = _
  rw [BitVec.sshiftRight', hs, BitVec.getLsbD_sshiftRight]
  simp [hi, show ¬ 32 ≤ k by omega]
theorem and1_32 (y : Int32) : (y &&& 1) = 1 ↔ y.toBitVec.getLsbD 0 = true := by
  rw [← Int32.toBitVec_inj, Int32.toBitVec_and]
  constructor
  · intro h
    have := congrArg (fun z => z.getLsbD 0) h
    simp at this
    exact this
  · intro h
    apply BitVec.eq_of_getLsbD_eq
    intro i hi
    by_cases e : i = 0
    · subst e; simp only [BitVec.getLsbD_and, h, Bool.true_and]
    · simp [e, BitVec.getLsbD_one]
/-- a bit of an int, as the reference asks for it -/
theorem bit32 {x : Int32} {i : Nat} (hi : i < 32) : ((x >>> (nI i &&& 31)) &&& 1) = 1 ↔ b32 x i := by
  rw [and1_32, shr32 x _ (sm32 i hi) (by omega), Nat.add_zero]; rfl
theorem one64 : ∀ i, i < 64 → ((1 : Int64) <<< ((nI i).toInt64 &&& 63)).toBitVec = BitVec.twoPow 64 i := by decide
theorem b64_one {i j : Nat} (hi : i < 64) : b64 ((1 : Int64) <<< ((nI i).toInt64 &&& 63)) j ↔ j = i := by
  unfold b64; rw [one64 i hi, BitVec.getLsbD_twoPow]
  simp only [hi, decide_true, Bool.true_and, decide_eq_true_eq]
  exact ⟨fun e => e.symm, fun e => e.symm⟩
theorem b64_or {x y : Int64} {j : Nat} : b64 (x ||| y) j ↔ b64 x j ∨ b64 y j := by
  unfold b64; rw [Int64.toBitVec_or, BitVec.getLsbD_or, Bool.or_eq_true]
theorem b64_and {x y : Int64} {j : Nat} : b64 (x &&& y) j ↔ b64 x j ∧ b64 y j := by
  unfold b64; rw [Int64.toBitVec_and, BitVec.getLsbD_and, Bool.and_eq_true]
theorem b64_0 {j : Nat} : ¬ b64 0 j := by unfold b64; simp
theorem b64_ext {x y : Int64} (h : ∀ j, j < 64 → (b64 x j ↔ b64 y j)) : x = y := by
  apply Int64.toBitVec_inj.mp
  apply BitVec.eq_of_getLsbD_eq
  intro i hi
  exact Bool.eq_iff_iff.mpr (h i hi)
theorem b64_lt {x : Int64} {j : Nat} (h : b64 x j) : j < 64 := by
  unfold b64 at h
  exact BitVec.lt_of_getLsbD h
section
variable {E : Ev} {h : Hp}
theorem f_isIn {x : Int64} {i : Nat} (hi : i < 64) : F_X11_isIn E x (nI i) h = rtI (zb (b64 x i)) h := by
  unfold F_X11_isIn
  have e : ((x >>> ((nI i).toInt64 &&& 63)) &&& 1) = 0 ↔ ¬ b64 x i := by
    rw [and1_64, shr64 x _ (sm64 i hi) (by omega), Nat.add_zero]
    unfold b64
    cases x.toBitVec.getLsbD i <;> simp
  by_cases p : b64 x i
  · rw [if_neg (fun z => e.mp z p), zb_t p]; rfl
  · rw [if_pos (e.mpr p), zb_f p]; rfl
end
