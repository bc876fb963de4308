/-! sets of 32 -/
theorem b32_and {x y : Int32} {j : Nat} : b32 (x &&& y) j ↔ b32 x j ∧ b32 y j := by
  unfold b32; rw [Int32.toBitVec_and, BitVec.getLsbD_and, Bool.and_eq_true]
theorem b32_lt {x : Int32} {j : Nat} (h : b32 x j) : j < 32 := by
  unfold b32 at h
  rcases Nat.lt_or_ge j 32 with g | g
  · exact g
  · rw [BitVec.getLsbD_of_ge _ _ g] at h; cases h
theorem b32_neg {x : Int32} {i : Nat} (hi : i < 32) : b32 (-x) i ↔ ¬ (b32 x i ↔ ∃ j, j < i ∧ b32 x j) := by
  unfold b32
  rw [Int32.toBitVec_neg, BitVec.getLsbD_neg]
  simp only [hi, decide_true, Bool.true_and]
  cases x.toBitVec.getLsbD i <;> simp
theorem b32_m1 {x : Int32} {i : Nat} (hi : i < 32) : b32 (x - 1) i ↔ (b32 x i ↔ ∃ j, j < i ∧ b32 x j) := by
  have e : (x - 1).toBitVec = ~~~ (-x).toBitVec := by
    rw [Int32.toBitVec_sub, Int32.toBitVec_neg]
    apply BitVec.eq_of_toNat_eq
    rw [BitVec.toNat_sub, BitVec.toNat_not, BitVec.toNat_neg]
    have := x.toBitVec.isLt
    show (2 ^ 32 - 1 + x.toBitVec.toNat) % 2 ^ 32 = _
    omega
  have h := b32_neg (x := x) hi
  unfold b32 at *
  rw [e, BitVec.getLsbD_not]
  simp only [hi, decide_true, Bool.true_and, Bool.not_eq_true']
  cases hb : (-x).toBitVec.getLsbD i
  · rw [hb] at h
    simp only [true_iff]
    exact Classical.not_not.mp (fun z => by have := h.mpr z; cases this)
  · rw [hb] at h
    simp only [false_iff, reduceCtorEq]
    exact h.mp rfl
theorem b32_low {x : Int32} {i : Nat} : b32 (x &&& -x) i ↔ b32 x i ∧ ∀ j, j < i → ¬ b32 x j := by
  rw [b32_and]
  constructor
  · rintro ⟨h1, h2⟩
    have z := (b32_neg (b32_lt h1)).mp h2
    exact ⟨h1, fun j hj hb => z ⟨fun _ => ⟨j, hj, hb⟩, fun _ => h1⟩⟩
  · rintro ⟨h1, h2⟩
    exact ⟨h1, (b32_neg (b32_lt h1)).mpr (fun z => by obtain ⟨j, hj, hb⟩ := z.mp h1; exact h2 j hj hb)⟩
theorem b32_rest {x : Int32} {i : Nat} : b32 (x &&& (x - 1)) i ↔ b32 x i ∧ ∃ j, j < i ∧ b32 x j := by
  rw [b32_and]
  constructor
  · rintro ⟨h1, h2⟩
    exact ⟨h1, ((b32_m1 (b32_lt h1)).mp h2).mp h1⟩
  · rintro ⟨h1, h2⟩
    exact ⟨h1, (b32_m1 (b32_lt h1)).mpr ⟨fun _ => h2, fun _ => h1⟩⟩
theorem b32_not {x : Int32} {j : Nat} (hj : j < 32) : b32 (x ^^^ (-1 : Int32)) j ↔ ¬ b32 x j := by
  have e : (-1 : Int32).toBitVec = BitVec.allOnes 32 := by decide
  unfold b32
  rw [Int32.toBitVec_xor, BitVec.getLsbD_xor, e, BitVec.getLsbD_allOnes]
  simp only [hj, decide_true]
  cases x.toBitVec.getLsbD j <;> simp
theorem b32_0 {j : Nat} : ¬ b32 0 j := by unfold b32; simp
theorem z32 {x : Int32} : x = 0 ↔ ∀ j, j < 32 → ¬ b32 x j := by
  constructor
  · rintro rfl j _; exact b32_0
  · intro h
    apply Int32.toBitVec_inj.mp
    apply BitVec.eq_of_getLsbD_eq
    intro i hi
    have := h i hi
    unfold b32 at this
    rw [Bool.not_eq_true] at this
    rw [this]; simp
theorem nI_sub' {a b : Nat} (h : b ≤ a) : nI a - nI b = nI (a - b) := by
  have e : nI a = nI (a - b) + nI b := by rw [nI_add]; congr 1; omega
  rw [e, Int32.add_sub_cancel]
theorem tb32 (n : Nat) : (nI n).toBitVec = BitVec.ofNat 32 n := rfl
theorem tn32 {n : Nat} (h : n < 2 ^ 32) : (nI n).toBitVec.toNat = n := by rw [tb32, BitVec.toNat_ofNat, Nat.mod_eq_of_lt h]
theorem cu32 : ∀ k, k < 32 → ((nI k).toUInt32 &&& Int32.toUInt32 31) = UInt32.ofNat k := by decide +kernel
theorem shr32u {n k : Nat} (hn : n < 2 ^ 32) (hk : k < 32) : ((nI n).toUInt32 >>> ((nI k).toUInt32 &&& Int32.toUInt32 31)).toInt32 = nI (n / 2 ^ k) := by
  rw [cu32 k hk]
  apply Int32.toBitVec_inj.mp
  apply BitVec.eq_of_toNat_eq
  show ((nI n).toUInt32 >>> UInt32.ofNat k).toNat = (BitVec.ofNat 32 _).toNat
  have h1 : (UInt32.ofNat k).toNat = k := by
    show (BitVec.ofNat 32 k).toNat = k
    rw [BitVec.toNat_ofNat, Nat.mod_eq_of_lt (by omega)]
  have h2 : (nI n).toUInt32.toNat = n := tn32 hn
  rw [UInt32.toNat_shiftRight, h1, h2, Nat.mod_eq_of_lt hk, Nat.shiftRight_eq_div_pow, BitVec.toNat_ofNat, Nat.mod_eq_of_lt (Nat.lt_of_le_of_lt (Nat.div_le_self _ _) hn)]
theorem and32 {a b : Nat} (ha : a < 2 ^ 32) (hb : b < 2 ^ 32) : nI a &&& nI b = nI (a &&& b) := by
  apply Int32.toBitVec_inj.mp
  rw [Int32.toBitVec_and, tb32, tb32, tb32]
  apply BitVec.eq_of_toNat_eq
  rw [BitVec.toNat_and, BitVec.toNat_ofNat, BitVec.toNat_ofNat, BitVec.toNat_ofNat, Nat.mod_eq_of_lt ha, Nat.mod_eq_of_lt hb, Nat.mod_eq_of_lt (Nat.and_lt_two_pow _ hb)]
theorem mk4 : mkk 85 4 = 1431655765 ∧ mkk 51 4 = 858993459 ∧ mkk 15 4 = 252645135 := ⟨rfl, rfl, rfl⟩
theorem b32_nI {n i : Nat} (hi : i < 32) : b32 (nI n) i ↔ n.testBit i = true := by
  unfold b32; rw [tb32, BitVec.getLsbD_ofNat]; simp [hi]
theorem f_bitCount32 {E : Ev} {h : Hp} (x : Int32) : F_J6_bitCount_0f7a4 E x h = rtI (nI (cntP (b32 x) 32)) h := by
  obtain ⟨n, hn, rfl⟩ := wb_of32 x
  have ec : cntP (b32 (nI n)) 32 = pop n 32 := cnt_c (fun i hi => b32_nI hi)
  rw [ec]
  obtain ⟨p0, p1, p2, p3, h0, h1, h2, h3, e, es⟩ := pop_32 n
  rw [es]
  unfold F_J6_bitCount_0f7a4
  have g1 : nI n - (((nI n).toUInt32 >>> (((1 : Int32)).toUInt32 &&& Int32.toUInt32 31)).toInt32 &&& (1431655765 : Int32)) = nI (pc1 4 n) := by
    have : ((nI n).toUInt32 >>> (((1 : Int32)).toUInt32 &&& Int32.toUInt32 31)).toInt32 = nI (n / 2 ^ 1) := shr32u (k := 1) hn (by decide)
    rw [this, show (1431655765 : Int32) = nI 1431655765 from rfl, and32 (by omega) (by decide), ← mk4.1, show n / 2 ^ 1 = n / 2 from rfl, nI_sub' (pc1_le 4 n), pc1]
  have k1 : pc1 4 n < 2 ^ 32 := by unfold pc1; omega
  have g2 : (nI (pc1 4 n) &&& (858993459 : Int32)) + (((nI (pc1 4 n)).toUInt32 >>> (((2 : Int32)).toUInt32 &&& Int32.toUInt32 31)).toInt32 &&& (858993459 : Int32)) = nI (pc2 4 (pc1 4 n)) := by
    have : ((nI (pc1 4 n)).toUInt32 >>> (((2 : Int32)).toUInt32 &&& Int32.toUInt32 31)).toInt32 = nI (pc1 4 n / 2 ^ 2) := shr32u (k := 2) k1 (by decide)
    rw [this, show (858993459 : Int32) = nI 858993459 from rfl, and32 k1 (by decide), and32 (by omega) (by decide), nI_add, ← mk4.2.1, show pc1 4 n / 2 ^ 2 = pc1 4 n / 4 from rfl, pc2]
  have k2 : pc2 4 (pc1 4 n) < 2 ^ 31 := Nat.lt_of_le_of_lt (pc2_b _ _) (by rw [mk4.2.1]; decide)
  have g3 : (nI (pc2 4 (pc1 4 n)) + ((nI (pc2 4 (pc1 4 n))).toUInt32 >>> (((4 : Int32)).toUInt32 &&& Int32.toUInt32 31)).toInt32) &&& (252645135 : Int32) = nI (pcP 4 n) := by
    have : ((nI (pc2 4 (pc1 4 n))).toUInt32 >>> (((4 : Int32)).toUInt32 &&& Int32.toUInt32 31)).toInt32 = nI (pc2 4 (pc1 4 n) / 2 ^ 4) := shr32u (k := 4) (by omega) (by decide)
    rw [this, show (252645135 : Int32) = nI 252645135 from rfl, nI_add, and32 (by omega) (by decide), ← mk4.2.2, show pc2 4 (pc1 4 n) / 2 ^ 4 = pc2 4 (pc1 4 n) / 16 from rfl, pcP, pc3]
  have g4 : nI (pcP 4 n) + ((nI (pcP 4 n)).toUInt32 >>> (((8 : Int32)).toUInt32 &&& Int32.toUInt32 31)).toInt32 = nI (pcP 4 n + pcP 4 n / 2 ^ 8) := by
    have : ((nI (pcP 4 n)).toUInt32 >>> (((8 : Int32)).toUInt32 &&& Int32.toUInt32 31)).toInt32 = nI (pcP 4 n / 2 ^ 8) := shr32u (k := 8) (by omega) (by decide)
    rw [this, nI_add]
  have d4 : pcP 4 n + pcP 4 n / 2 ^ 8 = (p0 + p1) + 256 * ((p1 + p2) + 256 * ((p2 + p3) + 256 * p3)) := by rw [e]; omega
  generalize e4 : pcP 4 n + pcP 4 n / 2 ^ 8 = u4 at g4 d4
  have g5 : nI u4 + ((nI u4).toUInt32 >>> (((16 : Int32)).toUInt32 &&& Int32.toUInt32 31)).toInt32 = nI (u4 + u4 / 2 ^ 16) := by
    have : ((nI u4).toUInt32 >>> (((16 : Int32)).toUInt32 &&& Int32.toUInt32 31)).toInt32 = nI (u4 / 2 ^ 16) := shr32u (k := 16) (by omega) (by decide)
    rw [this, nI_add]
  have d5 : ∃ r, u4 + u4 / 2 ^ 16 = (p0 + p1 + p2 + p3) + 256 * r ∧ r < 10000000 := by
    have q := dv16 (u := u4) (A := (p0 + p1) + 256 * (p1 + p2)) (X := (p2 + p3) + 256 * p3) (by rw [d4]; clear d4 e4 e; omega) (by clear d4 e4 e; omega)
    rw [q, d4]
    clear d4 e4 e q g4 g3 g2 g1
    exact ⟨(p1 + p2 + p3) + 256 * ((p2 + p3) + 256 * p3), by omega, by omega⟩
  obtain ⟨r, d5, hr⟩ := d5
  simp only [lt_r, g1, g2, g3, g4, g5]
  rw [d5, show nI (p0 + p1 + p2 + p3 + 256 * r) &&& (63 : Int32) = nI ((p0 + p1 + p2 + p3 + 256 * r) % 2 ^ 6) from pk_andN (by clear d4 d5 e; omega) 6 (by decide)]
  congr 2
  clear d4 d5 e
  omega
def rem32 (x0 : Int32) (r : Nat) (x : Int32) : Prop := ∀ j, b32 x j ↔ b32 x0 j ∧ r ≤ cntP (b32 x0) j
theorem rem32_0 (x : Int32) : rem32 x 0 x := fun j => ⟨fun h => ⟨h, Nat.zero_le _⟩, fun h => h.1⟩
theorem rem32_k {x0 x : Int32} {r : Nat} (h : rem32 x0 r x) (hr : r < cntP (b32 x0) 32) : ∃ k, k < 32 ∧ b32 x0 k ∧ cntP (b32 x0) k = r ∧ b32 x k ∧ (∀ j, j < k → ¬ b32 x j) ∧ rem32 x0 (r + 1) (x &&& (x - 1)) := by
  obtain ⟨k, hk, hb, hc⟩ := cnt_sur hr
  have xk : b32 x k := (h k).mpr ⟨hb, by omega⟩
  have lo : ∀ j, j < k → ¬ b32 x j := fun j hj z => by
    have z2 := (h j).mp z
    have := cnt_lt z2.1 hj; omega
  refine ⟨k, hk, hb, hc, xk, lo, fun j => ?_⟩
  rw [b32_rest]
  constructor
  · rintro ⟨a, i, hi, b⟩
    have z1 := (h j).mp a
    have z2 := (h i).mp b
    have := cnt_lt z2.1 hi
    exact ⟨z1.1, by omega⟩
  · rintro ⟨a, b⟩
    refine ⟨(h j).mpr ⟨a, by omega⟩, k, ?_, xk⟩
    rcases Nat.lt_or_ge k j with y | y
    · exact y
    · have := cnt_mono (P := b32 x0) y; omega
/-- the lowest of a set of words -/
theorem f_lowest32 {E : Ev} {h : Hp} {x : Int32} {k : Nat} (h1 : b32 x k) (h2 : ∀ j, j < k → ¬ b32 x j) : F_X11_lowest E x.toInt64 h = rtI (nI k) h := by
  have hk := b32_lt h1
  exact f_lowest ((b64_32 hk).mpr h1) (fun j hj z => h2 j hj ((b64_32 (by omega)).mp z))
