/-! bits counted; the lowest of a set. wb_ rows begin from the kit laws BITS.to-paste -/
theorem wb_tb (n : Nat) : (lN n).toBitVec = BitVec.ofNat 64 n := rfl
theorem wb_inj {a b : Int64} (h : a.toBitVec = b.toBitVec) : a = b := Int64.toBitVec_inj.mp h
theorem wb_tn {n : Nat} (h : n < 2 ^ 64) : (lN n).toBitVec.toNat = n := by rw [wb_tb, BitVec.toNat_ofNat, Nat.mod_eq_of_lt h]
theorem wb_of (x : Int64) : ∃ n, n < 2 ^ 64 ∧ x = lN n := ⟨x.toBitVec.toNat, x.toBitVec.isLt, wb_inj (by rw [wb_tb]; simp)⟩
theorem wb_of32 (x : Int32) : ∃ n, n < 2 ^ 32 ∧ x = nI n := ⟨x.toBitVec.toNat, x.toBitVec.isLt, Int32.toBitVec_inj.mp (by show _ = BitVec.ofNat 32 _; simp)⟩
theorem wb_c : ∀ k, k < 64 → ((nI k).toInt64 &&& 63) = lN k := by decide +kernel
theorem wb_cu : ∀ k, k < 64 → ((nI k).toInt64.toUInt64 &&& Int64.toUInt64 63) = UInt64.ofNat k := by decide +kernel
theorem wb_sm : ∀ k, k < 64 → (BitVec.ofNat 64 k).smod 64 = BitVec.ofNat 64 k := by decide +kernel
theorem wb_pw {a b : Nat} (h : a ≤ b) : 2 ^ b = 2 ^ a * 2 ^ (b - a) := by rw [← Nat.pow_add]; congr 1; omega
theorem wb_lt2 {a b : Nat} (h : a < b) : 2 ^ a < 2 ^ b := Nat.pow_lt_pow_right (by decide) h
theorem wb_mod (n : Nat) : lN n = lN (n % 2 ^ 64) := wb_inj (by rw [wb_tb, wb_tb]; apply BitVec.eq_of_toNat_eq; rw [BitVec.toNat_ofNat, BitVec.toNat_ofNat, Nat.mod_mod])
theorem wb_shr {n k : Nat} (hn : n < 2 ^ 64) (hk : k < 64) : ((lN n).toUInt64 >>> ((nI k).toInt64.toUInt64 &&& Int64.toUInt64 63)).toInt64 = lN (n / 2 ^ k) := by
  rw [wb_cu k hk]
  apply wb_inj
  apply BitVec.eq_of_toNat_eq
  show ((lN n).toUInt64 >>> UInt64.ofNat k).toNat = (BitVec.ofNat 64 _).toNat
  have h1 : (UInt64.ofNat k).toNat = k := by
    show (BitVec.ofNat 64 k).toNat = k
    rw [BitVec.toNat_ofNat, Nat.mod_eq_of_lt (by omega)]
  have h2 : (lN n).toUInt64.toNat = n := wb_tn hn
  rw [UInt64.toNat_shiftRight, h1, h2, Nat.mod_eq_of_lt hk, Nat.shiftRight_eq_div_pow, BitVec.toNat_ofNat, Nat.mod_eq_of_lt (Nat.lt_of_le_of_lt (Nat.div_le_self _ _) hn)]
theorem wb_and {a b : Nat} (ha : a < 2 ^ 64) (hb : b < 2 ^ 64) : lN a &&& lN b = lN (a &&& b) := by
  apply wb_inj
  rw [Int64.toBitVec_and, wb_tb, wb_tb, wb_tb]
  apply BitVec.eq_of_toNat_eq
  rw [BitVec.toNat_and, BitVec.toNat_ofNat, BitVec.toNat_ofNat, BitVec.toNat_ofNat, Nat.mod_eq_of_lt ha, Nat.mod_eq_of_lt hb, Nat.mod_eq_of_lt (Nat.and_lt_two_pow _ hb)]
theorem and256 (a m : Nat) {b n : Nat} (hb : b < 256) (hn : n < 256) : (256 * a + b) &&& (256 * m + n) = 256 * (a &&& m) + (b &&& n) := by
  apply Nat.eq_of_testBit_eq
  intro i
  have hbn : b &&& n < 2 ^ 8 := Nat.and_lt_two_pow _ hn
  rw [Nat.testBit_and, show 256 = 2 ^ 8 from rfl, Nat.testBit_two_pow_mul_add _ hb, Nat.testBit_two_pow_mul_add _ hn, Nat.testBit_two_pow_mul_add _ hbn]
  by_cases c : i < 8
  · rw [if_pos c, if_pos c, if_pos c, Nat.testBit_and]
  · rw [if_neg c, if_neg c, if_neg c, Nat.testBit_and]
def mkk (d : Nat) : Nat → Nat
  | 0 => 0
  | k + 1 => 256 * mkk d k + d
theorem mkk_s (d k : Nat) : mkk d (k + 1) = 256 * mkk d k + d := rfl
def pc1 (k n : Nat) : Nat := n - (n / 2 &&& mkk 85 k)
def pc2 (k n : Nat) : Nat := (n &&& mkk 51 k) + (n / 4 &&& mkk 51 k)
def pc3 (k n : Nat) : Nat := (n + n / 16) &&& mkk 15 k
theorem bt1 : ∀ t, t < 2 → ∀ b, b < 256 → (128 * t + b / 2) &&& 85 = b / 2 &&& 85 := by decide +kernel
theorem bt1b : ∀ b, b < 256 → b / 2 &&& 85 ≤ b ∧ b - (b / 2 &&& 85) < 256 := by decide +kernel
theorem bt2 : ∀ t, t < 4 → ∀ b, b < 256 → (64 * t + b / 4) &&& 51 = b / 4 &&& 51 := by decide +kernel
theorem bt3 : ∀ t, t < 5 → ∀ b, b < 69 → (16 * t + b + b / 16) &&& 15 = (b + b / 16) &&& 15 := by decide +kernel
def by1 (b : Nat) : Nat := b - (b / 2 &&& 85)
def by2 (b : Nat) : Nat := (by1 b &&& 51) + (by1 b / 4 &&& 51)
def by3 (b : Nat) : Nat := (by2 b + by2 b / 16) &&& 15
theorem btb : ∀ b, b < 256 → by1 b < 256 ∧ by2 b < 69 ∧ by2 b % 16 < 5 ∧ by3 b ≤ 8 ∧ by3 b = b % 2 + b / 2 % 2 + b / 4 % 2 + b / 8 % 2 + b / 16 % 2 + b / 32 % 2 + b / 64 % 2 + b / 128 % 2 := by decide +kernel
theorem pc1_le (k n : Nat) : n / 2 &&& mkk 85 k ≤ n := Nat.le_trans Nat.and_le_left (Nat.div_le_self _ _)
theorem pc1_s (k a : Nat) {b : Nat} (hb : b < 256) : pc1 (k + 1) (256 * a + b) = 256 * pc1 k a + by1 b := by
  unfold pc1 by1
  have h1 := pc1_le k a
  have h2 := (bt1b b hb).1
  rw [mkk_s, show (256 * a + b) / 2 = 256 * (a / 2) + (128 * (a % 2) + b / 2) by omega, and256 _ _ (by omega) (by decide), bt1 _ (by omega) b hb]
  omega
theorem pc2_s (k a : Nat) {b : Nat} (hb : b < 256) : pc2 (k + 1) (256 * a + b) = 256 * pc2 k a + ((b &&& 51) + (b / 4 &&& 51)) := by
  unfold pc2
  rw [mkk_s, show (256 * a + b) / 4 = 256 * (a / 4) + (64 * (a % 4) + b / 4) by omega, and256 _ _ hb (by decide), and256 _ _ (by omega) (by decide), bt2 _ (by omega) b hb]
  omega
theorem pc3_s (k a : Nat) {b : Nat} (hb : b < 69) (ha : a % 16 < 5) : pc3 (k + 1) (256 * a + b) = 256 * pc3 k a + ((b + b / 16) &&& 15) := by
  unfold pc3
  rw [mkk_s, show 256 * a + b + (256 * a + b) / 16 = 256 * (a + a / 16) + (16 * (a % 16) + b + b / 16) by omega, and256 _ _ (by omega) (by decide), bt3 _ ha b hb]
theorem pc_s (k a : Nat) {b : Nat} (hb : b < 256) : pc2 (k + 1) (pc1 (k + 1) (256 * a + b)) = 256 * pc2 k (pc1 k a) + by2 b := by
  have z := btb b hb
  rw [pc1_s k a hb, pc2_s k _ z.1, by2]
theorem pc_16 (k a : Nat) : pc2 k (pc1 k a) % 16 < 5 := by
  cases k with
  | zero =>
    have e : pc2 0 (pc1 0 a) = 0 := by unfold pc2; rw [show mkk 51 0 = 0 from rfl, Nat.and_zero, Nat.and_zero]
    rw [e]; decide
  | succ k =>
    have z := (btb (a % 256) (by omega)).2.2.1
    have e := pc_s k (a / 256) (b := a % 256) (by omega)
    rw [show 256 * (a / 256) + a % 256 = a by omega] at e
    rw [e]; omega
def pcP (k n : Nat) : Nat := pc3 k (pc2 k (pc1 k n))
theorem pcP_s (k a : Nat) {b : Nat} (hb : b < 256) : pcP (k + 1) (256 * a + b) = 256 * pcP k a + by3 b := by
  have z := btb b hb
  unfold pcP
  rw [pc_s k a hb, pc3_s k _ z.2.1 (pc_16 k a), by3]
theorem pcP_0 (a : Nat) : pcP 0 a = 0 := by unfold pcP pc3; rw [show mkk 15 0 = 0 from rfl, Nat.and_zero]
/-- how many bits a number has -/
noncomputable def pop (n m : Nat) : Nat := cntP (fun i => n.testBit i = true) m
theorem pop_add (n a b : Nat) : pop n (a + b) = pop n a + pop (n / 2 ^ a) b := by
  induction b with
  | zero => rfl
  | succ b ih =>
    unfold pop at *
    have e : (n / 2 ^ a).testBit b = n.testBit (a + b) := by rw [Nat.testBit_div_two_pow, Nat.add_comm]
    by_cases p : n.testBit (a + b) = true
    · rw [← Nat.add_assoc, cntP_t p, cntP_t (by rw [e]; exact p), ih]; omega
    · rw [← Nat.add_assoc, cntP_f p, cntP_f (by rw [e]; exact p), ih]
theorem cnt1 {P : Nat → Prop} {n : Nat} {r : Nat} (h : P n ↔ r = 1) (hr : r < 2) : cntP P (n + 1) = cntP P n + r := by
  by_cases p : P n
  · rw [cntP_t p, h.mp p]
  · rw [cntP_f p, show r = 0 by have : ¬ r = 1 := fun z => p (h.mpr z); omega, Nat.add_zero]
theorem tb1 (n i : Nat) : n.testBit i = true ↔ n / 2 ^ i % 2 = 1 := by
  rw [Nat.testBit_eq_decide_div_mod_eq, decide_eq_true_eq]
theorem pop8 (n : Nat) : pop n 8 = by3 (n % 256) := by
  have h0 : n % 256 % 2 = n / 2 ^ 0 % 2 := by rw [Nat.pow_zero, Nat.div_one]; omega
  have h1 : n % 256 / 2 % 2 = n / 2 ^ 1 % 2 := by omega
  have h2 : n % 256 / 4 % 2 = n / 2 ^ 2 % 2 := by omega
  have h3 : n % 256 / 8 % 2 = n / 2 ^ 3 % 2 := by omega
  have h4 : n % 256 / 16 % 2 = n / 2 ^ 4 % 2 := by omega
  have h5 : n % 256 / 32 % 2 = n / 2 ^ 5 % 2 := by omega
  have h6 : n % 256 / 64 % 2 = n / 2 ^ 6 % 2 := by omega
  have h7 : n % 256 / 128 % 2 = n / 2 ^ 7 % 2 := by omega
  have z := (btb (n % 256) (by omega)).2.2.2.2
  have lt2 : ∀ m : Nat, m % 2 < 2 := fun m => Nat.mod_lt _ (by decide)
  unfold pop
  rw [cnt1 (tb1 n 7) (lt2 _), cnt1 (tb1 n 6) (lt2 _), cnt1 (tb1 n 5) (lt2 _), cnt1 (tb1 n 4) (lt2 _), cnt1 (tb1 n 3) (lt2 _), cnt1 (tb1 n 2) (lt2 _), cnt1 (tb1 n 1) (lt2 _), cnt1 (tb1 n 0) (lt2 _), z, h0, h1, h2, h3, h4, h5, h6, h7, cntP, Nat.zero_add]
theorem pcP_v (k n : Nat) : pcP (k + 1) n = 256 * pcP k (n / 256) + pop n 8 := by
  have e := pcP_s k (n / 256) (b := n % 256) (by omega)
  rw [show 256 * (n / 256) + n % 256 = n by omega] at e
  rw [e, pop8]
theorem pop8_le (n : Nat) : pop n 8 ≤ 8 := cntP_le 8
theorem pop_64 (n : Nat) : ∃ p0 p1 p2 p3 p4 p5 p6 p7, p0 ≤ 8 ∧ p1 ≤ 8 ∧ p2 ≤ 8 ∧ p3 ≤ 8 ∧ p4 ≤ 8 ∧ p5 ≤ 8 ∧ p6 ≤ 8 ∧ p7 ≤ 8 ∧ pcP 8 n = p0 + 256 * (p1 + 256 * (p2 + 256 * (p3 + 256 * (p4 + 256 * (p5 + 256 * (p6 + 256 * p7)))))) ∧ pop n 64 = p0 + p1 + p2 + p3 + p4 + p5 + p6 + p7 := by
  refine ⟨_, _, _, _, _, _, _, _, pop8_le n, pop8_le (n / 256), pop8_le (n / 256 / 256), pop8_le (n / 256 / 256 / 256), pop8_le (n / 256 / 256 / 256 / 256), pop8_le (n / 256 / 256 / 256 / 256 / 256), pop8_le (n / 256 / 256 / 256 / 256 / 256 / 256), pop8_le (n / 256 / 256 / 256 / 256 / 256 / 256 / 256), ?_, ?_⟩
  · rw [pcP_v, pcP_v, pcP_v, pcP_v, pcP_v, pcP_v, pcP_v, pcP_v, pcP_0]; omega
  · rw [show 64 = 8 + (8 + (8 + (8 + (8 + (8 + (8 + 8)))))) from rfl, pop_add, pop_add, pop_add, pop_add, pop_add, pop_add, pop_add]
    simp only [Nat.reducePow]
    omega
theorem pop_32 (n : Nat) : ∃ p0 p1 p2 p3, p0 ≤ 8 ∧ p1 ≤ 8 ∧ p2 ≤ 8 ∧ p3 ≤ 8 ∧ pcP 4 n = p0 + 256 * (p1 + 256 * (p2 + 256 * p3)) ∧ pop n 32 = p0 + p1 + p2 + p3 := by
  refine ⟨_, _, _, _, pop8_le n, pop8_le (n / 256), pop8_le (n / 256 / 256), pop8_le (n / 256 / 256 / 256), ?_, ?_⟩
  · rw [pcP_v, pcP_v, pcP_v, pcP_v, pcP_0]; omega
  · rw [show 32 = 8 + (8 + (8 + 8)) from rfl, pop_add, pop_add, pop_add]
    simp only [Nat.reducePow]
    omega
theorem mk8 : mkk 85 8 = 6148914691236517205 ∧ mkk 51 8 = 3689348814741910323 ∧ mkk 15 8 = 1085102592571150095 := ⟨rfl, rfl, rfl⟩
theorem pc2_b (k n : Nat) : pc2 k n ≤ mkk 51 k + mkk 51 k := Nat.add_le_add Nat.and_le_right Nat.and_le_right
theorem b64_lN {n i : Nat} (hi : i < 64) : b64 (lN n) i ↔ n.testBit i = true := by
  unfold b64; rw [wb_tb, BitVec.getLsbD_ofNat]; simp [hi]
theorem dv16 {A X u : Nat} (h : u = A + 2 ^ 16 * X) (hA : A < 2 ^ 16) : u / 2 ^ 16 = X := by omega
theorem dv32 {A X u : Nat} (h : u = A + 2 ^ 32 * X) (hA : A < 2 ^ 32) : u / 2 ^ 32 = X := by omega
theorem md7 {A X u : Nat} (h : u = A + 256 * X) (hA : A ≤ 64) : u % 2 ^ 32 % 2 ^ 7 = A := by omega
theorem f_bitCount {E : Ev} {h : Hp} (x : Int64) : F_J13_bitCount_95d88 E x h = rtI (nI (cntP (b64 x) 64)) h := by
  obtain ⟨n, hn, rfl⟩ := wb_of x
  have ec : cntP (b64 (lN n)) 64 = pop n 64 := cnt_c (fun i hi => b64_lN hi)
  rw [ec]
  obtain ⟨p0, p1, p2, p3, p4, p5, p6, p7, h0, h1, h2, h3, h4, h5, h6, h7, e, es⟩ := pop_64 n
  rw [es]
  unfold F_J13_bitCount_95d88
  have c1 : ((1 : Int32)).toInt64.toUInt64 &&& Int64.toUInt64 63 = (nI 1).toInt64.toUInt64 &&& Int64.toUInt64 63 := rfl
  have g1 : lN n - (((lN n).toUInt64 >>> (((1 : Int32)).toInt64.toUInt64 &&& Int64.toUInt64 63)).toInt64 &&& (6148914691236517205 : Int64)) = lN (pc1 8 n) := by
    have : ((lN n).toUInt64 >>> (((1 : Int32)).toInt64.toUInt64 &&& Int64.toUInt64 63)).toInt64 = lN (n / 2 ^ 1) := wb_shr (k := 1) hn (by decide)
    rw [this, show (6148914691236517205 : Int64) = lN 6148914691236517205 from rfl, wb_and (by omega) (by decide), ← mk8.1, show n / 2 ^ 1 = n / 2 from rfl, lN_sub (pc1_le 8 n), pc1]
  have k1 : pc1 8 n < 2 ^ 64 := by unfold pc1; omega
  have g2 : (lN (pc1 8 n) &&& (3689348814741910323 : Int64)) + (((lN (pc1 8 n)).toUInt64 >>> (((2 : Int32)).toInt64.toUInt64 &&& Int64.toUInt64 63)).toInt64 &&& (3689348814741910323 : Int64)) = lN (pc2 8 (pc1 8 n)) := by
    have : ((lN (pc1 8 n)).toUInt64 >>> (((2 : Int32)).toInt64.toUInt64 &&& Int64.toUInt64 63)).toInt64 = lN (pc1 8 n / 2 ^ 2) := wb_shr (k := 2) k1 (by decide)
    rw [this, show (3689348814741910323 : Int64) = lN 3689348814741910323 from rfl, wb_and k1 (by decide), wb_and (by omega) (by decide), lN_add, ← mk8.2.1, show pc1 8 n / 2 ^ 2 = pc1 8 n / 4 from rfl, pc2]
  have k2 : pc2 8 (pc1 8 n) < 2 ^ 63 := Nat.lt_of_le_of_lt (pc2_b _ _) (by rw [mk8.2.1]; decide)
  have g3 : (lN (pc2 8 (pc1 8 n)) + ((lN (pc2 8 (pc1 8 n))).toUInt64 >>> (((4 : Int32)).toInt64.toUInt64 &&& Int64.toUInt64 63)).toInt64) &&& (1085102592571150095 : Int64) = lN (pcP 8 n) := by
    have : ((lN (pc2 8 (pc1 8 n))).toUInt64 >>> (((4 : Int32)).toInt64.toUInt64 &&& Int64.toUInt64 63)).toInt64 = lN (pc2 8 (pc1 8 n) / 2 ^ 4) := wb_shr (k := 4) (by omega) (by decide)
    rw [this, show (1085102592571150095 : Int64) = lN 1085102592571150095 from rfl, lN_add, wb_and (by omega) (by decide), ← mk8.2.2, show pc2 8 (pc1 8 n) / 2 ^ 4 = pc2 8 (pc1 8 n) / 16 from rfl, pcP, pc3]
  have g4 : lN (pcP 8 n) + ((lN (pcP 8 n)).toUInt64 >>> (((8 : Int32)).toInt64.toUInt64 &&& Int64.toUInt64 63)).toInt64 = lN (pcP 8 n + pcP 8 n / 2 ^ 8) := by
    have : ((lN (pcP 8 n)).toUInt64 >>> (((8 : Int32)).toInt64.toUInt64 &&& Int64.toUInt64 63)).toInt64 = lN (pcP 8 n / 2 ^ 8) := wb_shr (k := 8) (by omega) (by decide)
    rw [this, lN_add]
  have d4 : pcP 8 n + pcP 8 n / 2 ^ 8 = (p0 + p1) + 256 * ((p1 + p2) + 256 * ((p2 + p3) + 256 * ((p3 + p4) + 256 * ((p4 + p5) + 256 * ((p5 + p6) + 256 * ((p6 + p7) + 256 * p7)))))) := by rw [e]; omega
  generalize e4 : pcP 8 n + pcP 8 n / 2 ^ 8 = u4 at g4 d4
  have g5 : lN u4 + ((lN u4).toUInt64 >>> (((16 : Int32)).toInt64.toUInt64 &&& Int64.toUInt64 63)).toInt64 = lN (u4 + u4 / 2 ^ 16) := by
    have : ((lN u4).toUInt64 >>> (((16 : Int32)).toInt64.toUInt64 &&& Int64.toUInt64 63)).toInt64 = lN (u4 / 2 ^ 16) := wb_shr (k := 16) (by omega) (by decide)
    rw [this, lN_add]
  have d5 : ∃ r, u4 + u4 / 2 ^ 16 = (p0 + p1 + p2 + p3) + 256 * ((p1 + p2 + p3 + p4) + 256 * ((p2 + p3 + p4 + p5) + 256 * ((p3 + p4 + p5 + p6) + 256 * ((p4 + p5 + p6 + p7) + 256 * r)))) ∧ r < 10000000 := by
    have q := dv16 (u := u4) (A := (p0 + p1) + 256 * (p1 + p2)) (X := (p2 + p3) + 256 * ((p3 + p4) + 256 * ((p4 + p5) + 256 * ((p5 + p6) + 256 * ((p6 + p7) + 256 * p7))))) (by rw [d4]; clear d4 e4 e; omega) (by clear d4 e4 e; omega)
    rw [q, d4]
    clear d4 e4 e q g4 g3 g2 g1
    exact ⟨(p5 + p6 + p7) + 256 * ((p6 + p7) + 256 * p7), by omega, by omega⟩
  obtain ⟨r, d5, hr⟩ := d5
  generalize e5 : u4 + u4 / 2 ^ 16 = u5 at g5 d5
  have d6 : ∃ r', u5 + u5 / 2 ^ 32 = (p0 + p1 + p2 + p3 + p4 + p5 + p6 + p7) + 256 * r' ∧ u5 < 2 ^ 64 := by
    have q := dv32 (u := u5) (A := (p0 + p1 + p2 + p3) + 256 * ((p1 + p2 + p3 + p4) + 256 * ((p2 + p3 + p4 + p5) + 256 * (p3 + p4 + p5 + p6)))) (X := (p4 + p5 + p6 + p7) + 256 * r) (by rw [d5]; clear d5 e5 d4 e4 e; omega) (by clear d5 e5 d4 e4 e; omega)
    rw [q, d5]
    clear d5 e5 d4 e4 e q g5 g4 g3 g2 g1
    exact ⟨(p1 + p2 + p3 + p4) + 256 * ((p2 + p3 + p4 + p5) + 256 * ((p3 + p4 + p5 + p6) + 256 * ((p4 + p5 + p6 + p7) + 256 * r))) + r, by omega, by omega⟩
  obtain ⟨r', d6, hu5⟩ := d6
  have g6 : lN u5 + ((lN u5).toUInt64 >>> (((32 : Int32)).toInt64.toUInt64 &&& Int64.toUInt64 63)).toInt64 = lN (u5 + u5 / 2 ^ 32) := by
    have : ((lN u5).toUInt64 >>> (((32 : Int32)).toInt64.toUInt64 &&& Int64.toUInt64 63)).toInt64 = lN (u5 / 2 ^ 32) := wb_shr (k := 32) hu5 (by decide)
    rw [this, lN_add]
  generalize e6' : u5 + u5 / 2 ^ 32 = u6 at g6 d6
  simp only [lt_r, g1, g2, g3, g4, g5, g6]
  have e6 : (lN u6).toInt32 = nI u6 := by
    apply Int32.toBitVec_inj.mp
    rw [Int64.toBitVec_toInt32, wb_tb]
    show BitVec.signExtend 32 _ = BitVec.ofNat 32 _
    apply BitVec.eq_of_getLsbD_eq
    intro i hi
    rw [BitVec.getLsbD_signExtend, BitVec.getLsbD_ofNat, BitVec.getLsbD_ofNat]
    simp [hi, show i < 64 by omega]
  rw [e6, pk_and _ 7 (by decide)]
  have e7 : (nI u6).toBitVec.toNat = u6 % 2 ^ 32 := BitVec.toNat_ofNat _ _
  rw [e7]
  congr 2
  exact md7 d6 (by clear d4 d5 e d6; omega)
theorem b64_neg {x : Int64} {i : Nat} (hi : i < 64) : b64 (-x) i ↔ ¬ (b64 x i ↔ ∃ j, j < i ∧ b64 x j) := by
  unfold b64
  rw [Int64.toBitVec_neg, BitVec.getLsbD_neg]
  simp only [hi, decide_true, Bool.true_and]
  cases x.toBitVec.getLsbD i <;> simp
theorem b64_m1 {x : Int64} {i : Nat} (hi : i < 64) : b64 (x - 1) i ↔ (b64 x i ↔ ∃ j, j < i ∧ b64 x j) := by
  have e : (x - 1).toBitVec = ~~~ (-x).toBitVec := by
    rw [Int64.toBitVec_sub, Int64.toBitVec_neg]
    apply BitVec.eq_of_toNat_eq
    rw [BitVec.toNat_sub, BitVec.toNat_not, BitVec.toNat_neg]
    have := x.toBitVec.isLt
    show (2 ^ 64 - 1 + x.toBitVec.toNat) % 2 ^ 64 = _
    omega
  have h := b64_neg (x := x) hi
  unfold b64 at *
  rw [e, BitVec.getLsbD_not]
  simp only [hi, decide_true, Bool.true_and, Bool.not_eq_true']
  cases hb : (-x).toBitVec.getLsbD i
  · rw [hb] at h
    simp only [true_iff]
    exact Classical.not_not.mp (fun z => by have := h.mpr z; cases this)
  · rw [hb] at h
    simp only [false_iff, reduceCtorEq]
    exact h.mp rfl
theorem b64_xor {x y : Int64} {j : Nat} : b64 (x ^^^ y) j ↔ ¬ (b64 x j ↔ b64 y j) := by
  unfold b64; rw [Int64.toBitVec_xor, BitVec.getLsbD_xor]
  cases x.toBitVec.getLsbD j <;> cases y.toBitVec.getLsbD j <;> simp
/-- the lowest bit; the others -/
theorem b64_low {x : Int64} {i : Nat} : b64 (x &&& -x) i ↔ b64 x i ∧ ∀ j, j < i → ¬ b64 x j := by
  rw [b64_and]
  constructor
  · rintro ⟨h1, h2⟩
    have z := (b64_neg (b64_lt h1)).mp h2
    exact ⟨h1, fun j hj hb => z ⟨fun _ => ⟨j, hj, hb⟩, fun _ => h1⟩⟩
  · rintro ⟨h1, h2⟩
    exact ⟨h1, (b64_neg (b64_lt h1)).mpr (fun z => by obtain ⟨j, hj, hb⟩ := z.mp h1; exact h2 j hj hb)⟩
theorem b64_rest {x : Int64} {i : Nat} : b64 (x &&& (x - 1)) i ↔ b64 x i ∧ ∃ j, j < i ∧ b64 x j := by
  rw [b64_and]
  constructor
  · rintro ⟨h1, h2⟩
    exact ⟨h1, ((b64_m1 (b64_lt h1)).mp h2).mp h1⟩
  · rintro ⟨h1, h2⟩
    exact ⟨h1, (b64_m1 (b64_lt h1)).mpr ⟨fun _ => h2, fun _ => h1⟩⟩
theorem b64_rest2 {x : Int64} {i : Nat} : b64 (x ^^^ (x &&& -x)) i ↔ b64 x i ∧ ∃ j, j < i ∧ b64 x j := by
  rw [b64_xor, b64_low]
  constructor
  · intro h
    have h1 : b64 x i := Classical.not_not.mp (fun z => h ⟨fun y => absurd y z, fun y => absurd y.1 z⟩)
    refine ⟨h1, Classical.not_not.mp (fun z => h ⟨fun _ => ⟨h1, fun j hj hb => z ⟨j, hj, hb⟩⟩, fun _ => h1⟩)⟩
  · rintro ⟨h1, j, hj, hb⟩ z
    exact (z.mp h1).2 j hj hb
theorem lowE {x : Int64} {k : Nat} (h1 : b64 x k) (h2 : ∀ j, j < k → ¬ b64 x j) : x &&& -x = (1 : Int64) <<< ((nI k).toInt64 &&& 63) := by
  have hk := b64_lt h1
  apply b64_ext
  intro j hj
  rw [b64_low, b64_one hk]
  constructor
  · rintro ⟨a, b⟩
    rcases Nat.lt_trichotomy j k with z | z | z
    · exact absurd a (h2 j z)
    · exact z
    · exact absurd h1 (b k z)
  · rintro rfl; exact ⟨h1, h2⟩
theorem f_low {E : Ev} {h : Hp} {x : Int64} {k : Nat} (h1 : b64 x k) (h2 : ∀ j, j < k → ¬ b64 x j) : F_J13_bitCount_95d88 E ((x &&& -x) - 1) h = rtI (nI k) h := by
  have hk := b64_lt h1
  rw [f_bitCount]
  have e : ∀ j, j < 64 → (b64 ((x &&& -x) - 1) j ↔ j < k) := by
    intro j hj
    rw [b64_m1 hj, b64_low]
    constructor
    · intro z
      rcases Nat.lt_trichotomy j k with y | y | y
      · exact y
      · subst y
        obtain ⟨j', hj', hb⟩ := z.mp ⟨h1, h2⟩
        rw [b64_low] at hb
        exact absurd hb.1 (h2 j' hj')
      · have := z.mpr ⟨k, y, b64_low.mpr ⟨h1, h2⟩⟩
        exact absurd h1 (this.2 k y)
    · intro y
      constructor
      · rintro ⟨a, _⟩; exact absurd a (h2 j y)
      · rintro ⟨j', hj', hb⟩
        rw [b64_low] at hb
        exact absurd hb.1 (h2 j' (by omega))
  have e2 : ∀ m, m ≤ 64 → cntP (b64 ((x &&& -x) - 1)) m = if m ≤ k then m else k := by
    intro m
    induction m with
    | zero => intro _; rw [if_pos (by omega)]; rfl
    | succ m ih =>
      intro hm
      by_cases p : m < k
      · rw [cntP_t ((e m (by omega)).mpr p), ih (by omega), if_pos (by omega), if_pos (by omega)]
      · rw [cntP_f (fun z => p ((e m (by omega)).mp z)), ih (by omega), if_neg (show ¬ m + 1 ≤ k by omega)]
        split <;> omega
  rw [e2 64 (by omega), if_neg (by omega)]
theorem f_lowest {E : Ev} {h : Hp} {x : Int64} {k : Nat} (h1 : b64 x k) (h2 : ∀ j, j < k → ¬ b64 x j) : F_X11_lowest E x h = rtI (nI k) h := by
  unfold F_X11_lowest; rw [f_low h1 h2]; rfl
/-- what is left of a set when r of its bits were taken -/
def rem (x0 : Int64) (r : Nat) (x : Int64) : Prop := ∀ j, b64 x j ↔ b64 x0 j ∧ r ≤ cntP (b64 x0) j
theorem rem_0 (x : Int64) : rem x 0 x := fun j => ⟨fun h => ⟨h, Nat.zero_le _⟩, fun h => h.1⟩
theorem rem_k {x0 x : Int64} {r : Nat} (h : rem x0 r x) (hr : r < cntP (b64 x0) 64) : ∃ k, k < 64 ∧ b64 x0 k ∧ cntP (b64 x0) k = r ∧ b64 x k ∧ (∀ j, j < k → ¬ b64 x j) ∧ rem x0 (r + 1) (x &&& (x - 1)) ∧ rem x0 (r + 1) (x ^^^ (x &&& -x)) := by
  obtain ⟨k, hk, hb, hc⟩ := cnt_sur hr
  have xk : b64 x k := (h k).mpr ⟨hb, by omega⟩
  have lo : ∀ j, j < k → ¬ b64 x j := fun j hj z => by
    have z2 := (h j).mp z
    have := cnt_lt z2.1 hj; omega
  have key : ∀ j, (b64 x j ∧ ∃ i, i < j ∧ b64 x i) ↔ (b64 x0 j ∧ r + 1 ≤ cntP (b64 x0) j) := by
    intro j
    constructor
    · rintro ⟨a, i, hi, b⟩
      have z1 := (h j).mp a
      have z2 := (h i).mp b
      have := cnt_lt z2.1 hi
      exact ⟨z1.1, by omega⟩
    · rintro ⟨a, b⟩
      refine ⟨(h j).mpr ⟨a, by omega⟩, k, ?_, xk⟩
      rcases Nat.lt_or_ge k j with y | y
      · exact y
      · have := cnt_mono (P := b64 x0) y; omega
  exact ⟨k, hk, hb, hc, xk, lo, fun j => by rw [b64_rest]; exact key j, fun j => by rw [b64_rest2]; exact key j⟩
