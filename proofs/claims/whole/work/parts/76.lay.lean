/-! the reference's map -/
theorem mulB {a b : Int} {m n : Nat} (ha : a.natAbs ≤ m) (hb : b.natAbs ≤ n) : (a * b).natAbs ≤ m * n := by rw [Int.natAbs_mul]; exact Nat.mul_le_mul ha hb
theorem i32b {z : Int} {m : Nat} (h : z.natAbs ≤ m) (hm : m < 2 ^ 31) : z.bmod (2 ^ 32) = z := by
  apply Int.bmod_eq_of_le <;> omega
theorem i64b {z : Int} {m : Nat} (h : z.natAbs ≤ m) (hm : m < 2 ^ 63) : z.bmod (2 ^ 64) = z := by
  apply Int.bmod_eq_of_le <;> omega
theorem i32mul {a b : Int32} {m n : Nat} (ha : a.toInt.natAbs ≤ m) (hb : b.toInt.natAbs ≤ n) (h : m * n < 2 ^ 31) : (a * b).toInt = a.toInt * b.toInt := by
  rw [Int32.toInt_mul]; exact i32b (mulB ha hb) h
theorem i32add {a b : Int32} {m n : Nat} (ha : a.toInt.natAbs ≤ m) (hb : b.toInt.natAbs ≤ n) (h : m + n < 2 ^ 31) : (a + b).toInt = a.toInt + b.toInt := by
  rw [Int32.toInt_add]; exact i32b (m := m + n) (by omega) h
theorem i32sub {a b : Int32} {m n : Nat} (ha : a.toInt.natAbs ≤ m) (hb : b.toInt.natAbs ≤ n) (h : m + n < 2 ^ 31) : (a - b).toInt = a.toInt - b.toInt := by
  rw [Int32.toInt_sub]; exact i32b (m := m + n) (by omega) h
theorem i64mul {a b : Int64} {m n : Nat} (ha : a.toInt.natAbs ≤ m) (hb : b.toInt.natAbs ≤ n) (h : m * n < 2 ^ 63) : (a * b).toInt = a.toInt * b.toInt := by
  rw [Int64.toInt_mul]; exact i64b (mulB ha hb) h
theorem i64neg {a : Int64} {m : Nat} (ha : a.toInt.natAbs ≤ m) (h : m < 2 ^ 63) : (-a).toInt = - a.toInt := by
  rw [Int64.toInt_neg]; exact i64b (m := m) (by omega) h
theorem i64sub {a b : Int64} {m n : Nat} (ha : a.toInt.natAbs ≤ m) (hb : b.toInt.natAbs ≤ n) (h : m + n < 2 ^ 63) : (a - b).toInt = a.toInt - b.toInt := by
  rw [Int64.toInt_sub]; exact i64b (m := m + n) (by omega) h
section
variable {T : Ro} {c : Nat → Nat}
theorem aXY_b {a : Nat} (q1 : WfT T c) (ha : a < 2 * c 1) : (aX T a).toInt.natAbs ≤ 99 ∧ (aY T a).toInt.natAbs ≤ 99 := by
  have k0 : c 0 ≤ 40 := (q1.1 0 (by decide)).2
  have b := ast_b q1.2.2.1 (show a / 2 < c 1 by omega)
  have b1 := bl_tn (by omega) b.1
  have b2 := bl_tn (by omega) b.2
  have p1 := q1.2.1.1 _ b1.1
  have p2 := q1.2.1.1 _ b2.1
  obtain ⟨⟨x1, e1, -, h1⟩, ⟨y1, f1, -, g1⟩⟩ := p1
  obtain ⟨⟨x2, e2, -, h2⟩, ⟨y2, f2, -, g2⟩⟩ := p2
  unfold aX aY
  rw [e1, e2, f1, f2, pk_sub_toInt (by omega) (by omega), pk_sub_toInt (by omega) (by omega)]
  omega
def crI (T : Ro) (s a : Nat) : Int32 := aX T (s / 2) * aY T a - aY T (s / 2) * aX T a
def dtI (T : Ro) (s a : Nat) : Int32 := aX T (s / 2) * aX T a + aY T (s / 2) * aY T a
def szI (T : Ro) (a : Nat) : Int32 := aX T a * aX T a + aY T a * aY T a
def dsL (T : Ro) (s a : Nat) : Int64 := if (0 : Int64) ≤ (dtI T s a).toInt64 then (dtI T s a).toInt64 * (dtI T s a).toInt64 else -(dtI T s a).toInt64 * (dtI T s a).toInt64
theorem crI_v {s a : Nat} (q1 : WfT T c) (hs : s < 4 * c 1) (ha : a < 2 * c 1) : (crI T s a).toInt = crs T s a := by
  have b1 := aXY_b q1 (show s / 2 < 2 * c 1 by omega)
  have b2 := aXY_b q1 ha
  unfold crI crs
  have e1 := i32mul b1.1 b2.2 (by decide)
  have e2 := i32mul b1.2 b2.1 (by decide)
  rw [i32sub (m := 99 * 99) (n := 99 * 99) (by rw [e1]; exact mulB b1.1 b2.2) (by rw [e2]; exact mulB b1.2 b2.1) (by decide), e1, e2]
theorem dtI_v {s a : Nat} (q1 : WfT T c) (hs : s < 4 * c 1) (ha : a < 2 * c 1) : (dtI T s a).toInt = dt T s a ∧ (dt T s a).natAbs ≤ 19602 := by
  have b1 := aXY_b q1 (show s / 2 < 2 * c 1 by omega)
  have b2 := aXY_b q1 ha
  unfold dtI dt
  have e1 := i32mul b1.1 b2.1 (by decide)
  have e2 := i32mul b1.2 b2.2 (by decide)
  have m1 := mulB b1.1 b2.1
  have m2 := mulB b1.2 b2.2
  refine ⟨?_, by omega⟩
  rw [i32add (m := 99 * 99) (n := 99 * 99) (by rw [e1]; exact m1) (by rw [e2]; exact m2) (by decide), e1, e2]
theorem szI_v {a : Nat} (q1 : WfT T c) (ha : a < 2 * c 1) : (szI T a).toInt = szs T a ∧ (szs T a).natAbs ≤ 19602 := by
  have b2 := aXY_b q1 ha
  unfold szI szs
  have e1 := i32mul b2.1 b2.1 (by decide)
  have e2 := i32mul b2.2 b2.2 (by decide)
  have m1 := mulB b2.1 b2.1
  have m2 := mulB b2.2 b2.2
  refine ⟨?_, by omega⟩
  rw [i32add (m := 99 * 99) (n := 99 * 99) (by rw [e1]; exact m1) (by rw [e2]; exact m2) (by decide), e1, e2]
theorem dsL_v {s a : Nat} (q1 : WfT T c) (hs : s < 4 * c 1) (ha : a < 2 * c 1) : (dsL T s a).toInt = dts T s a ∧ (dts T s a).natAbs ≤ 384238404 := by
  have h := dtI_v q1 hs ha
  have e : (dtI T s a).toInt64.toInt = dt T s a := by rw [Int32.toInt_toInt64, h.1]
  have m1 := mulB h.2 h.2
  have hb : (dtI T s a).toInt64.toInt.natAbs ≤ 19602 := by rw [e]; exact h.2
  unfold dsL dts
  by_cases p : dt T s a < 0
  · rw [if_pos p, if_neg (fun z => by rw [Int64.le_iff_toInt_le, e] at z; exact absurd z (by simp; omega))]
    have e2 : (-(dtI T s a).toInt64).toInt = - dt T s a := by rw [i64neg hb (by decide), e]
    rw [i64mul (m := 19602) (n := 19602) (by rw [e2]; omega) hb (by decide), e2, e, Int.neg_mul]
    exact ⟨rfl, by omega⟩
  · rw [if_neg p, if_pos (by rw [Int64.le_iff_toInt_le, e]; simp; omega), i64mul hb hb (by decide), e]
    exact ⟨rfl, by omega⟩
end
section
variable {E : Ev} {w : Wo} {I : Nat → Nat → Int32} {L : Nat → Nat → Int64} {Q : Nat → Nat → Option Nat} {c : Nat → Nat} {x : Int32}
theorem f_alongX {a : Nat} (q1 : WfT (I 137) c) (ha : a < 2 * c 1) : F_X12_alongX E (rr w 163) (nI a) (Hw E w I L Q) = rtI (aX (I 137) a) (Hw E w I L Q) := by
  have k0 : c 0 ≤ 40 := (q1.1 0 (by decide)).2
  have k1 : c 1 ≤ 60 := (q1.1 1 (by decide)).2
  have b := ast_b q1.2.2.1 (show a / 2 < c 1 by omega)
  obtain ⟨p, ep, hp⟩ := b.1
  obtain ⟨r, er, hr⟩ := b.2
  unfold F_X12_alongX aX
  simp (disch := omega) only [Option.bind_some, Option.map_some, Option.join, cI_r, cL_r, cV_r, xI_r, xL_r, xV_r, xI_t, xL_t, xV_t, lt_r, rtZ_0, rtZ_1, rtZ_zb, m2, m3, m4, m5, m6, m7, m8, m9, m10, m11, m12, m13, m14, m15, m16, m17, m18, m19, m20, m21, m22, m23, m24, m25, m26, m27, m28, m29, m30, m31, m32, m40, m41, m60, m63, m64, m90, m99, m100, m120, m127, m164, m173, m200, m240, m255, m450, m480, m650, m722, m762, m960, m1000000, m2838, m2988, m4095, pk_mul, nI_add, nI_1, nI_leI, nI_ltI, nI_eq, ix_n, gf163_0, o163, f_endOf0, f_endOf1, ep, er, ga137, show tn (nI p) = p from nI_clamp (by omega), show tn (nI r) = r from nI_clamp (by omega)]
theorem f_alongY {a : Nat} (q1 : WfT (I 137) c) (ha : a < 2 * c 1) : F_X12_alongY E (rr w 163) (nI a) (Hw E w I L Q) = rtI (aY (I 137) a) (Hw E w I L Q) := by
  have k0 : c 0 ≤ 40 := (q1.1 0 (by decide)).2
  have k1 : c 1 ≤ 60 := (q1.1 1 (by decide)).2
  have b := ast_b q1.2.2.1 (show a / 2 < c 1 by omega)
  obtain ⟨p, ep, hp⟩ := b.1
  obtain ⟨r, er, hr⟩ := b.2
  unfold F_X12_alongY aY
  simp (disch := omega) only [Option.bind_some, Option.map_some, Option.join, cI_r, cL_r, cV_r, xI_r, xL_r, xV_r, xI_t, xL_t, xV_t, lt_r, rtZ_0, rtZ_1, rtZ_zb, m2, m3, m4, m5, m6, m7, m8, m9, m10, m11, m12, m13, m14, m15, m16, m17, m18, m19, m20, m21, m22, m23, m24, m25, m26, m27, m28, m29, m30, m31, m32, m40, m41, m60, m63, m64, m90, m99, m100, m120, m127, m164, m173, m200, m240, m255, m450, m480, m650, m722, m762, m960, m1000000, m2838, m2988, m4095, pk_mul, nI_add, nI_1, nI_leI, nI_ltI, nI_eq, ix_n, gf163_0, o163, f_endOf0, f_endOf1, ep, er, ga137, show tn (nI p) = p from nI_clamp (by omega), show tn (nI r) = r from nI_clamp (by omega), show 10 + 2 * p + 1 = 11 + 2 * p by omega, show 10 + 2 * r + 1 = 11 + 2 * r by omega]
theorem dv2 {a : Nat} (ha : a < 2 ^ 31) : dvI (nI a) (nI 2) = some (nI (a / 2)) := dv_n rfl ha (by decide) (by decide)
theorem rm2 {a : Nat} (ha : a < 2 ^ 31) : rmI (nI a) (nI 2) = some (nI (a % 2)) := rm_n rfl ha (by decide) (by decide)
theorem dv4 {a : Nat} (ha : a < 2 ^ 31) : dvI (nI a) (nI 4) = some (nI (a / 4)) := dv_n rfl ha (by decide) (by decide)
theorem f_cross {s a : Nat} (q1 : WfT (I 137) c) (hs : s < 4 * c 1) (ha : a < 2 * c 1) : F_X12_cross E (rr w 163) (nI s) (nI a) (Hw E w I L Q) = rtI (crI (I 137) s a) (Hw E w I L Q) := by
  have k1 : c 1 ≤ 60 := (q1.1 1 (by decide)).2
  unfold F_X12_cross crI
  simp (disch := omega) only [Option.bind_some, Option.map_some, Option.join, cI_r, cL_r, cV_r, xI_r, xL_r, xV_r, xI_t, xL_t, xV_t, lt_r, rtZ_0, rtZ_1, rtZ_zb, m2, m3, m4, m5, m6, m7, m8, m9, m10, m11, m12, m13, m14, m15, m16, m17, m18, m19, m20, m21, m22, m23, m24, m25, m26, m27, m28, m29, m30, m31, m32, m40, m41, m60, m63, m64, m90, m99, m100, m120, m127, m164, m173, m200, m240, m255, m450, m480, m650, m722, m762, m960, m1000000, m2838, m2988, m4095, pk_mul, nI_add, nI_1, nI_leI, nI_ltI, nI_eq, ix_n, dv2, o163, f_alongX q1, f_alongY q1]
theorem f_dots {s a : Nat} (q1 : WfT (I 137) c) (hs : s < 4 * c 1) (ha : a < 2 * c 1) : F_X12_dots E (rr w 163) (nI s) (nI a) (Hw E w I L Q) = rtL (dsL (I 137) s a) (Hw E w I L Q) := by
  have k1 : c 1 ≤ 60 := (q1.1 1 (by decide)).2
  unfold F_X12_dots
  simp (disch := omega) only [Option.bind_some, Option.map_some, Option.join, cI_r, cL_r, cV_r, xI_r, xL_r, xV_r, xI_t, xL_t, xV_t, lt_r, rtZ_0, rtZ_1, rtZ_zb, m2, m3, m4, m5, m6, m7, m8, m9, m10, m11, m12, m13, m14, m15, m16, m17, m18, m19, m20, m21, m22, m23, m24, m25, m26, m27, m28, m29, m30, m31, m32, m40, m41, m60, m63, m64, m90, m99, m100, m120, m127, m164, m173, m200, m240, m255, m450, m480, m650, m722, m762, m960, m1000000, m2838, m2988, m4095, pk_mul, nI_add, nI_1, nI_leI, nI_ltI, nI_eq, ix_n, dv2, o163, f_alongX q1, f_alongY q1]
  unfold dsL dtI
  split <;> rfl
theorem f_sizes {a : Nat} (q1 : WfT (I 137) c) (ha : a < 2 * c 1) : F_X12_sizes E (rr w 163) (nI a) (Hw E w I L Q) = rtL (szI (I 137) a).toInt64 (Hw E w I L Q) := by
  unfold F_X12_sizes szI
  simp (disch := omega) only [Option.bind_some, Option.map_some, Option.join, cI_r, cL_r, cV_r, xI_r, xL_r, xV_r, xI_t, xL_t, xV_t, lt_r, rtZ_0, rtZ_1, rtZ_zb, m2, m3, m4, m5, m6, m7, m8, m9, m10, m11, m12, m13, m14, m15, m16, m17, m18, m19, m20, m21, m22, m23, m24, m25, m26, m27, m28, m29, m30, m31, m32, m40, m41, m60, m63, m64, m90, m99, m100, m120, m127, m164, m173, m200, m240, m255, m450, m480, m650, m722, m762, m960, m1000000, m2838, m2988, m4095, pk_mul, nI_add, nI_1, nI_leI, nI_ltI, nI_eq, ix_n, o163, f_alongX q1, f_alongY q1]
theorem f_less {s a b : Nat} (q1 : WfT (I 137) c) (hs : s < 4 * c 1) (ha : a < 2 * c 1) (hb : b < 2 * c 1) : F_X12_isLessTurned E (rr w 163) (nI s) (nI a) (nI b) (Hw E w I L Q) = rtI (zb (¬ dts (I 137) s a * szs (I 137) b ≤ dts (I 137) s b * szs (I 137) a)) (Hw E w I L Q) := by
  unfold F_X12_isLessTurned
  simp (disch := omega) only [Option.bind_some, Option.map_some, Option.join, cI_r, cL_r, cV_r, xI_r, xL_r, xV_r, xI_t, xL_t, xV_t, lt_r, rtZ_0, rtZ_1, rtZ_zb, m2, m3, m4, m5, m6, m7, m8, m9, m10, m11, m12, m13, m14, m15, m16, m17, m18, m19, m20, m21, m22, m23, m24, m25, m26, m27, m28, m29, m30, m31, m32, m40, m41, m60, m63, m64, m90, m99, m100, m120, m127, m164, m173, m200, m240, m255, m450, m480, m650, m722, m762, m960, m1000000, m2838, m2988, m4095, pk_mul, nI_add, nI_1, nI_leI, nI_ltI, nI_eq, ix_n, o163, f_dots q1, f_sizes q1]
  have d1 := dsL_v q1 hs ha
  have d2 := dsL_v q1 hs hb
  have s1 := szI_v q1 ha
  have s2 := szI_v q1 hb
  have e : dsL (I 137) s a * (szI (I 137) b).toInt64 ≤ dsL (I 137) s b * (szI (I 137) a).toInt64 ↔ dts (I 137) s a * szs (I 137) b ≤ dts (I 137) s b * szs (I 137) a := by
    rw [Int64.le_iff_toInt_le, i64mul (m := 384238404) (n := 19602) (by rw [d1.1]; exact d1.2) (by rw [Int32.toInt_toInt64, s2.1]; exact s2.2) (by decide), i64mul (m := 384238404) (n := 19602) (by rw [d2.1]; exact d2.2) (by rw [Int32.toInt_toInt64, s1.1]; exact s1.2) (by decide), Int32.toInt_toInt64, Int32.toInt_toInt64, d1.1, d2.1, s1.1, s2.1]
  by_cases p : dts (I 137) s a * szs (I 137) b ≤ dts (I 137) s b * szs (I 137) a
  · rw [if_pos (e.mpr p), zb_f (not_not_intro p)]
  · rw [if_neg (fun z => p (e.mp z)), zb_t p]
theorem f_isThereM {v : Nat} (hv : v < 60) : F_X12_isThere E (rr w 163) (nI v) x (Hw E w I L Q) = rtI (zb (I 137 (94 + 6 * v) ≤ x ∧ x ≤ I 137 (95 + 6 * v))) (Hw E w I L Q) := by
  unfold F_X12_isThere
  simp (disch := omega) only [Option.bind_some, Option.map_some, Option.join, cI_r, cL_r, cV_r, xI_r, xL_r, xV_r, xI_t, xL_t, xV_t, lt_r, rtZ_0, rtZ_1, rtZ_zb, m2, m3, m4, m5, m6, m7, m8, m9, m10, m11, m12, m13, m14, m15, m16, m17, m18, m19, m20, m21, m22, m23, m24, m25, m26, m27, m28, m29, m30, m31, m32, m40, m41, m60, m63, m64, m90, m99, m100, m120, m127, m164, m173, m200, m240, m255, m450, m480, m650, m722, m762, m960, m1000000, m2838, m2988, m4095, pk_mul, nI_add, nI_1, nI_leI, nI_ltI, nI_eq, ix_n, o163, f_wayOf, wi_t, i64_le, show 90 + 6 * v + 4 = 94 + 6 * v by omega, show 90 + 6 * v + 5 = 95 + 6 * v by omega]
theorem f_isOut {s a y : Nat} (q1 : WfT (I 137) c) (hs : s < 4 * c 1) (ha : a < 2 * c 1) : F_X12_isOut E (rr w 163) (nI s) (nI a) (nI y) (Hw E w I L Q) = rtI (zb (isOt (I 137) c (thr0 (I 137) c y) s a)) (Hw E w I L Q) := by
  have k1 : c 1 ≤ 60 := (q1.1 1 (by decide)).2
  unfold F_X12_isOut isOt thr0
  simp (disch := omega) only [Option.bind_some, Option.map_some, Option.join, cI_r, cL_r, cV_r, xI_r, xL_r, xV_r, xI_t, xL_t, xV_t, lt_r, rtZ_0, rtZ_1, rtZ_zb, m2, m3, m4, m5, m6, m7, m8, m9, m10, m11, m12, m13, m14, m15, m16, m17, m18, m19, m20, m21, m22, m23, m24, m25, m26, m27, m28, m29, m30, m31, m32, m40, m41, m60, m63, m64, m90, m99, m100, m120, m127, m164, m173, m200, m240, m255, m450, m480, m650, m722, m762, m960, m1000000, m2838, m2988, m4095, pk_mul, nI_add, nI_1, nI_leI, nI_ltI, nI_eq, ix_n, o163, f_endOf0, f_placeOf, dv2, rm2, f_isThereM, xo1 _ (show s / 2 < 120 by omega)]
  by_cases p1 : ast (I 137) a = spl (I 137) s
  · rw [if_neg (not_not_intro p1)]
    by_cases p2 : I 137 (94 + 6 * (a / 2)) ≤ nI y ∧ nI y ≤ I 137 (95 + 6 * (a / 2))
    · rw [zi_t p2]
      have hx : s / 2 ^^^ 1 < 2 ^ 31 := by rw [xo_1]; split <;> omega
      by_cases p3 : s % 2 = 1
      · rw [if_pos (by rw [p3]; rfl), zb_t ⟨ha, ⟨by omega, p2⟩, p1, Or.inl p3⟩]
      · rw [if_neg (by rw [show s % 2 = 0 by omega]; decide)]
        by_cases p4 : a = s / 2 ^^^ 1
        · rw [if_pos ((nI_eq (by omega) hx).mpr p4), zb_f (fun z => z.2.2.2.elim p3 (fun z => z p4))]
        · rw [if_neg (fun z => p4 ((nI_eq (by omega) hx).mp z)), zb_t ⟨ha, ⟨by omega, p2⟩, p1, Or.inr p4⟩]
    · rw [zi_f p2, zb_f (fun z => p2 z.2.1.2)]
  · rw [if_pos p1, zb_f (fun z => p1 z.2.2.1)]
def bm (G : Nat → Int64) (m q : Nat) : Prop := b256 G (4 * m) q
theorem pt_m {k m s m' q : Nat} (hs : s < 256) (hq : q < 256) : bm (pt L k (4 * m) s k) m' q ↔ (m' = m ∧ q = s) ∨ bm (L k) m' q := by
  unfold bm
  by_cases e : m' = m
  · rw [e, pt_b hs hq]
    exact ⟨fun h => h.elim (fun z => Or.inl ⟨rfl, z⟩) Or.inr, fun h => h.elim (fun z => Or.inl z.2) Or.inr⟩
  · rw [pt_b2 hs hq (by omega)]
    exact ⟨Or.inr, fun h => h.elim (fun z => absurd z.1 e) id⟩
theorem la140 : LA w 140 4800 := ⟨lv_of (by decide), rfl, by decide⟩
theorem f_sideAt1 {sd s : Nat} {h : Hp} : F_X12_sideAt E (nI sd) 1 (nI s) h = rtI (nI (4 * (240 * (1 + sd) + s))) h := by
  unfold F_X12_sideAt
  rw [if_neg (by decide), n1, n0, nI_add, nI_add, n960, n4, pk_mul, pk_mul, nI_add, show 960 * (1 + sd + 0) + 4 * s = 4 * (240 * (1 + sd) + s) by omega]
theorem f_sideAt0 {sd s : Nat} {h : Hp} : F_X12_sideAt E (nI sd) 0 (nI s) h = rtI (nI (4 * (240 * (3 + sd) + s))) h := by
  unfold F_X12_sideAt
  rw [if_pos rfl, n1, n2, nI_add, nI_add, n960, n4, pk_mul, pk_mul, nI_add, show 960 * (1 + sd + 2) + 4 * s = 4 * (240 * (3 + sd) + s) by omega]
def isPt (T : Ro) (a : Nat) : Prop := T (92 + 6 * (a / 2)) = 2
theorem m_lay74 {s a sd : Nat} {y2 y3 cr : Int32} {K : Int32 → Int32 → Hp → Rs} (q1 : WfT (I 137) c) (hs : s < 4 * c 1) (ha : a < 2 * c 1) (hsd : sd < 2) (hc : cr ≤ 0 ↔ sd = 1) : ∃ L', (∀ k, k ≠ 140 → L' k = L k) ∧ (∀ m q, q < 256 → (bm (L' 140) m q ↔ bm (L 140) m q ∨ (q = 2 * a ∧ (m = 240 * (1 + sd) + s ∨ (m = 240 * (3 + sd) + s ∧ ¬ isPt (I 137) a))))) ∧ J_X12_layOne_74 E K (rr w 163) (nI s) y2 y3 (nI a) cr (rr w 140) (nI sd) (Hw E w I L Q) = K y3 (nI (a + 1)) (Hw E w I L' Q) := by
  have k1 : c 1 ≤ 60 := (q1.1 1 (by decide)).2
  unfold J_X12_layOne_74 J_X12_layOne_113
  have fs0 : ∀ h, F_X12_sideAt E 0 0 (nI s) h = rtI (nI (4 * (240 * (3 + 0) + s))) h := fun h => f_sideAt0 (sd := 0)
  have fs1 : ∀ h, F_X12_sideAt E 1 0 (nI s) h = rtI (nI (4 * (240 * (3 + 1) + s))) h := fun h => f_sideAt0 (sd := 1)
  simp (disch := omega) only [Option.bind_some, Option.map_some, Option.join, cI_r, cL_r, cV_r, xI_r, xL_r, xV_r, xI_t, xL_t, xV_t, lt_r, rtZ_0, rtZ_1, rtZ_zb, m2, m3, m4, m5, m6, m7, m8, m9, m10, m11, m12, m13, m14, m15, m16, m17, m18, m19, m20, m21, m22, m23, m24, m25, m26, m27, m28, m29, m30, m31, m32, m40, m41, m60, m63, m64, m90, m99, m100, m120, m127, m164, m173, m200, m240, m255, m450, m480, m650, m722, m762, m960, m1000000, m2838, m2988, m4095, pk_mul, nI_add, nI_1, nI_leI, nI_ltI, nI_eq, ix_n, f_sideAt1, fs0, fs1, f_put la140, dv2, o163, f_wayOf, gf163_5]
  rw [show 90 + 6 * (a / 2) + 2 = 92 + 6 * (a / 2) by omega]
  by_cases p : isPt (I 137) a
  · refine ⟨pt L 140 (4 * (240 * (1 + sd) + s)) (2 * a), fun k hk => pt_row hk, fun m q hq => ?_, ?_⟩
    · rw [pt_m (by omega) hq]
      constructor
      · rintro (⟨h1, h2⟩ | h)
        · exact Or.inr ⟨h2, Or.inl h1⟩
        · exact Or.inl h
      · rintro (h | ⟨h2, h1 | h1⟩)
        · exact Or.inr h
        · exact Or.inl ⟨h1, h2⟩
        · exact absurd p h1.2
    · rw [if_pos (show I 137 (92 + 6 * (a / 2)) = nI 2 from p)]
  · refine ⟨pt (pt L 140 (4 * (240 * (1 + sd) + s)) (2 * a)) 140 (4 * (240 * (3 + sd) + s)) (2 * a), fun k hk => by rw [pt_row hk, pt_row hk], fun m q hq => ?_, ?_⟩
    · rw [pt_m (by omega) hq, pt_m (by omega) hq]
      constructor
      · rintro (⟨h1, h2⟩ | ⟨h1, h2⟩ | h)
        · exact Or.inr ⟨h2, Or.inr ⟨h1, p⟩⟩
        · exact Or.inr ⟨h2, Or.inl h1⟩
        · exact Or.inl h
      · rintro (h | ⟨h2, h1 | h1⟩)
        · exact Or.inr (Or.inr h)
        · exact Or.inr (Or.inl ⟨h1, h2⟩)
        · exact Or.inl ⟨h1.1, h2⟩
    · rw [if_neg (show ¬ I 137 (92 + 6 * (a / 2)) = nI 2 from p)]
      by_cases e : sd = 1
      · rw [if_pos (hc.mpr e), e]
      · have e0 : sd = 0 := by omega
        rw [if_neg (fun z => e (hc.mp z)), e0]
end
