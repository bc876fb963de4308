/-! went, walker, mark: the calls -/
section
variable {E : Ev} {w : Wo} {I : Nat → Nat → Int32} {L : Nat → Nat → Int64} {Q : Nat → Nat → Option Nat} {c : Nat → Nat} {x y : Int32}
theorem vn01 {z : Int32} (h : z = 0 ∨ z = 1) : vp_nar .boolean z = z := by rcases h with rfl | rfl <;> rfl
theorem bl2 {z : Int32} (h : z = 0 ∨ z = 1) : bl z 2 := by
  rcases h with rfl | rfl
  · exact ⟨0, rfl, by decide⟩
  · exact ⟨1, rfl, by decide⟩
theorem f_forget : F_X10_forget E (rr w 32) (Hw E w I L Q) = rtV (Hw E w (up2 (up2 (up2 I 32 1 0) 32 2 (-1)) 32 3 1) L Q) := by
  unfold F_X10_forget; simp only [Option.bind_some, Option.map_some, Option.join, cI_r, cL_r, cV_r, xI_r, xL_r, xV_r, xI_t, xL_t, xV_t, lt_r, rtZ_0, rtZ_1, rtZ_zb, pf32_1, pf32_2, pf32_3, or_true, if_true]
theorem f_needTold1 {a b d e : Int32} (q1 : Cts (I 137) c) (h5 : I 22 0 = I 137 5) (h4 : I 15 2 = I 137 4) (h1 : I 0 3 = I 137 1) (hb : ¬ (bl a (c 5) ∧ bl b (c 4) ∧ bl d (4 * c 1))) : F_X11_needTold E (rr w 136) a b d e (Hw E w I L Q) = thr "java/util/NoSuchElementException" (Hw E w I L Q) := by
  have k5 := q1 5 (by decide)
  have k4 := q1 4 (by decide)
  have k1 := q1 1 (by decide)
  simp only [mx] at k5 k4 k1
  unfold F_X11_needTold
  simp only [Option.bind_some, Option.map_some, Option.join, cI_r, cL_r, cV_r, xI_r, xL_r, xV_r, xI_t, xL_t, xV_t, lt_r, rtZ_0, rtZ_1, rtZ_zb, o136, f_needTelling (h5.trans k5.1) (by omega)]
  by_cases p5 : bl a (c 5)
  · simp only [Option.bind_some, Option.map_some, Option.join, cI_r, cL_r, cV_r, xI_r, xL_r, xV_r, xI_t, xL_t, xV_t, lt_r, rtZ_0, rtZ_1, rtZ_zb, nd_t p5, o136, f_needWalker (h4.trans k4.1) (by omega)]
    by_cases p4 : bl b (c 4)
    · simp only [Option.bind_some, Option.map_some, Option.join, cI_r, cL_r, cV_r, xI_r, xL_r, xV_r, xI_t, xL_t, xV_t, lt_r, rtZ_0, rtZ_1, rtZ_zb, nd_t p4, o136, f_needState (h1.trans k1.1) (by omega)]
      have p1 : ¬ bl d (4 * c 1) := fun z => hb ⟨p5, p4, z⟩
      simp only [Option.bind_some, Option.map_some, Option.join, cI_r, cL_r, cV_r, xI_r, xL_r, xV_r, xI_t, xL_t, xV_t, lt_r, rtZ_0, rtZ_1, rtZ_zb, nd_f p1]
    · simp only [Option.bind_some, Option.map_some, Option.join, cI_r, cL_r, cV_r, xI_r, xL_r, xV_r, xI_t, xL_t, xV_t, lt_r, rtZ_0, rtZ_1, rtZ_zb, nd_f p4]
  · simp only [Option.bind_some, Option.map_some, Option.join, cI_r, cL_r, cV_r, xI_r, xL_r, xV_r, xI_t, xL_t, xV_t, lt_r, rtZ_0, rtZ_1, rtZ_zb, nd_f p5]
theorem f_needTold2 {a b d e : Int32} (q1 : Cts (I 137) c) (h5 : I 22 0 = I 137 5) (h4 : I 15 2 = I 137 4) (h1 : I 0 3 = I 137 1) (hb : bl a (c 5) ∧ bl b (c 4) ∧ bl d (4 * c 1)) : F_X11_needTold E (rr w 136) a b d e (Hw E w I L Q) = nd (bd e 0 200) "java/lang/IllegalArgumentException" (Hw E w I L Q) := by
  have k5 := q1 5 (by decide)
  have k4 := q1 4 (by decide)
  have k1 := q1 1 (by decide)
  simp only [mx] at k5 k4 k1
  unfold F_X11_needTold
  simp only [Option.bind_some, Option.map_some, Option.join, cI_r, cL_r, cV_r, xI_r, xL_r, xV_r, xI_t, xL_t, xV_t, lt_r, rtZ_0, rtZ_1, rtZ_zb, o136, f_needTelling (h5.trans k5.1) (show c 5 < 2 ^ 31 by omega), nd_t hb.1, f_needWalker (h4.trans k4.1) (show c 4 < 2 ^ 31 by omega), nd_t hb.2.1, f_needState (h1.trans k1.1) (show c 1 < 2 ^ 28 by omega), nd_t hb.2.2, f_needYear]
  by_cases p : bd e 0 200
  · simp only [Option.bind_some, Option.map_some, Option.join, cI_r, cL_r, cV_r, xI_r, xL_r, xV_r, xI_t, xL_t, xV_t, lt_r, rtZ_0, rtZ_1, rtZ_zb, nd_t p]
  · simp only [Option.bind_some, Option.map_some, Option.join, cI_r, cL_r, cV_r, xI_r, xL_r, xV_r, xI_t, xL_t, xV_t, lt_r, rtZ_0, rtZ_1, rtZ_zb, nd_f p]
theorem f_addRecord {x1 x2 x3 x4 x5 : Int32} {n : Nat} (hn : I 22 5 = nI n) (h3 : n < 30) : F_X0_addRecord E (rr w 22) x1 x2 x3 x4 x5 (Hw E w I L Q) = rtI (nI (n + 1)) (Hw E w (up2 (up2 (up2 (up2 (up2 (up2 I 27 n x1) 28 n x2) 29 n x3) 30 n x4) 31 n x5) 22 5 (nI (n + 1))) L Q) := by
  unfold F_X0_addRecord
  simp only [Option.bind_some, Option.map_some, Option.join, cI_r, cL_r, cV_r, xI_r, xL_r, xV_r, xI_t, xL_t, xV_t, lt_r, rtZ_0, rtZ_1, rtZ_zb, o22, gf22_0, pf22_0, gf22_1, gf22_2, gf22_3, gf22_4, gf22_5, pf22_5, gf22_6, gf22_7, gf22_8, gf22_9, gf22_10, ga27, pa27, ga28, pa28, ga29, pa29, ga30, pa30, ga31, pa31, hn, n30, if_pos (nI_lt h3 (by decide)), ix_n h3 (show 30 < 2 ^ 31 by decide), up2_lit, Nat.reduceEqDiff, Nat.one_ne_zero, Nat.zero_ne_one, false_and, and_false, true_and, and_true, if_false, if_true, reduceIte, nI_1]
theorem f_addRecordF {x1 x2 x3 x4 x5 : Int32} (hn : I 22 5 = nI 30) : F_X0_addRecord E (rr w 22) x1 x2 x3 x4 x5 (Hw E w I L Q) = rtI (-1) (Hw E w I L Q) := by
  unfold F_X0_addRecord
  simp only [Option.bind_some, Option.map_some, Option.join, cI_r, cL_r, cV_r, xI_r, xL_r, xV_r, xI_t, xL_t, xV_t, lt_r, rtZ_0, rtZ_1, rtZ_zb, o22, gf22_0, pf22_0, gf22_1, gf22_2, gf22_3, gf22_4, gf22_5, pf22_5, gf22_6, gf22_7, gf22_8, gf22_9, gf22_10, hn, n30, if_neg (nI_nlt (Nat.le_refl 30) (by decide))]
theorem f_addWalker {x1 x2 x3 x4 x5 : Int32} {n : Nat} (hn : I 15 2 = nI n) (h3 : n < 8) (b3 : x3 = 0 ∨ x3 = 1) (b4 : x4 = 0 ∨ x4 = 1) : F_X2_addWalker E (rr w 15) x1 x2 x3 x4 x5 (Hw E w I L Q) = rtI (nI n) (Hw E w (up2 (up2 (up2 (up2 (up2 (up2 I 17 n x1) 18 n x2) 19 n x3) 20 n x4) 21 n x5) 15 2 (nI (n + 1))) L Q) := by
  unfold F_X2_addWalker
  simp only [Option.bind_some, Option.map_some, Option.join, cI_r, cL_r, cV_r, xI_r, xL_r, xV_r, xI_t, xL_t, xV_t, lt_r, rtZ_0, rtZ_1, rtZ_zb, o15, gf15_0, pf15_0, gf15_1, gf15_2, pf15_2, gf15_3, gf15_4, gf15_5, gf15_6, gf15_7, ga17, pa17, ga18, pa18, ga19, pa19, ga20, pa20, ga21, pa21, hn, n8, if_pos (nI_lt h3 (by decide)), ix_n h3 (show 8 < 2 ^ 31 by decide), up2_lit, Nat.reduceEqDiff, Nat.one_ne_zero, Nat.zero_ne_one, false_and, and_false, true_and, and_true, if_false, if_true, reduceIte, nI_1, vn01 b3, vn01 b4]
theorem f_addWalkerF {x1 x2 x3 x4 x5 : Int32} (hn : I 15 2 = nI 8) : F_X2_addWalker E (rr w 15) x1 x2 x3 x4 x5 (Hw E w I L Q) = rtI (-1) (Hw E w I L Q) := by
  unfold F_X2_addWalker
  simp only [Option.bind_some, Option.map_some, Option.join, cI_r, cL_r, cV_r, xI_r, xL_r, xV_r, xI_t, xL_t, xV_t, lt_r, rtZ_0, rtZ_1, rtZ_zb, o15, gf15_0, pf15_0, gf15_1, gf15_2, pf15_2, gf15_3, gf15_4, gf15_5, gf15_6, gf15_7, hn, n8, if_neg (nI_nlt (Nat.le_refl 8) (by decide))]
theorem f_addMark {x1 x2 x3 x4 x5 : Int32} {n : Nat} (hn : I 0 11 = nI n) (h3 : n < 40) (b3 : x3 = 0 ∨ x3 = 1) : F_X3_addMark E (rr w 0) x1 x2 x3 x4 x5 (Hw E w I L Q) = rtI (nI n) (Hw E w (up2 (up2 (up2 (up2 (up2 (up2 I 10 n x1) 11 n x2) 12 n x3) 13 n x4) 14 n x5) 0 11 (nI (n + 1))) L Q) := by
  unfold F_X3_addMark
  simp only [Option.bind_some, Option.map_some, Option.join, cI_r, cL_r, cV_r, xI_r, xL_r, xV_r, xI_t, xL_t, xV_t, lt_r, rtZ_0, rtZ_1, rtZ_zb, o0, gf0_0, pf0_0, gf0_1, gf0_2, gf0_3, pf0_3, gf0_4, gf0_5, gf0_6, gf0_7, gf0_8, gf0_9, gf0_10, gf0_11, pf0_11, gf0_12, gf0_13, gf0_14, gf0_15, gf0_16, ga10, pa10, ga11, pa11, ga12, pa12, ga13, pa13, ga14, pa14, hn, n40, if_pos (nI_lt h3 (by decide)), ix_n h3 (show 40 < 2 ^ 31 by decide), up2_lit, Nat.reduceEqDiff, Nat.one_ne_zero, Nat.zero_ne_one, false_and, and_false, true_and, and_true, if_false, if_true, reduceIte, nI_1, vn01 b3]
theorem f_addMarkF {x1 x2 x3 x4 x5 : Int32} (hn : I 0 11 = nI 40) : F_X3_addMark E (rr w 0) x1 x2 x3 x4 x5 (Hw E w I L Q) = rtI (-1) (Hw E w I L Q) := by
  unfold F_X3_addMark
  simp only [Option.bind_some, Option.map_some, Option.join, cI_r, cL_r, cV_r, xI_r, xL_r, xV_r, xI_t, xL_t, xV_t, lt_r, rtZ_0, rtZ_1, rtZ_zb, o0, gf0_0, pf0_0, gf0_1, gf0_2, gf0_3, pf0_3, gf0_4, gf0_5, gf0_6, gf0_7, gf0_8, gf0_9, gf0_10, gf0_11, pf0_11, gf0_12, gf0_13, gf0_14, gf0_15, gf0_16, hn, n40, if_neg (nI_nlt (Nat.le_refl 40) (by decide))]
theorem op_went (q : Inv w I L Q) (x1 x2 x3 x4 x5 : Int32) : OpI E w (fun h => F_L_went E (rr w 136) x1 x2 x3 x4 x5 (rr w 164) h) (fun h => F_X12_went E (rr w 163) x1 x2 x3 x4 x5 h) I L Q := by
  have q0 := q
  obtain ⟨c, q1, q2, q3, q4, q5, -⟩ := q
  have k0 := q1.1 0 (by decide)
  have k6 := q1.1 6 (by decide)
  simp only [mx] at k0 k6
  have e0 : I 0 0 = nI (c 0) := q2.1.1.trans k0.1
  have e6 : I 22 5 = nI (c 6) := q4.2.1.trans k6.1
  have e5 : I 22 0 = I 137 5 := q4.1.1
  have e4 : I 15 2 = I 137 4 := q3.2.1.1
  have e1 : I 0 3 = I 137 1 := q2.2.1.1
  by_cases pt : bl x2 (c 5) ∧ bl x1 (c 4) ∧ bl x3 (4 * c 1)
  · by_cases p5 : bl x5 (c 0)
    · by_cases py : bd x4 0 200
      · by_cases hf : c 6 = 30
        · refine ⟨0, -1, I, up2 I 163 3 0, up2 L 164 0 (-1), up2 L 164 0 (-1), Q, Q, ?_, ?_, Inv_t (Inv_o q0), up2_s _ _ _ _, fun _ => up2_s _ _ _ _⟩
          · show F_L_went E (rr w 136) x1 x2 x3 x4 x5 (rr w 164) (Hw E w I L Q) = _
            unfold F_L_went F_X11_went
            simp only [Option.bind_some, Option.map_some, Option.join, cI_r, cL_r, cV_r, xI_r, xL_r, xV_r, xI_t, xL_t, xV_t, lt_r, rtZ_0, rtZ_1, rtZ_zb, o136, o22, f_needPlace e0 (show c 0 < 2 ^ 31 by omega), nd_t p5, f_needTold2 q1.1 e5 e4 e1 pt, nd_t py, gf136_2, f_addRecordF (e6.trans (by rw [hf])), pa164, ix01]
            rfl
          · show F_X12_went E (rr w 163) x1 x2 x3 x4 x5 _ = _
            unfold F_X12_went
            have hC' : Cts (up2 I 163 3 0 137) c := q1.1
            have k0' : (up2 I 163 3 0) 137 0 = nI (c 0) := k0.1
            have k6' : (up2 I 163 3 0) 137 6 = 30 := k6.1.trans (by rw [hf]; rfl)
            simp only [Option.bind_some, Option.map_some, Option.join, cI_r, cL_r, cV_r, xI_r, xL_r, xV_r, xI_t, xL_t, xV_t, lt_r, rtZ_0, rtZ_1, rtZ_zb, pf163_3, o163, f_areThere hC', zi_t pt, f_isPlace k0' (show c 0 < 2 ^ 30 by omega), zn_t p5, f_isYear, zn_t py, gf163_0, ga137, show ix 6 2988 = some 6 from rfl, k6', not_true_eq_false, if_false]
        · have h3 : c 6 < 30 := by omega
          refine ⟨0, nI (c 6 + 1), up2 (up2 (up2 (up2 (up2 (up2 I 27 (c 6) x1) 28 (c 6) x2) 29 (c 6) x3) 30 (c 6) x4) 31 (c 6) x5) 22 5 (nI (c 6 + 1)), _, up2 L 164 0 (nI (c 6 + 1)).toInt64, up2 L 164 0 (nI (c 6 + 1)).toInt64, Q, Q, ?_, ?_, inv_went (v := (nI (c 6 + 1)).toInt64) q0 q1 q2 q3 q4 q5 h3 pt.2.1 pt.1 pt.2.2 py p5, ?_, fun _ => up2_s _ _ _ _⟩
          · show F_L_went E (rr w 136) x1 x2 x3 x4 x5 (rr w 164) (Hw E w I L Q) = _
            unfold F_L_went F_X11_went
            simp only [Option.bind_some, Option.map_some, Option.join, cI_r, cL_r, cV_r, xI_r, xL_r, xV_r, xI_t, xL_t, xV_t, lt_r, rtZ_0, rtZ_1, rtZ_zb, o136, o22, f_needPlace e0 (show c 0 < 2 ^ 31 by omega), nd_t p5, f_needTold2 q1.1 e5 e4 e1 pt, nd_t py, gf136_2, f_addRecord e6 h3, pa164, ix01]
          · show F_X12_went E (rr w 163) x1 x2 x3 x4 x5 _ = _
            generalize ea : up2 (up2 (up2 (up2 (up2 (up2 I 27 (c 6) x1) 28 (c 6) x2) 29 (c 6) x3) 30 (c 6) x4) 31 (c 6) x5) 22 5 (nI (c 6 + 1)) = J
            have hJ : J 137 = I 137 := by subst ea; rfl
            have hC' : Cts (up2 J 163 3 0 137) c := by rw [up2_row J 0 (by decide), hJ]; exact q1.1
            have k0' : (up2 J 163 3 0) 137 0 = nI (c 0) := by rw [up2_row J 0 (by decide), hJ]; exact k0.1
            have k6' : (up2 J 163 3 0) 137 6 = nI (c 6) := by rw [up2_row J 0 (by decide), hJ]; exact k6.1
            have em : F_X12_more E (rr w 163) 6 (Hw E w (up2 J 163 3 0) (up2 L 164 0 (nI (c 6 + 1)).toInt64) Q) = _ := f_more (s := 6) (by decide) k6'
            have i0 : ix ((2838 : Int32) + (5 : Int32) * nI (c 6)) 2988 = some (2838 + 5 * c 6) := by rw [n2838, n5, pk_mul, nI_add]; exact ix_n (by omega) (by decide)
            have i1 : ix ((2838 : Int32) + (5 : Int32) * nI (c 6) + 1) 2988 = some (2839 + 5 * c 6) := by rw [n2838, n5, pk_mul, nI_add, nI_1, show 2838 + 5 * c 6 + 1 = 2839 + 5 * c 6 by omega]; exact ix_n (by omega) (by decide)
            have i2 : ix ((2838 : Int32) + (5 : Int32) * nI (c 6) + 2) 2988 = some (2840 + 5 * c 6) := by rw [n2838, n5, n2, pk_mul, nI_add, nI_add, show 2838 + 5 * c 6 + 2 = 2840 + 5 * c 6 by omega]; exact ix_n (by omega) (by decide)
            have i3 : ix ((2838 : Int32) + (5 : Int32) * nI (c 6) + 3) 2988 = some (2841 + 5 * c 6) := by rw [n2838, n5, n3, pk_mul, nI_add, nI_add, show 2838 + 5 * c 6 + 3 = 2841 + 5 * c 6 by omega]; exact ix_n (by omega) (by decide)
            have i4 : ix ((2838 : Int32) + (5 : Int32) * nI (c 6) + 4) 2988 = some (2842 + 5 * c 6) := by rw [n2838, n5, n4, pk_mul, nI_add, nI_add, show 2838 + 5 * c 6 + 4 = 2842 + 5 * c 6 by omega]; exact ix_n (by omega) (by decide)
            have nf : ¬ nI (c 6) = 30 := fun e => hf ((nI_eq (by omega) (by decide)).mp e)
            unfold F_X12_went
            simp only [Option.bind_some, Option.map_some, Option.join, cI_r, cL_r, cV_r, xI_r, xL_r, xV_r, xI_t, xL_t, xV_t, lt_r, rtZ_0, rtZ_1, rtZ_zb, pf163_3, o163, f_areThere hC', zi_t pt, f_isPlace k0' (show c 0 < 2 ^ 30 by omega), zn_t p5, f_isYear, zn_t py, gf163_0, ga137, show ix 6 2988 = some 6 from rfl, k6', if_pos nf, em, pa137, i0, i1, i2, i3, i4]
            simp only [up2_lit, show ¬ 6 = 2842 + 5 * c 6 by omega, show ¬ 6 = 2841 + 5 * c 6 by omega, show ¬ 6 = 2840 + 5 * c 6 by omega, show ¬ 6 = 2839 + 5 * c 6 by omega, show ¬ 6 = 2838 + 5 * c 6 by omega, and_false, and_self, if_false, if_true]
          · simp only [up2_lit, Nat.reduceEqDiff, false_and, true_and, if_false, if_true]
      · refine ⟨2, 0, I, up2 (up2 I 163 3 0) 163 3 2, L, L, Q, Q, ?_, ?_, Inv_t (Inv_t q0), up2_s _ _ _ _, fun e => absurd e (by decide)⟩
        · show F_L_went E (rr w 136) x1 x2 x3 x4 x5 (rr w 164) (Hw E w I L Q) = _
          unfold F_L_went F_X11_went
          simp only [Option.bind_some, Option.map_some, Option.join, cI_r, cL_r, cV_r, xI_r, xL_r, xV_r, xI_t, xL_t, xV_t, lt_r, rtZ_0, rtZ_1, rtZ_zb, o136, f_needPlace e0 (show c 0 < 2 ^ 31 by omega), nd_t p5, f_needTold2 q1.1 e5 e4 e1 pt, nd_f py, if_true]
        · show F_X12_went E (rr w 163) x1 x2 x3 x4 x5 _ = _
          unfold F_X12_went
          have hC' : Cts (up2 I 163 3 0 137) c := q1.1
          have k0' : (up2 I 163 3 0) 137 0 = nI (c 0) := k0.1
          simp only [Option.bind_some, Option.map_some, Option.join, cI_r, cL_r, cV_r, xI_r, xL_r, xV_r, xI_t, xL_t, xV_t, lt_r, rtZ_0, rtZ_1, rtZ_zb, pf163_3, o163, f_areThere hC', zi_t pt, f_isPlace k0' (show c 0 < 2 ^ 30 by omega), zn_t p5, f_isYear, zn_f py, f_fails]
    · refine ⟨1, 0, I, up2 (up2 I 163 3 0) 163 3 1, L, L, Q, Q, ?_, ?_, Inv_t (Inv_t q0), up2_s _ _ _ _, fun e => absurd e (by decide)⟩
      · show F_L_went E (rr w 136) x1 x2 x3 x4 x5 (rr w 164) (Hw E w I L Q) = _
        unfold F_L_went F_X11_went
        simp only [Option.bind_some, Option.map_some, Option.join, cI_r, cL_r, cV_r, xI_r, xL_r, xV_r, xI_t, xL_t, xV_t, lt_r, rtZ_0, rtZ_1, rtZ_zb, o136, f_needPlace e0 (show c 0 < 2 ^ 31 by omega), nd_f p5, String.reduceEq, if_false, if_true]
      · show F_X12_went E (rr w 163) x1 x2 x3 x4 x5 _ = _
        unfold F_X12_went
        have hC' : Cts (up2 I 163 3 0 137) c := q1.1
        have k0' : (up2 I 163 3 0) 137 0 = nI (c 0) := k0.1
        simp only [Option.bind_some, Option.map_some, Option.join, cI_r, cL_r, cV_r, xI_r, xL_r, xV_r, xI_t, xL_t, xV_t, lt_r, rtZ_0, rtZ_1, rtZ_zb, pf163_3, o163, f_areThere hC', zi_t pt, f_isPlace k0' (show c 0 < 2 ^ 30 by omega), zn_f p5, f_fails]
  · refine ⟨1, 0, I, up2 (up2 I 163 3 0) 163 3 1, L, L, Q, Q, ?_, ?_, Inv_t (Inv_t q0), up2_s _ _ _ _, fun e => absurd e (by decide)⟩
    · show F_L_went E (rr w 136) x1 x2 x3 x4 x5 (rr w 164) (Hw E w I L Q) = _
      unfold F_L_went F_X11_went
      by_cases p5 : bl x5 (c 0)
      · simp only [Option.bind_some, Option.map_some, Option.join, cI_r, cL_r, cV_r, xI_r, xL_r, xV_r, xI_t, xL_t, xV_t, lt_r, rtZ_0, rtZ_1, rtZ_zb, o136, f_needPlace e0 (show c 0 < 2 ^ 31 by omega), nd_t p5, f_needTold1 q1.1 e5 e4 e1 pt, String.reduceEq, if_false, if_true]
      · simp only [Option.bind_some, Option.map_some, Option.join, cI_r, cL_r, cV_r, xI_r, xL_r, xV_r, xI_t, xL_t, xV_t, lt_r, rtZ_0, rtZ_1, rtZ_zb, o136, f_needPlace e0 (show c 0 < 2 ^ 31 by omega), nd_f p5, String.reduceEq, if_false, if_true]
    · show F_X12_went E (rr w 163) x1 x2 x3 x4 x5 _ = _
      unfold F_X12_went
      have hC' : Cts (up2 I 163 3 0 137) c := q1.1
      simp only [Option.bind_some, Option.map_some, Option.join, cI_r, cL_r, cV_r, xI_r, xL_r, xV_r, xI_t, xL_t, xV_t, lt_r, rtZ_0, rtZ_1, rtZ_zb, pf163_3, o163, f_areThere hC', zi_f pt, f_fails]
end
