section
variable {E : Ev} {w : Wo} {I : Nat → Nat → Int32} {L : Nat → Nat → Int64} {Q : Nat → Nat → Option Nat} {c : Nat → Nat} {x y : Int32}
theorem op_worth (hG : 100000 ≤ E.2.2.1) (q : Inv w I L Q) (x1 x2 x3 x4 : Int32) : OpI E w (fun h => F_L_worth E (rr w 136) x1 x2 x3 x4 (rr w 164) h) (fun h => F_X12_worth E (rr w 163) x1 x2 x3 x4 h) I L Q := by
  have q0 := q
  obtain ⟨c, q1, q2, q3, q4, q5, -⟩ := q
  have k2 := q1.1 2 (by decide)
  have k4 := q1.1 4 (by decide)
  simp only [mx] at k2 k4
  have e2 : I 0 11 = nI (c 2) := q2.2.2.1.1.trans k2.1
  have e4 : I 15 2 = nI (c 4) := q3.2.1.1.trans k4.1
  have hT : (up2 I 163 3 0) 137 = I 137 := up2_row I 0 (by decide)
  have q1' : WfT (up2 I 163 3 0 137) c := q1
  have k4' : (up2 I 163 3 0) 137 4 = nI (c 4) := k4.1
  have fi : ∀ LL : Nat → Nat → Int64, F_X12_is E (rr w 163) 2 x1 (Hw E w (up2 I 163 3 0) LL Q) = rtI (zb (bl x1 (c 2))) (Hw E w (up2 I 163 3 0) LL Q) := fun LL => f_is (s := 2) (by decide) (show (up2 I 163 3 0) 137 2 = nI (c 2) from k2.1) (by omega)
  by_cases p1 : bl x1 (c 2)
  · have p1' := p1
    obtain ⟨m, rfl, hm⟩ := p1'
    have c0 : ¬ nI m < 0 := nI_pos (by omega)
    have c1 : nI m < nI (c 2) := nI_lt hm (by omega)
    obtain ⟨-, r1, -, r3, r4⟩ := q2.2.2.1.2 m hm
    obtain ⟨d, ed, hd⟩ := (q1.2.2.2.1 m hm).2.1
    by_cases pk : bl x2 (2 ^ c 4) ∧ bd x3 0 200 ∧ bd x4 0 1
    · obtain ⟨p2, p3, p4⟩ := pk
      have z4 := (bd_iff (by decide)).mp p4
      have z4' : x4 ≤ 1 := Int32.not_lt.mp z4.2
      have z2 : ¬ x2 < 0 := ((bl_iff (by have := (p2_8 (c 4) k4.2).2.1; omega)).mp p2).1
      have z2' : ¬ (1 : Int32) <<< (nI (c 4) &&& 31) ≤ x2 := fun e => (wkr_ref k4.2 z2).mp e p2
      have fin : ∀ v : Int32, F_X11_worth E (rr w 136) (nI m) x2 x3 x4 (Hw E w I L Q) = rtI v (Hw E w I L Q) → F_X12_worth E (rr w 163) (nI m) x2 x3 x4 (Hw E w I (up2 L 164 0 v.toInt64) Q) = rtI v (Hw E w (up2 I 163 3 0) (up2 L 164 0 v.toInt64) Q) → OpI E w (fun h => F_L_worth E (rr w 136) (nI m) x2 x3 x4 (rr w 164) h) (fun h => F_X12_worth E (rr w 163) (nI m) x2 x3 x4 h) I L Q := by
        intro v hc hmm
        refine ⟨0, v, I, up2 I 163 3 0, up2 L 164 0 v.toInt64, up2 L 164 0 v.toInt64, Q, Q, ?_, hmm, Inv_t (Inv_o q0), up2_s _ _ _ _, fun _ => up2_s _ _ _ _⟩
        show F_L_worth E (rr w 136) (nI m) x2 x3 x4 (rr w 164) (Hw E w I L Q) = _
        unfold F_L_worth
        simp only [Option.bind_some, Option.map_some, Option.join, cI_r, cL_r, cV_r, xI_r, xL_r, xV_r, xI_t, xL_t, xV_t, lt_r, rtZ_0, rtZ_1, rtZ_zb, o136, hc, pa164, ix01]
      by_cases py : I 137 (453 + 5 * m) ≤ x3 ∧ x3 ≤ I 137 (454 + 5 * m)
      · have pm : isMk (I 137) m 4095 x3 := (isMk_all q1 hm).mpr py
        have d0 : ¬ x3 < I 137 (453 + 5 * m) := Int32.not_lt.mpr py.1
        have d1 : x3 ≤ I 137 (454 + 5 * m) := py.2
        by_cases p0 : x4 = 0
        · subst p0
          refine fin (nI (cntP (knw (I 137) x2 d) (c 4))) ?_ ?_
          · unfold F_X11_worth
            simp only [Option.bind_some, Option.map_some, Option.join, cI_r, cL_r, cV_r, xI_r, xL_r, xV_r, xI_t, xL_t, xV_t, lt_r, rtZ_0, rtZ_1, rtZ_zb, o136, o15, if_neg c0, gf136_0, gf136_1, gf0_11, e2, if_pos c1, f_needWalkers e4 k4.2, nd_t p2, f_needYear, nd_t p3, if_neg z4.1, if_pos z4', gf0_15, gf0_16, gf0_13, ga13, ga14, ga11, ix_n (show m < 40 by omega) (show 40 < 2 ^ 31 by decide), r1, r3, r4, ed, if_neg d0, if_pos d1, not_true_eq_false, if_false, f_howMany hG q1 q3 hd]
          · unfold F_X12_worth
            simp only [Option.bind_some, Option.map_some, Option.join, cI_r, cL_r, cV_r, xI_r, xL_r, xV_r, xI_t, xL_t, xV_t, lt_r, rtZ_0, rtZ_1, rtZ_zb, pf163_3, o163, fi, zn_t p1, if_neg z2, gf163_0, ga137, show ix 4 2988 = some 4 from rfl, k4', k4.1, if_neg z2', f_isYear, zi_t p3, f_wi 1 (by decide) (show (nI 1).toInt64 = 1 by rfl), zn_t p4, f_isMark q1' hm, hT, zn_t pm, if_pos (show ¬ (0 : Int32) = 1 by decide), m_worth0 hG q1' hm ed hd py]
        · have p01 : x4 = 1 := by
            obtain ⟨j, rfl, -, hj⟩ := p4
            have : j = 0 ∨ j = 1 := by omega
            rcases this with rfl | rfl
            · exact absurd rfl p0
            · rfl
          subst p01
          have hself : mks (I 137) d x3 m := ⟨ed, py⟩
          have hc := cnt_but (n := c 2) hself
          rw [if_pos hm] at hc
          refine fin (nI (cntP (fun i => i ≠ m ∧ mks (I 137) d x3 i) (c 2))) ?_ ?_
          · unfold F_X11_worth
            simp only [Option.bind_some, Option.map_some, Option.join, cI_r, cL_r, cV_r, xI_r, xL_r, xV_r, xI_t, xL_t, xV_t, lt_r, rtZ_0, rtZ_1, rtZ_zb, o136, o0, if_neg c0, gf136_0, gf136_1, gf0_11, e2, if_pos c1, f_needWalkers e4 k4.2, nd_t p2, f_needYear, nd_t p3, if_neg z4.1, if_pos z4', gf0_15, gf0_16, gf0_13, ga13, ga14, ga11, ix_n (show m < 40 by omega) (show 40 < 2 ^ 31 by decide), r1, r3, r4, ed, if_neg d0, if_pos d1, if_pos p0, f_marksOf hG q1 q2, hc, nI_pred]
          · unfold F_X12_worth
            simp only [Option.bind_some, Option.map_some, Option.join, cI_r, cL_r, cV_r, xI_r, xL_r, xV_r, xI_t, xL_t, xV_t, lt_r, rtZ_0, rtZ_1, rtZ_zb, pf163_3, o163, fi, zn_t p1, if_neg z2, gf163_0, ga137, show ix 4 2988 = some 4 from rfl, k4', k4.1, if_neg z2', f_isYear, zi_t p3, f_wi 1 (by decide) (show (nI 1).toInt64 = 1 by rfl), zn_t p4, f_isMark q1' hm, hT, zn_t pm, not_true_eq_false, if_false, m_worth1 hG q1' hm ed]
      · have pm : ¬ isMk (I 137) m 4095 x3 := fun e => py ((isMk_all q1 hm).mp e)
        refine fin (-1) ?_ ?_
        · unfold F_X11_worth
          simp only [Option.bind_some, Option.map_some, Option.join, cI_r, cL_r, cV_r, xI_r, xL_r, xV_r, xI_t, xL_t, xV_t, lt_r, rtZ_0, rtZ_1, rtZ_zb, o136, if_neg c0, gf136_0, gf0_11, e2, if_pos c1, f_needWalkers e4 k4.2, nd_t p2, f_needYear, nd_t p3, if_neg z4.1, if_pos z4', gf0_15, gf0_16, gf0_13, ga13, ga14, ga11, ix_n (show m < 40 by omega) (show 40 < 2 ^ 31 by decide), r1, r3, r4]
          by_cases d0 : x3 < I 137 (453 + 5 * m)
          · rw [if_pos d0]
          · rw [if_neg d0, if_neg (fun e => py ⟨Int32.not_lt.mp d0, e⟩)]
        · unfold F_X12_worth
          simp only [Option.bind_some, Option.map_some, Option.join, cI_r, cL_r, cV_r, xI_r, xL_r, xV_r, xI_t, xL_t, xV_t, lt_r, rtZ_0, rtZ_1, rtZ_zb, pf163_3, o163, fi, zn_t p1, if_neg z2, gf163_0, ga137, show ix 4 2988 = some 4 from rfl, k4', k4.1, if_neg z2', f_isYear, zi_t p3, f_wi 1 (by decide) (show (nI 1).toInt64 = 1 by rfl), zn_t p4, f_isMark q1' hm, hT, zn_f pm]
    · refine ⟨2, 0, I, up2 (up2 I 163 3 0) 163 3 2, L, L, Q, Q, ?_, ?_, Inv_t (Inv_t q0), up2_s _ _ _ _, fun e => absurd e (by decide)⟩
      · show F_L_worth E (rr w 136) (nI m) x2 x3 x4 (rr w 164) (Hw E w I L Q) = _
        unfold F_L_worth F_X11_worth
        simp only [Option.bind_some, Option.map_some, Option.join, cI_r, cL_r, cV_r, xI_r, xL_r, xV_r, xI_t, xL_t, xV_t, lt_r, rtZ_0, rtZ_1, rtZ_zb, o136, if_neg c0, gf136_0, gf0_11, e2, if_pos c1, f_needWalkers e4 k4.2]
        by_cases p2 : bl x2 (2 ^ c 4)
        · simp only [Option.bind_some, Option.map_some, Option.join, cI_r, cL_r, cV_r, xI_r, xL_r, xV_r, xI_t, xL_t, xV_t, lt_r, rtZ_0, rtZ_1, rtZ_zb, nd_t p2, o136, f_needYear]
          by_cases p3 : bd x3 0 200
          · simp only [Option.bind_some, Option.map_some, Option.join, cI_r, cL_r, cV_r, xI_r, xL_r, xV_r, xI_t, xL_t, xV_t, lt_r, rtZ_0, rtZ_1, rtZ_zb, nd_t p3]
            by_cases d0 : x4 < 0
            · simp only [Option.bind_some, Option.map_some, Option.join, cI_r, cL_r, cV_r, xI_r, xL_r, xV_r, xI_t, xL_t, xV_t, lt_r, rtZ_0, rtZ_1, rtZ_zb, if_pos d0, if_true]
            · have d1 : ¬ x4 ≤ 1 := fun e => pk ⟨p2, p3, (bd_iff (by decide)).mpr ⟨d0, Int32.not_lt.mpr e⟩⟩
              simp only [Option.bind_some, Option.map_some, Option.join, cI_r, cL_r, cV_r, xI_r, xL_r, xV_r, xI_t, xL_t, xV_t, lt_r, rtZ_0, rtZ_1, rtZ_zb, if_neg d0, if_neg d1, if_true]
          · simp only [Option.bind_some, Option.map_some, Option.join, cI_r, cL_r, cV_r, xI_r, xL_r, xV_r, xI_t, xL_t, xV_t, lt_r, rtZ_0, rtZ_1, rtZ_zb, nd_f p3, if_true]
        · simp only [Option.bind_some, Option.map_some, Option.join, cI_r, cL_r, cV_r, xI_r, xL_r, xV_r, xI_t, xL_t, xV_t, lt_r, rtZ_0, rtZ_1, rtZ_zb, nd_f p2, if_true]
      · show F_X12_worth E (rr w 163) (nI m) x2 x3 x4 _ = _
        unfold F_X12_worth
        simp only [Option.bind_some, Option.map_some, Option.join, cI_r, cL_r, cV_r, xI_r, xL_r, xV_r, xI_t, xL_t, xV_t, lt_r, rtZ_0, rtZ_1, rtZ_zb, pf163_3, o163, fi, zn_t p1, f_fails]
        by_cases z2 : x2 < 0
        · rw [if_pos z2]
        · rw [if_neg z2]
          simp only [Option.bind_some, Option.map_some, Option.join, cI_r, cL_r, cV_r, xI_r, xL_r, xV_r, xI_t, xL_t, xV_t, lt_r, rtZ_0, rtZ_1, rtZ_zb, gf163_0, ga137, show ix 4 2988 = some 4 from rfl, k4']
          by_cases p2 : bl x2 (2 ^ c 4)
          · rw [if_neg (fun e => (wkr_ref k4.2 z2).mp e p2)]
            simp only [Option.bind_some, Option.map_some, Option.join, cI_r, cL_r, cV_r, xI_r, xL_r, xV_r, xI_t, xL_t, xV_t, lt_r, rtZ_0, rtZ_1, rtZ_zb, f_isYear]
            by_cases p3 : bd x3 0 200
            · rw [zi_t p3]
              have p4 : ¬ bd x4 0 1 := fun e => pk ⟨p2, p3, e⟩
              simp only [Option.bind_some, Option.map_some, Option.join, cI_r, cL_r, cV_r, xI_r, xL_r, xV_r, xI_t, xL_t, xV_t, lt_r, rtZ_0, rtZ_1, rtZ_zb, f_wi 1 (by decide) (show (nI 1).toInt64 = 1 by rfl), zn_f p4, o163, f_fails]
            · rw [zi_f p3]; simp only [Option.bind_some, Option.map_some, Option.join, cI_r, cL_r, cV_r, xI_r, xL_r, xV_r, xI_t, xL_t, xV_t, lt_r, rtZ_0, rtZ_1, rtZ_zb, o163, f_fails]
          · rw [if_pos ((wkr_ref k4.2 z2).mpr p2)]
  · refine ⟨1, 0, I, up2 (up2 I 163 3 0) 163 3 1, L, L, Q, Q, ?_, ?_, Inv_t (Inv_t q0), up2_s _ _ _ _, fun e => absurd e (by decide)⟩
    · show F_L_worth E (rr w 136) x1 x2 x3 x4 (rr w 164) (Hw E w I L Q) = _
      unfold F_L_worth F_X11_worth
      by_cases c0 : x1 < 0
      · simp only [Option.bind_some, Option.map_some, Option.join, cI_r, cL_r, cV_r, xI_r, xL_r, xV_r, xI_t, xL_t, xV_t, lt_r, rtZ_0, rtZ_1, rtZ_zb, o136, if_pos c0, String.reduceEq, if_false, if_true]
      · have c1 : ¬ x1 < nI (c 2) := fun e => p1 ((bl_iff (by omega)).mpr ⟨c0, e⟩)
        simp only [Option.bind_some, Option.map_some, Option.join, cI_r, cL_r, cV_r, xI_r, xL_r, xV_r, xI_t, xL_t, xV_t, lt_r, rtZ_0, rtZ_1, rtZ_zb, o136, if_neg c0, gf136_0, gf0_11, e2, if_neg c1, String.reduceEq, if_false, if_true]
    · show F_X12_worth E (rr w 163) x1 x2 x3 x4 _ = _
      unfold F_X12_worth
      simp only [Option.bind_some, Option.map_some, Option.join, cI_r, cL_r, cV_r, xI_r, xL_r, xV_r, xI_t, xL_t, xV_t, lt_r, rtZ_0, rtZ_1, rtZ_zb, pf163_3, o163, fi, zn_f p1, f_fails]
end
