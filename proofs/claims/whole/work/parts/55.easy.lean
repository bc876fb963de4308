/-! count, fault, sayings, told, teller, state -/
/-- one call of the law whose answers are held against each other at once -/
def OpD (E : Ev) (w : Wo) (fc fm : Hp → Rs) (I : Nat → Nat → Int32) (L : Nat → Nat → Int64) (Q : Nat → Nat → Option Nat) : Prop := ∃ (b : Int32) (I1 I2 : Nat → Nat → Int32) (L1 L2 : Nat → Nat → Int64) (Q1 Q2 : Nat → Nat → Option Nat), fc (Hw E w I L Q) = rtI b (Hw E w I1 L1 Q1) ∧ fm (Hw E w I1 L1 Q1) = rtI b (Hw E w I2 L2 Q2) ∧ Inv w I2 L2 Q2
section
variable {E : Ev} {w : Wo} {I : Nat → Nat → Int32} {L : Nat → Nat → Int64} {Q : Nat → Nat → Option Nat} {c : Nat → Nat} {x y : Int32}
theorem op_fault (q : Inv w I L Q) (x : Int32) : OpD E w (fun h => F_X11_fault E (rr w 136) x h) (fun h => F_X12_fault E (rr w 163) x h) I L Q := by
  have q0 := q
  obtain ⟨c, q1, q2, q3, q4, q5, q6, q7, q8, q9, q10, q11, -⟩ := q
  have e1 := q11.2.1
  have e2 := q11.2.2
  by_cases c0 : x = 0
  · subst c0
    refine ⟨I 121 2, I, up2 I 163 3 0, L, L, Q, Q, ?_, ?_, Inv_t q0⟩
    · show F_X11_fault E (rr w 136) 0 (Hw E w I L Q) = _
      unfold F_X11_fault; simp only [Option.bind_some, Option.map_some, Option.join, cI_r, cL_r, cV_r, xI_r, xL_r, xV_r, xI_t, xL_t, xV_t, lt_r, rtZ_0, rtZ_1, rtZ_zb, if_true, gf136_7, gf121_2]
    · show F_X12_fault E (rr w 163) 0 (Hw E w I L Q) = _
      unfold F_X12_fault; simp only [Option.bind_some, Option.map_some, Option.join, cI_r, cL_r, cV_r, xI_r, xL_r, xV_r, xI_t, xL_t, xV_t, lt_r, rtZ_0, rtZ_1, rtZ_zb, pf163_3, not_true_eq_false, if_false, gf163_18, up2_lit, Nat.reduceEqDiff, Nat.one_ne_zero, Nat.zero_ne_one, false_and, and_false, true_and, and_true, if_false, if_true, reduceIte, e1]
  · by_cases c1 : x = 1
    · subst c1
      refine ⟨I 121 3, I, up2 I 163 3 0, L, L, Q, Q, ?_, ?_, Inv_t q0⟩
      · show F_X11_fault E (rr w 136) 1 (Hw E w I L Q) = _
        unfold F_X11_fault; simp only [Option.bind_some, Option.map_some, Option.join, cI_r, cL_r, cV_r, xI_r, xL_r, xV_r, xI_t, xL_t, xV_t, lt_r, rtZ_0, rtZ_1, rtZ_zb, if_neg c0, if_true, gf136_7, gf121_3]
      · show F_X12_fault E (rr w 163) 1 (Hw E w I L Q) = _
        unfold F_X12_fault; simp only [Option.bind_some, Option.map_some, Option.join, cI_r, cL_r, cV_r, xI_r, xL_r, xV_r, xI_t, xL_t, xV_t, lt_r, rtZ_0, rtZ_1, rtZ_zb, pf163_3, if_pos c0, not_true_eq_false, if_false, gf163_19, up2_lit, Nat.reduceEqDiff, Nat.one_ne_zero, Nat.zero_ne_one, false_and, and_false, true_and, and_true, if_false, if_true, reduceIte, e2]
    · refine ⟨-1, I, up2 I 163 3 0, L, L, Q, Q, ?_, ?_, Inv_t q0⟩
      · show F_X11_fault E (rr w 136) x (Hw E w I L Q) = _
        unfold F_X11_fault; simp only [Option.bind_some, Option.map_some, Option.join, cI_r, cL_r, cV_r, xI_r, xL_r, xV_r, xI_t, xL_t, xV_t, lt_r, rtZ_0, rtZ_1, rtZ_zb, if_neg c0, if_neg c1]
      · show F_X12_fault E (rr w 163) x (Hw E w I L Q) = _
        unfold F_X12_fault; simp only [Option.bind_some, Option.map_some, Option.join, cI_r, cL_r, cV_r, xI_r, xL_r, xV_r, xI_t, xL_t, xV_t, lt_r, rtZ_0, rtZ_1, rtZ_zb, pf163_3, if_pos c0, if_pos c1]
theorem op_count (q : Inv w I L Q) (x : Int32) : OpD E w (fun h => F_X11_count E (rr w 136) x h) (fun h => F_X12_count E (rr w 163) x h) I L Q := by
  have q0 := q
  obtain ⟨c, q1, q2, q3, q4, q5, q6, q7, q8, q9, q10, q11, -⟩ := q
  by_cases p : bd x 0 6
  · have key : ∀ j : Nat, j < 7 → ∀ v : Int32, v = I 137 j → F_X11_count E (rr w 136) (nI j) (Hw E w I L Q) = rtI v (Hw E w I L Q) → OpD E w (fun h => F_X11_count E (rr w 136) (nI j) h) (fun h => F_X12_count E (rr w 163) (nI j) h) I L Q := by
      intro j hj v hv hc
      refine ⟨v, I, up2 I 163 3 0, L, L, Q, Q, hc, ?_, Inv_t q0⟩
      show F_X12_count E (rr w 163) (nI j) (Hw E w I L Q) = _
      have pj : bd (nI j) 0 6 := ⟨j, rfl, by omega, by omega⟩
      unfold F_X12_count
      simp only [Option.bind_some, Option.map_some, Option.join, cI_r, cL_r, cV_r, xI_r, xL_r, xV_r, xI_t, xL_t, xV_t, lt_r, rtZ_0, rtZ_1, rtZ_zb, pf163_3, f_wi 6 (by decide) (show (nI 6).toInt64 = 6 by rfl), zi_t pj, gf163_0, ga137, ix_n (show j < 2988 by omega) (by decide), hv, up2_lit, Nat.reduceEqDiff, false_and, if_false]
    obtain ⟨j, rfl, -, hj⟩ := p
    have hj7 : j = 0 ∨ j = 1 ∨ j = 2 ∨ j = 3 ∨ j = 4 ∨ j = 5 ∨ j = 6 := by omega
    rcases hj7 with rfl | rfl | rfl | rfl | rfl | rfl | rfl
    · refine key 0 (by decide) (I 0 0) q2.1.1 ?_
      unfold F_X11_count; simp only [show nI 0 = (0 : Int32) from rfl, Option.bind_some, Option.map_some, Option.join, cI_r, cL_r, cV_r, xI_r, xL_r, xV_r, xI_t, xL_t, xV_t, lt_r, rtZ_0, rtZ_1, rtZ_zb, if_true, gf136_0, gf0_0]
    · refine key 1 (by decide) (I 0 3) q2.2.1.1 ?_
      unfold F_X11_count; simp only [show nI 1 = (1 : Int32) from rfl, Option.bind_some, Option.map_some, Option.join, cI_r, cL_r, cV_r, xI_r, xL_r, xV_r, xI_t, xL_t, xV_t, lt_r, rtZ_0, rtZ_1, rtZ_zb, show ¬ (1 : Int32) = 0 by decide, if_false, if_true, gf136_0, gf0_3]
    · refine key 2 (by decide) (I 0 11) q2.2.2.1.1 ?_
      unfold F_X11_count; simp only [show nI 2 = (2 : Int32) from rfl, Option.bind_some, Option.map_some, Option.join, cI_r, cL_r, cV_r, xI_r, xL_r, xV_r, xI_t, xL_t, xV_t, lt_r, rtZ_0, rtZ_1, rtZ_zb, show ¬ (2 : Int32) = 0 by decide, show ¬ (2 : Int32) = 1 by decide, if_false, if_true, gf136_0, gf0_11]
    · refine key 3 (by decide) (I 15 0) q3.1.1 ?_
      unfold F_X11_count; simp only [show nI 3 = (3 : Int32) from rfl, Option.bind_some, Option.map_some, Option.join, cI_r, cL_r, cV_r, xI_r, xL_r, xV_r, xI_t, xL_t, xV_t, lt_r, rtZ_0, rtZ_1, rtZ_zb, show ¬ (3 : Int32) = 0 by decide, show ¬ (3 : Int32) = 1 by decide, show ¬ (3 : Int32) = 2 by decide, if_false, if_true, gf136_1, gf15_0]
    · refine key 4 (by decide) (I 15 2) q3.2.1.1 ?_
      unfold F_X11_count; simp only [show nI 4 = (4 : Int32) from rfl, Option.bind_some, Option.map_some, Option.join, cI_r, cL_r, cV_r, xI_r, xL_r, xV_r, xI_t, xL_t, xV_t, lt_r, rtZ_0, rtZ_1, rtZ_zb, show ¬ (4 : Int32) = 0 by decide, show ¬ (4 : Int32) = 1 by decide, show ¬ (4 : Int32) = 2 by decide, show ¬ (4 : Int32) = 3 by decide, if_false, if_true, gf136_1, gf15_2]
    · refine key 5 (by decide) (I 22 0) q4.1.1 ?_
      unfold F_X11_count; simp only [show nI 5 = (5 : Int32) from rfl, Option.bind_some, Option.map_some, Option.join, cI_r, cL_r, cV_r, xI_r, xL_r, xV_r, xI_t, xL_t, xV_t, lt_r, rtZ_0, rtZ_1, rtZ_zb, show ¬ (5 : Int32) = 0 by decide, show ¬ (5 : Int32) = 1 by decide, show ¬ (5 : Int32) = 2 by decide, show ¬ (5 : Int32) = 3 by decide, show ¬ (5 : Int32) = 4 by decide, if_false, if_true, gf136_2, gf22_0]
    · refine key 6 (by decide) (I 22 5) q4.2.1 ?_
      unfold F_X11_count; simp only [show nI 6 = (6 : Int32) from rfl, Option.bind_some, Option.map_some, Option.join, cI_r, cL_r, cV_r, xI_r, xL_r, xV_r, xI_t, xL_t, xV_t, lt_r, rtZ_0, rtZ_1, rtZ_zb, show ¬ (6 : Int32) = 0 by decide, show ¬ (6 : Int32) = 1 by decide, show ¬ (6 : Int32) = 2 by decide, show ¬ (6 : Int32) = 3 by decide, show ¬ (6 : Int32) = 4 by decide, show ¬ (6 : Int32) = 5 by decide, if_false, if_true, gf136_2, gf22_5]
  · have ne : ∀ j : Nat, j ≤ 6 → ¬ x = nI j := fun j hj e => p ⟨j, e, by omega, hj⟩
    by_cases c7 : x = 7
    · subst c7
      obtain ⟨n, e1, e2, -⟩ := q11.1
      refine ⟨I 121 1, I, up2 I 163 3 0, L, L, Q, Q, ?_, ?_, Inv_t q0⟩
      · show F_X11_count E (rr w 136) 7 (Hw E w I L Q) = _
        unfold F_X11_count; simp only [Option.bind_some, Option.map_some, Option.join, cI_r, cL_r, cV_r, xI_r, xL_r, xV_r, xI_t, xL_t, xV_t, lt_r, rtZ_0, rtZ_1, rtZ_zb, show ¬ (7 : Int32) = 0 by decide, show ¬ (7 : Int32) = 1 by decide, show ¬ (7 : Int32) = 2 by decide, show ¬ (7 : Int32) = 3 by decide, show ¬ (7 : Int32) = 4 by decide, show ¬ (7 : Int32) = 5 by decide, show ¬ (7 : Int32) = 6 by decide, if_false, if_true, gf136_7, gf121_1]
      · show F_X12_count E (rr w 163) 7 (Hw E w I L Q) = _
        unfold F_X12_count
        simp only [Option.bind_some, Option.map_some, Option.join, cI_r, cL_r, cV_r, xI_r, xL_r, xV_r, xI_t, xL_t, xV_t, lt_r, rtZ_0, rtZ_1, rtZ_zb, pf163_3, f_wi 6 (by decide) (show (nI 6).toInt64 = 6 by rfl), zi_f p, not_true_eq_false, if_false, gf163_10, up2_lit, Nat.reduceEqDiff, Nat.one_ne_zero, Nat.zero_ne_one, false_and, and_false, true_and, and_true, if_false, if_true, reduceIte, e1, e2]
    · refine ⟨-1, I, up2 I 163 3 0, L, L, Q, Q, ?_, ?_, Inv_t q0⟩
      · show F_X11_count E (rr w 136) x (Hw E w I L Q) = _
        unfold F_X11_count
        rw [if_neg (show ¬ x = 0 from ne 0 (by decide)), if_neg (show ¬ x = 1 from ne 1 (by decide)), if_neg (show ¬ x = 2 from ne 2 (by decide)), if_neg (show ¬ x = 3 from ne 3 (by decide)), if_neg (show ¬ x = 4 from ne 4 (by decide)), if_neg (show ¬ x = 5 from ne 5 (by decide)), if_neg (show ¬ x = 6 from ne 6 (by decide)), if_neg c7]
      · show F_X12_count E (rr w 163) x (Hw E w I L Q) = _
        unfold F_X12_count
        simp only [Option.bind_some, Option.map_some, Option.join, cI_r, cL_r, cV_r, xI_r, xL_r, xV_r, xI_t, xL_t, xV_t, lt_r, rtZ_0, rtZ_1, rtZ_zb, pf163_3, f_wi 6 (by decide) (show (nI 6).toInt64 = 6 by rfl), zi_f p, if_pos c7]
theorem f_sayingsOf {z : Nat} (hz : z < 12) : F_X12_sayingsOf E (rr w 163) (nI z) (Hw E w I L Q) = rtI (I 137 (764 + 173 * z)) (Hw E w I L Q) := by
  unfold F_X12_sayingsOf
  have e : ix ((762 : Int32) + (173 : Int32) * nI z + 2) 2988 = some (764 + 173 * z) := by rw [n762, n173, n2, pk_mul, nI_add, nI_add, show 762 + 173 * z + 2 = 764 + 173 * z by omega]; exact ix_n (by omega) (by decide)
  simp only [Option.bind_some, Option.map_some, Option.join, cI_r, cL_r, cV_r, xI_r, xL_r, xV_r, xI_t, xL_t, xV_t, lt_r, rtZ_0, rtZ_1, rtZ_zb, gf163_0, ga137, e]
theorem f_goalOf {z : Nat} (hz : z < 12) : F_X12_goalOf E (rr w 163) (nI z) (Hw E w I L Q) = rtI (I 137 (762 + 173 * z)) (Hw E w I L Q) := by
  unfold F_X12_goalOf
  have e : ix ((762 : Int32) + (173 : Int32) * nI z) 2988 = some (762 + 173 * z) := by rw [n762, n173, pk_mul, nI_add]; exact ix_n (by omega) (by decide)
  simp only [Option.bind_some, Option.map_some, Option.join, cI_r, cL_r, cV_r, xI_r, xL_r, xV_r, xI_t, xL_t, xV_t, lt_r, rtZ_0, rtZ_1, rtZ_zb, gf163_0, ga137, e]
theorem op_sayings (q : Inv w I L Q) (x : Int32) : OpI E w (fun h => F_L_sayings E (rr w 136) x (rr w 164) h) (fun h => F_X12_sayings E (rr w 163) x h) I L Q := by
  have q0 := q
  obtain ⟨c, q1, q2, q3, q4, -⟩ := q
  have h5 := q1.1 5 (by decide)
  simp only [mx] at h5
  have hn : I 22 0 = nI (c 5) := q4.1.1.trans h5.1
  have hn' : (up2 I 163 3 0) 137 5 = nI (c 5) := h5.1
  by_cases p : bl x (c 5)
  · obtain ⟨j, rfl, hj⟩ := p
    have p : bl (nI j) (c 5) := ⟨j, rfl, hj⟩
    have hs := (q4.1.2 j hj).2.2.1
    have hs : I 25 j = I 137 (764 + 173 * j) := hs
    refine ⟨0, I 137 (764 + 173 * j), I, up2 I 163 3 0, up2 L 164 0 (I 137 (764 + 173 * j)).toInt64, up2 L 164 0 (I 137 (764 + 173 * j)).toInt64, Q, Q, ?_, ?_, Inv_t (Inv_o q0), up2_s _ _ _ _, fun _ => up2_s _ _ _ _⟩
    · show F_L_sayings E (rr w 136) (nI j) (rr w 164) (Hw E w I L Q) = _
      unfold F_L_sayings F_X11_sayings
      simp only [Option.bind_some, Option.map_some, Option.join, cI_r, cL_r, cV_r, xI_r, xL_r, xV_r, xI_t, xL_t, xV_t, lt_r, rtZ_0, rtZ_1, rtZ_zb, o136, f_needTelling hn (by omega), nd_t p, gf136_2, gf22_3, ga25, ix_n (show j < 12 by omega) (by decide), hs, pa164, ix01]
    · show F_X12_sayings E (rr w 163) (nI j) _ = _
      unfold F_X12_sayings
      simp only [Option.bind_some, Option.map_some, Option.join, cI_r, cL_r, cV_r, xI_r, xL_r, xV_r, xI_t, xL_t, xV_t, lt_r, rtZ_0, rtZ_1, rtZ_zb, pf163_3, o163, f_isTelling hn' (by omega), zi_t p, f_sayingsOf (show j < 12 by omega), up2_lit, Nat.reduceEqDiff, false_and, if_false]
  · refine ⟨1, 0, I, up2 (up2 I 163 3 0) 163 3 1, L, L, Q, Q, ?_, ?_, Inv_t (Inv_t q0), up2_s _ _ _ _, fun e => absurd e (by decide)⟩
    · show F_L_sayings E (rr w 136) x (rr w 164) (Hw E w I L Q) = _
      unfold F_L_sayings F_X11_sayings
      simp only [Option.bind_some, Option.map_some, Option.join, cI_r, cL_r, cV_r, xI_r, xL_r, xV_r, xI_t, xL_t, xV_t, lt_r, rtZ_0, rtZ_1, rtZ_zb, o136, f_needTelling hn (by omega), nd_f p, if_true]
    · show F_X12_sayings E (rr w 163) x _ = _
      unfold F_X12_sayings
      simp only [Option.bind_some, Option.map_some, Option.join, cI_r, cL_r, cV_r, xI_r, xL_r, xV_r, xI_t, xL_t, xV_t, lt_r, rtZ_0, rtZ_1, rtZ_zb, pf163_3, o163, f_isTelling hn' (by omega), zi_f p, f_fails]
end
