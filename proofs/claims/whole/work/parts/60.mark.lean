/-! mark -/
section
variable {E : Ev} {w : Wo} {I : Nat → Nat → Int32} {L : Nat → Nat → Int64} {Q : Nat → Nat → Option Nat} {c : Nat → Nat} {x y : Int32}
theorem op_mark (q : Inv w I L Q) (x1 x2 x3 x4 x5 : Int32) (b3 : x3 = 0 ∨ x3 = 1) : OpI E w (fun h => F_L_mark E (rr w 136) x1 x2 x3 x4 x5 (rr w 164) h) (fun h => F_X12_mark E (rr w 163) x1 x2 x3 x4 x5 h) I L Q := by
  have q0 := q
  obtain ⟨c, q1, q2, q3, q4, q5, -⟩ := q
  have k0 := q1.1 0 (by decide)
  have k2 := q1.1 2 (by decide)
  simp only [mx] at k0 k2
  have e0 : I 0 0 = nI (c 0) := q2.1.1.trans k0.1
  have e2 : I 0 11 = nI (c 2) := q2.2.2.1.1.trans k2.1
  have k0' : (up2 I 163 3 0) 137 0 = nI (c 0) := k0.1
  by_cases p1 : bl x1 (c 0)
  · by_cases p2 : bl x2 12
    · have z2 := (bl_iff (by decide)).mp p2
      have z22 : x2 < 12 := z2.2
      by_cases p4 : yrs x4 x5
      · have y4 := yrs_ref.mp p4
        generalize ef : up2 (up2 (up2 I 32 1 0) 32 2 (-1)) 32 3 1 = I0
        have hr : ∀ k, k ≠ 32 → I0 k = I k := fun k hk => by subst ef; rw [up2_row _ _ hk, up2_row _ _ hk, up2_row _ _ hk]
        by_cases hf : c 2 = 40
        · refine ⟨0, -1, I0, up2 I0 163 3 0, up2 L 164 0 (-1), up2 L 164 0 (-1), Q, Q, ?_, ?_, Inv_t (Inv_o (by subst ef; exact Inv_fg q0)), up2_s _ _ _ _, fun _ => up2_s _ _ _ _⟩
          · show F_L_mark E (rr w 136) x1 x2 x3 x4 x5 (rr w 164) (Hw E w I L Q) = _
            unfold F_L_mark F_X11_mark
            simp only [Option.bind_some, Option.map_some, Option.join, cI_r, cL_r, cV_r, xI_r, xL_r, xV_r, xI_t, xL_t, xV_t, lt_r, rtZ_0, rtZ_1, rtZ_zb, o136, o0, o32, f_needPlace e0 (show c 0 < 2 ^ 31 by omega), nd_t p1, if_neg z2.1, if_pos z22, f_needYears, nd_t p4, gf136_3, gf136_0, f_forget, ef, f_addMarkF (show I0 0 11 = nI 40 by rw [hr 0 (by decide), e2, hf]), pa164, ix01]
            rfl
          · show F_X12_mark E (rr w 163) x1 x2 x3 x4 x5 _ = _
            unfold F_X12_mark
            have k0'' : (up2 I0 163 3 0) 137 0 = nI (c 0) := by rw [up2_row I0 0 (by decide), hr 137 (by decide)]; exact k0.1
            have k2' : (up2 I0 163 3 0) 137 2 = 40 := by rw [up2_row I0 0 (by decide), hr 137 (by decide)]; exact k2.1.trans (by rw [hf]; rfl)
            simp only [Option.bind_some, Option.map_some, Option.join, cI_r, cL_r, cV_r, xI_r, xL_r, xV_r, xI_t, xL_t, xV_t, lt_r, rtZ_0, rtZ_1, rtZ_zb, pf163_3, o163, f_isPlace k0'' (show c 0 < 2 ^ 30 by omega), zn_t p1, f_isName, zi_t p2, f_isYear, zi_t y4.1, f_wi3, zn_t y4.2, gf163_0, ga137, show ix 2 2988 = some 2 from rfl, k2', not_true_eq_false, if_false]
        · have h3 : c 2 < 40 := by omega
          refine ⟨0, nI (c 2), up2 (up2 (up2 (up2 (up2 (up2 I0 10 (c 2) x1) 11 (c 2) x2) 12 (c 2) x3) 13 (c 2) x4) 14 (c 2) x5) 0 11 (nI (c 2 + 1)), _, up2 L 164 0 (nI (c 2)).toInt64, up2 L 164 0 (nI (c 2)).toInt64, Q, Q, ?_, ?_, inv_mark (v := (nI (c 2)).toInt64) q0 q1 q2 q3 q4 q5 h3 p1 p2 (bl2 b3) p4, ?_, fun _ => up2_s _ _ _ _⟩
          · show F_L_mark E (rr w 136) x1 x2 x3 x4 x5 (rr w 164) (Hw E w I L Q) = _
            unfold F_L_mark F_X11_mark
            simp only [Option.bind_some, Option.map_some, Option.join, cI_r, cL_r, cV_r, xI_r, xL_r, xV_r, xI_t, xL_t, xV_t, lt_r, rtZ_0, rtZ_1, rtZ_zb, o136, o0, o32, f_needPlace e0 (show c 0 < 2 ^ 31 by omega), nd_t p1, if_neg z2.1, if_pos z22, f_needYears, nd_t p4, gf136_3, gf136_0, f_forget, ef, f_addMark (show I0 0 11 = nI (c 2) by rw [hr 0 (by decide), e2]) h3 b3, pa164, ix01]
          · show F_X12_mark E (rr w 163) x1 x2 x3 x4 x5 _ = _
            rw [ef]
            generalize ea : up2 (up2 (up2 (up2 (up2 (up2 I0 10 (c 2) x1) 11 (c 2) x2) 12 (c 2) x3) 13 (c 2) x4) 14 (c 2) x5) 0 11 (nI (c 2 + 1)) = J
            have hJ : J 137 = I 137 := by subst ea; exact hr 137 (by decide)
            have k0'' : (up2 J 163 3 0) 137 0 = nI (c 0) := by rw [up2_row J 0 (by decide), hJ]; exact k0.1
            have k2'' : (up2 J 163 3 0) 137 2 = nI (c 2) := by rw [up2_row J 0 (by decide), hJ]; exact k2.1
            generalize eL : up2 L 164 0 (nI (c 2)).toInt64 = LL
            have em : F_X12_more E (rr w 163) 2 (Hw E w (up2 J 163 3 0) LL Q) = _ := f_more (s := 2) (by decide) k2''
            have i0 : ix ((450 : Int32) + (5 : Int32) * nI (c 2)) 2988 = some (450 + 5 * c 2) := by rw [n450, n5, pk_mul, nI_add]; exact ix_n (by omega) (by decide)
            have i1 : ix ((450 : Int32) + (5 : Int32) * nI (c 2) + 1) 2988 = some (451 + 5 * c 2) := by rw [n450, n5, pk_mul, nI_add, nI_1, show 450 + 5 * c 2 + 1 = 451 + 5 * c 2 by omega]; exact ix_n (by omega) (by decide)
            have i2 : ix ((450 : Int32) + (5 : Int32) * nI (c 2) + 2) 2988 = some (452 + 5 * c 2) := by rw [n450, n5, n2, pk_mul, nI_add, nI_add, show 450 + 5 * c 2 + 2 = 452 + 5 * c 2 by omega]; exact ix_n (by omega) (by decide)
            have i3 : ix ((450 : Int32) + (5 : Int32) * nI (c 2) + 3) 2988 = some (453 + 5 * c 2) := by rw [n450, n5, n3, pk_mul, nI_add, nI_add, show 450 + 5 * c 2 + 3 = 453 + 5 * c 2 by omega]; exact ix_n (by omega) (by decide)
            have i4 : ix ((450 : Int32) + (5 : Int32) * nI (c 2) + 4) 2988 = some (454 + 5 * c 2) := by rw [n450, n5, n4, pk_mul, nI_add, nI_add, show 450 + 5 * c 2 + 4 = 454 + 5 * c 2 by omega]; exact ix_n (by omega) (by decide)
            have nf : ¬ nI (c 2) = 40 := fun e => hf ((nI_eq (by omega) (by decide)).mp e)
            unfold F_X12_mark
            simp only [Option.bind_some, Option.map_some, Option.join, cI_r, cL_r, cV_r, xI_r, xL_r, xV_r, xI_t, xL_t, xV_t, lt_r, rtZ_0, rtZ_1, rtZ_zb, pf163_3, o163, f_isPlace k0'' (show c 0 < 2 ^ 30 by omega), zn_t p1, f_isName, zi_t p2, f_isYear, zi_t y4.1, f_wi3, zn_t y4.2, gf163_0, ga137, show ix 2 2988 = some 2 from rfl, k2'', if_pos nf, em, pa137, i0, i1]
            unfold J_X12_mark_128
            rcases b3 with rfl | rfl <;> simp only [Option.bind_some, Option.map_some, Option.join, cI_r, cL_r, cV_r, xI_r, xL_r, xV_r, xI_t, xL_t, xV_t, lt_r, rtZ_0, rtZ_1, rtZ_zb, if_true, show ¬ (1 : Int32) = 0 by decide, if_false, gf163_0, pa137, i2, i3, i4]
          · simp only [up2_lit, Nat.reduceEqDiff, false_and, true_and, if_false, if_true]
      · refine ⟨2, 0, I, up2 (up2 I 163 3 0) 163 3 2, L, L, Q, Q, ?_, ?_, Inv_t (Inv_t q0), up2_s _ _ _ _, fun e => absurd e (by decide)⟩
        · show F_L_mark E (rr w 136) x1 x2 x3 x4 x5 (rr w 164) (Hw E w I L Q) = _
          unfold F_L_mark F_X11_mark
          simp only [Option.bind_some, Option.map_some, Option.join, cI_r, cL_r, cV_r, xI_r, xL_r, xV_r, xI_t, xL_t, xV_t, lt_r, rtZ_0, rtZ_1, rtZ_zb, o136, f_needPlace e0 (show c 0 < 2 ^ 31 by omega), nd_t p1, if_neg z2.1, if_pos z22, f_needYears, nd_f p4, if_true]
        · show F_X12_mark E (rr w 163) x1 x2 x3 x4 x5 _ = _
          unfold F_X12_mark
          simp only [Option.bind_some, Option.map_some, Option.join, cI_r, cL_r, cV_r, xI_r, xL_r, xV_r, xI_t, xL_t, xV_t, lt_r, rtZ_0, rtZ_1, rtZ_zb, pf163_3, o163, f_isPlace k0' (show c 0 < 2 ^ 30 by omega), zn_t p1, f_isName, zi_t p2, f_isYear]
          by_cases y1 : bd x4 0 200
          · have y2 : ¬ (x4 ≤ x5 ∧ x5 ≤ 200) := fun e => p4 (yrs_ref.mpr ⟨y1, e⟩)
            simp only [Option.bind_some, Option.map_some, Option.join, cI_r, cL_r, cV_r, xI_r, xL_r, xV_r, xI_t, xL_t, xV_t, lt_r, rtZ_0, rtZ_1, rtZ_zb, zi_t y1, f_wi3, zn_f y2, o163, f_fails]
          · simp only [Option.bind_some, Option.map_some, Option.join, cI_r, cL_r, cV_r, xI_r, xL_r, xV_r, xI_t, xL_t, xV_t, lt_r, rtZ_0, rtZ_1, rtZ_zb, zi_f y1, o163, f_fails]
    · refine ⟨2, 0, I, up2 (up2 I 163 3 0) 163 3 2, L, L, Q, Q, ?_, ?_, Inv_t (Inv_t q0), up2_s _ _ _ _, fun e => absurd e (by decide)⟩
      · show F_L_mark E (rr w 136) x1 x2 x3 x4 x5 (rr w 164) (Hw E w I L Q) = _
        unfold F_L_mark F_X11_mark
        simp only [Option.bind_some, Option.map_some, Option.join, cI_r, cL_r, cV_r, xI_r, xL_r, xV_r, xI_t, xL_t, xV_t, lt_r, rtZ_0, rtZ_1, rtZ_zb, o136, f_needPlace e0 (show c 0 < 2 ^ 31 by omega), nd_t p1]
        by_cases c1 : x2 < 0
        · simp only [Option.bind_some, Option.map_some, Option.join, cI_r, cL_r, cV_r, xI_r, xL_r, xV_r, xI_t, xL_t, xV_t, lt_r, rtZ_0, rtZ_1, rtZ_zb, if_pos c1, if_true]
        · have c2 : ¬ x2 < 12 := fun e => p2 ((bl_iff (by decide)).mpr ⟨c1, e⟩)
          simp only [Option.bind_some, Option.map_some, Option.join, cI_r, cL_r, cV_r, xI_r, xL_r, xV_r, xI_t, xL_t, xV_t, lt_r, rtZ_0, rtZ_1, rtZ_zb, if_neg c1, if_neg c2, if_true]
      · show F_X12_mark E (rr w 163) x1 x2 x3 x4 x5 _ = _
        unfold F_X12_mark
        simp only [Option.bind_some, Option.map_some, Option.join, cI_r, cL_r, cV_r, xI_r, xL_r, xV_r, xI_t, xL_t, xV_t, lt_r, rtZ_0, rtZ_1, rtZ_zb, pf163_3, o163, f_isPlace k0' (show c 0 < 2 ^ 30 by omega), zn_t p1, f_isName, zi_f p2, f_fails]
  · refine ⟨1, 0, I, up2 (up2 I 163 3 0) 163 3 1, L, L, Q, Q, ?_, ?_, Inv_t (Inv_t q0), up2_s _ _ _ _, fun e => absurd e (by decide)⟩
    · show F_L_mark E (rr w 136) x1 x2 x3 x4 x5 (rr w 164) (Hw E w I L Q) = _
      unfold F_L_mark F_X11_mark
      simp only [Option.bind_some, Option.map_some, Option.join, cI_r, cL_r, cV_r, xI_r, xL_r, xV_r, xI_t, xL_t, xV_t, lt_r, rtZ_0, rtZ_1, rtZ_zb, o136, f_needPlace e0 (show c 0 < 2 ^ 31 by omega), nd_f p1, String.reduceEq, if_false, if_true]
    · show F_X12_mark E (rr w 163) x1 x2 x3 x4 x5 _ = _
      unfold F_X12_mark
      simp only [Option.bind_some, Option.map_some, Option.join, cI_r, cL_r, cV_r, xI_r, xL_r, xV_r, xI_t, xL_t, xV_t, lt_r, rtZ_0, rtZ_1, rtZ_zb, pf163_3, o163, f_isPlace k0' (show c 0 < 2 ^ 30 by omega), zn_f p1, f_fails]
end
