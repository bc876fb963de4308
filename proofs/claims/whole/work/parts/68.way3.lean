/-! way: the call -/
section
variable {E : Ev} {w : Wo} {I : Nat → Nat → Int32} {L : Nat → Nat → Int64} {Q : Nat → Nat → Option Nat} {c : Nat → Nat} {x y : Int32}
/-- what a way must keep but for its places -/
def wayOk (T : Ro) (c : Nat → Nat) (x1 x2 x3 x4 x5 x6 : Int32) : Prop := ¬ x1 = x2 ∧ bd x3 0 2 ∧ bd x4 1 99 ∧ yrs x5 x6 ∧ ¬ jnd T c x1 x2 x5 x6
theorem c_wayBad {x1 x2 x3 x4 x5 x6 : Int32} (hG : 100000 ≤ E.2.2.1) (q1 : WfT (I 137) c) (q2 : LandR I (I 137) c) (p1 : bl x1 (c 0)) (p2 : bl x2 (c 0)) (hb : ¬ wayOk (I 137) c x1 x2 x3 x4 x5 x6) : F_X11_way E (rr w 136) x1 x2 x3 x4 x5 x6 (Hw E w I L Q) = thr "java/lang/IllegalArgumentException" (Hw E w I L Q) := by
  have k0 := q1.1 0 (by decide)
  simp only [mx] at k0
  have e0 : I 0 0 = nI (c 0) := q2.1.1.trans k0.1
  unfold F_X11_way
  simp only [Option.bind_some, Option.map_some, Option.join, cI_r, cL_r, cV_r, xI_r, xL_r, xV_r, xI_t, xL_t, xV_t, lt_r, rtZ_0, rtZ_1, rtZ_zb, o136, f_needPlace e0 (show c 0 < 2 ^ 31 by omega), nd_t p1, nd_t p2]
  by_cases a1 : x1 = x2
  · rw [if_pos a1]
  · rw [if_neg a1]
    by_cases a2 : x3 < 0
    · rw [if_pos a2]
    · rw [if_neg a2]
      by_cases a3 : (3 : Int32) ≤ x3
      · rw [if_pos a3]
      · rw [if_neg a3]
        by_cases a4 : x4 < 1
        · rw [if_pos a4]
        · rw [if_neg a4]
          by_cases a5 : x4 ≤ 99
          · rw [if_pos a5]
            simp only [Option.bind_some, Option.map_some, Option.join, cI_r, cL_r, cV_r, xI_r, xL_r, xV_r, xI_t, xL_t, xV_t, lt_r, rtZ_0, rtZ_1, rtZ_zb, o136, f_needYears]
            by_cases a6 : yrs x5 x6
            · simp only [Option.bind_some, Option.map_some, Option.join, cI_r, cL_r, cV_r, xI_r, xL_r, xV_r, xI_t, xL_t, xV_t, lt_r, rtZ_0, rtZ_1, rtZ_zb, nd_t a6, gf136_0, o0, f_isJoined hG q1.1 q2.2.1]
              have a7 : jnd (I 137) c x1 x2 x5 x6 := Classical.not_not.mp fun e => hb ⟨a1, bd_bl.mpr ((bl_iff (by decide)).mpr ⟨a2, Int32.not_le.mp a3⟩), (bd_ref2 (by decide) (by decide)).mp ⟨Int32.not_lt.mp a4, a5⟩, a6, e⟩
              rw [zi_t a7]
            · simp only [Option.bind_some, Option.map_some, Option.join, cI_r, cL_r, cV_r, xI_r, xL_r, xV_r, xI_t, xL_t, xV_t, lt_r, rtZ_0, rtZ_1, rtZ_zb, nd_f a6]
          · rw [if_neg a5]
theorem m_wayBad {x1 x2 x3 x4 x5 x6 : Int32} (hG : 100000 ≤ E.2.2.1) (q1 : WfT (I 137) c) (p1 : bl x1 (c 0)) (p2 : bl x2 (c 0)) (hb : ¬ wayOk (I 137) c x1 x2 x3 x4 x5 x6) : F_X12_way E (rr w 163) x1 x2 x3 x4 x5 x6 (Hw E w I L Q) = rtI 0 (Hw E w (up2 (up2 I 163 3 0) 163 3 2) L Q) := by
  have k0 := q1.1 0 (by decide)
  simp only [mx] at k0
  have k0' : (up2 I 163 3 0) 137 0 = nI (c 0) := k0.1
  have q1' : Cts (up2 I 163 3 0 137) c := q1.1
  have hT : (up2 I 163 3 0) 137 = I 137 := up2_row I 0 (by decide)
  unfold F_X12_way
  simp only [Option.bind_some, Option.map_some, Option.join, cI_r, cL_r, cV_r, xI_r, xL_r, xV_r, xI_t, xL_t, xV_t, lt_r, rtZ_0, rtZ_1, rtZ_zb, pf163_3, o163, f_isPlace k0' (show c 0 < 2 ^ 30 by omega), zi_t p1, zn_t p2, f_fails]
  by_cases a1 : x1 = x2
  · rw [if_pos a1]
  · rw [if_neg a1]
    simp only [Option.bind_some, Option.map_some, Option.join, cI_r, cL_r, cV_r, xI_r, xL_r, xV_r, xI_t, xL_t, xV_t, lt_r, rtZ_0, rtZ_1, rtZ_zb, f_wi 2 (by decide) (show (nI 2).toInt64 = 2 by rfl)]
    by_cases a2 : bd x3 0 2
    · rw [zi_t a2]
      simp only [Option.bind_some, Option.map_some, Option.join, cI_r, cL_r, cV_r, xI_r, xL_r, xV_r, xI_t, xL_t, xV_t, lt_r, rtZ_0, rtZ_1, rtZ_zb, f_wi2 1 99 (by decide) (by decide) (show (nI 1).toInt64 = 1 by rfl) (show (nI 99).toInt64 = 99 by rfl)]
      by_cases a3 : bd x4 1 99
      · rw [zi_t a3]
        simp only [Option.bind_some, Option.map_some, Option.join, cI_r, cL_r, cV_r, xI_r, xL_r, xV_r, xI_t, xL_t, xV_t, lt_r, rtZ_0, rtZ_1, rtZ_zb, f_isYear]
        by_cases a4 : bd x5 0 200
        · rw [zi_t a4]
          simp only [Option.bind_some, Option.map_some, Option.join, cI_r, cL_r, cV_r, xI_r, xL_r, xV_r, xI_t, xL_t, xV_t, lt_r, rtZ_0, rtZ_1, rtZ_zb, f_wi3]
          by_cases a5 : x5 ≤ x6 ∧ x6 ≤ 200
          · rw [zn_t a5, m_joined hG q1', hT]
            have a7 : jnd (I 137) c x1 x2 x5 x6 := Classical.not_not.mp fun e => hb ⟨a1, a2, a3, yrs_ref.mpr ⟨a4, a5⟩, e⟩
            rw [if_pos a7]
          · rw [zn_f a5]; simp only [Option.bind_some, Option.map_some, Option.join, cI_r, cL_r, cV_r, xI_r, xL_r, xV_r, xI_t, xL_t, xV_t, lt_r, rtZ_0, rtZ_1, rtZ_zb, o163, f_fails]
        · rw [zi_f a4]; simp only [Option.bind_some, Option.map_some, Option.join, cI_r, cL_r, cV_r, xI_r, xL_r, xV_r, xI_t, xL_t, xV_t, lt_r, rtZ_0, rtZ_1, rtZ_zb, o163, f_fails]
      · rw [zi_f a3]; simp only [Option.bind_some, Option.map_some, Option.join, cI_r, cL_r, cV_r, xI_r, xL_r, xV_r, xI_t, xL_t, xV_t, lt_r, rtZ_0, rtZ_1, rtZ_zb, o163, f_fails]
    · rw [zi_f a2]; simp only [Option.bind_some, Option.map_some, Option.join, cI_r, cL_r, cV_r, xI_r, xL_r, xV_r, xI_t, xL_t, xV_t, lt_r, rtZ_0, rtZ_1, rtZ_zb, o163, f_fails]
theorem op_way (hG : 100000 ≤ E.2.2.1) (q : Inv w I L Q) (x1 x2 x3 x4 x5 x6 : Int32) : OpI E w (fun h => F_L_way E (rr w 136) x1 x2 x3 x4 x5 x6 (rr w 164) h) (fun h => F_X12_way E (rr w 163) x1 x2 x3 x4 x5 x6 h) I L Q := by
  have q0 := q
  obtain ⟨c, q1, q2, q3, q4, q5, -⟩ := q
  have k0 := q1.1 0 (by decide)
  have k1 := q1.1 1 (by decide)
  simp only [mx] at k0 k1
  have e0 : I 0 0 = nI (c 0) := q2.1.1.trans k0.1
  have e1 : I 0 3 = nI (c 1) := q2.2.1.1.trans k1.1
  have k0' : (up2 I 163 3 0) 137 0 = nI (c 0) := k0.1
  by_cases p1 : bl x1 (c 0)
  · by_cases p2 : bl x2 (c 0)
    · by_cases pk : wayOk (I 137) c x1 x2 x3 x4 x5 x6
      · obtain ⟨a1, a2, a3, a4, a5⟩ := pk
        have p1' := p1
        have p2' := p2
        obtain ⟨a, rfl, ha⟩ := p1'
        obtain ⟨b, rfl, hb⟩ := p2'
        have hab : a ≠ b := fun e => a1 (by rw [e])
        have z3 := (bl_iff (by decide)).mp (bd_bl.mp a2)
        have z3' : ¬ (3 : Int32) ≤ x3 := Int32.not_le.mpr z3.2
        have z4 := (bd_ref2 (by decide) (by decide)).mpr a3
        have z41 : ¬ x4 < 1 := Int32.not_lt.mpr z4.1
        have z42 : x4 ≤ 99 := z4.2
        have y4 := yrs_ref.mp a4
        generalize ef : up2 (up2 (up2 I 32 1 0) 32 2 (-1)) 32 3 1 = I0
        have hr : ∀ k, k ≠ 32 → I0 k = I k := fun k hk => by subst ef; rw [up2_row _ _ hk, up2_row _ _ hk, up2_row _ _ hk]
        by_cases hf : c 1 = 60
        · refine ⟨0, -1, I0, up2 I0 163 3 0, up2 L 164 0 (-1), up2 L 164 0 (-1), Q, Q, ?_, ?_, Inv_t (Inv_o (by subst ef; exact Inv_fg q0)), up2_s _ _ _ _, fun _ => up2_s _ _ _ _⟩
          · show F_L_way E (rr w 136) (nI a) (nI b) x3 x4 x5 x6 (rr w 164) (Hw E w I L Q) = _
            unfold F_L_way F_X11_way
            simp only [Option.bind_some, Option.map_some, Option.join, cI_r, cL_r, cV_r, xI_r, xL_r, xV_r, xI_t, xL_t, xV_t, lt_r, rtZ_0, rtZ_1, rtZ_zb, o136, o0, o32, f_needPlace e0 (show c 0 < 2 ^ 31 by omega), nd_t p1, nd_t p2, if_neg a1, if_neg z3.1, if_neg z3', if_neg z41, if_pos z42, f_needYears, nd_t a4, gf136_3, gf136_0, f_isJoined hG q1.1 q2.2.1, zi_f a5, f_forget, ef, f_addWayF (show I0 0 3 = nI 60 by rw [hr 0 (by decide), e1, hf]), pa164, ix01]
            rfl
          · show F_X12_way E (rr w 163) (nI a) (nI b) x3 x4 x5 x6 _ = _
            unfold F_X12_way
            have hT : (up2 I0 163 3 0) 137 = I 137 := by rw [up2_row I0 0 (by decide), hr 137 (by decide)]
            have k0'' : (up2 I0 163 3 0) 137 0 = nI (c 0) := by rw [hT]; exact k0.1
            have k1' : (up2 I0 163 3 0) 137 1 = 60 := by rw [hT]; exact k1.1.trans (by rw [hf]; rfl)
            have q1' : Cts (up2 I0 163 3 0 137) c := by rw [hT]; exact q1.1
            simp only [Option.bind_some, Option.map_some, Option.join, cI_r, cL_r, cV_r, xI_r, xL_r, xV_r, xI_t, xL_t, xV_t, lt_r, rtZ_0, rtZ_1, rtZ_zb, pf163_3, o163, f_isPlace k0'' (show c 0 < 2 ^ 30 by omega), zi_t p1, zn_t p2, if_neg a1, f_wi 2 (by decide) (show (nI 2).toInt64 = 2 by rfl), zi_t a2, f_wi2 1 99 (by decide) (by decide) (show (nI 1).toInt64 = 1 by rfl) (show (nI 99).toInt64 = 99 by rfl), zi_t a3, f_isYear, zi_t y4.1, f_wi3, zn_t y4.2]
            rw [m_joined hG q1', hT, if_neg a5]
            simp only [Option.bind_some, Option.map_some, Option.join, cI_r, cL_r, cV_r, xI_r, xL_r, xV_r, xI_t, xL_t, xV_t, lt_r, rtZ_0, rtZ_1, rtZ_zb, gf163_0, ga137, show ix 1 2988 = some 1 from rfl, k1', not_true_eq_false, if_false]
        · have h3 : c 1 < 60 := by omega
          have hx : ∀ k i, k ≠ 32 → I0 k i = I k i := fun k i hk => by rw [hr k hk]
          refine ⟨0, nI (c 1), up2 (up2 (up2 (up2 (up2 (up2 (up2 (up2 (up2 (up2 (up2 (up2 (up2 I0 3 (c 1) (x3)) 4 (c 1) (x4)) 5 (c 1) (x5)) 6 (c 1) (x6)) 7 (4 * c 1) (nI b)) 7 (4 * c 1 + 1) (nI a)) 7 (4 * c 1 + 2) (nI a)) 7 (4 * c 1 + 3) (nI b)) 8 (2 * c 1) (I 1 b - I 1 a)) 9 (2 * c 1) (I 2 b - I 2 a)) 8 (2 * c 1 + 1) (I 1 a - I 1 b)) 9 (2 * c 1 + 1) (I 2 a - I 2 b)) 0 (3) (nI (c 1 + 1)), _, up2 L 164 0 (nI (c 1)).toInt64, up2 L 164 0 (nI (c 1)).toInt64, Q, Q, ?_, ?_, inv_way (v := (nI (c 1)).toInt64) q0 q1 q2 q3 q4 q5 h3 ha hb hab a2 a3 a4, ?_, fun _ => up2_s _ _ _ _⟩
          · show F_L_way E (rr w 136) (nI a) (nI b) x3 x4 x5 x6 (rr w 164) (Hw E w I L Q) = _
            unfold F_L_way F_X11_way
            simp only [Option.bind_some, Option.map_some, Option.join, cI_r, cL_r, cV_r, xI_r, xL_r, xV_r, xI_t, xL_t, xV_t, lt_r, rtZ_0, rtZ_1, rtZ_zb, o136, o0, o32, f_needPlace e0 (show c 0 < 2 ^ 31 by omega), nd_t p1, nd_t p2, if_neg a1, if_neg z3.1, if_neg z3', if_neg z41, if_pos z42, f_needYears, nd_t a4, gf136_3, gf136_0, f_isJoined hG q1.1 q2.2.1, zi_f a5, f_forget, ef, f_addWay (show I0 0 3 = nI (c 1) by rw [hr 0 (by decide), e1]) h3 (show a < 40 by omega) (show b < 40 by omega), pa164, ix01, hr 1 (by decide), hr 2 (by decide)]
          · show F_X12_way E (rr w 163) (nI a) (nI b) x3 x4 x5 x6 _ = _
            rw [ef]
            generalize ea : up2 (up2 (up2 (up2 (up2 (up2 (up2 (up2 (up2 (up2 (up2 (up2 (up2 I0 3 (c 1) (x3)) 4 (c 1) (x4)) 5 (c 1) (x5)) 6 (c 1) (x6)) 7 (4 * c 1) (nI b)) 7 (4 * c 1 + 1) (nI a)) 7 (4 * c 1 + 2) (nI a)) 7 (4 * c 1 + 3) (nI b)) 8 (2 * c 1) (I 1 b - I 1 a)) 9 (2 * c 1) (I 2 b - I 2 a)) 8 (2 * c 1 + 1) (I 1 a - I 1 b)) 9 (2 * c 1 + 1) (I 2 a - I 2 b)) 0 (3) (nI (c 1 + 1)) = J
            have hJ : J 137 = I 137 := by subst ea; exact hr 137 (by decide)
            have hT : (up2 J 163 3 0) 137 = I 137 := by rw [up2_row J 0 (by decide), hJ]
            have k0'' : (up2 J 163 3 0) 137 0 = nI (c 0) := by rw [hT]; exact k0.1
            have k1'' : (up2 J 163 3 0) 137 1 = nI (c 1) := by rw [hT]; exact k1.1
            have q1' : Cts (up2 J 163 3 0 137) c := by rw [hT]; exact q1.1
            generalize eL : up2 L 164 0 (nI (c 1)).toInt64 = LL
            have em : F_X12_more E (rr w 163) 1 (Hw E w (up2 J 163 3 0) LL Q) = _ := f_more (s := 1) (by decide) k1''
            have i0 : ix ((90 : Int32) + (6 : Int32) * nI (c 1)) 2988 = some (90 + 6 * c 1) := by rw [n90, n6, pk_mul, nI_add]; exact ix_n (by omega) (by decide)
            have i1 : ix ((90 : Int32) + (6 : Int32) * nI (c 1) + 1) 2988 = some (91 + 6 * c 1) := by rw [n90, n6, pk_mul, nI_add, nI_1, show 90 + 6 * c 1 + 1 = 91 + 6 * c 1 by omega]; exact ix_n (by omega) (by decide)
            have i2 : ix ((90 : Int32) + (6 : Int32) * nI (c 1) + 2) 2988 = some (92 + 6 * c 1) := by rw [n90, n6, n2, pk_mul, nI_add, nI_add, show 90 + 6 * c 1 + 2 = 92 + 6 * c 1 by omega]; exact ix_n (by omega) (by decide)
            have i3 : ix ((90 : Int32) + (6 : Int32) * nI (c 1) + 3) 2988 = some (93 + 6 * c 1) := by rw [n90, n6, n3, pk_mul, nI_add, nI_add, show 90 + 6 * c 1 + 3 = 93 + 6 * c 1 by omega]; exact ix_n (by omega) (by decide)
            have i4 : ix ((90 : Int32) + (6 : Int32) * nI (c 1) + 4) 2988 = some (94 + 6 * c 1) := by rw [n90, n6, n4, pk_mul, nI_add, nI_add, show 90 + 6 * c 1 + 4 = 94 + 6 * c 1 by omega]; exact ix_n (by omega) (by decide)
            have i5 : ix ((90 : Int32) + (6 : Int32) * nI (c 1) + 5) 2988 = some (95 + 6 * c 1) := by rw [n90, n6, n5, pk_mul, nI_add, nI_add, show 90 + 6 * c 1 + 5 = 95 + 6 * c 1 by omega]; exact ix_n (by omega) (by decide)
            have nf : ¬ nI (c 1) = 60 := fun e => hf ((nI_eq (by omega) (by decide)).mp e)
            unfold F_X12_way
            simp only [Option.bind_some, Option.map_some, Option.join, cI_r, cL_r, cV_r, xI_r, xL_r, xV_r, xI_t, xL_t, xV_t, lt_r, rtZ_0, rtZ_1, rtZ_zb, pf163_3, o163, f_isPlace k0'' (show c 0 < 2 ^ 30 by omega), zi_t p1, zn_t p2, if_neg a1, f_wi 2 (by decide) (show (nI 2).toInt64 = 2 by rfl), zi_t a2, f_wi2 1 99 (by decide) (by decide) (show (nI 1).toInt64 = 1 by rfl) (show (nI 99).toInt64 = 99 by rfl), zi_t a3, f_isYear, zi_t y4.1, f_wi3, zn_t y4.2]
            rw [m_joined hG q1', hT, if_neg a5]
            simp only [Option.bind_some, Option.map_some, Option.join, cI_r, cL_r, cV_r, xI_r, xL_r, xV_r, xI_t, xL_t, xV_t, lt_r, rtZ_0, rtZ_1, rtZ_zb, gf163_0, ga137, show ix 1 2988 = some 1 from rfl, k1'', if_pos nf, o163, em, pa137, i0, i1, i2, i3, i4, i5]
          · simp only [up2_lit, Nat.reduceEqDiff, false_and, true_and, if_false, if_true]
      · refine ⟨2, 0, I, up2 (up2 I 163 3 0) 163 3 2, L, L, Q, Q, ?_, m_wayBad hG q1 p1 p2 pk, Inv_t (Inv_t q0), up2_s _ _ _ _, fun e => absurd e (by decide)⟩
        show F_L_way E (rr w 136) x1 x2 x3 x4 x5 x6 (rr w 164) (Hw E w I L Q) = _
        unfold F_L_way
        simp only [Option.bind_some, Option.map_some, Option.join, cI_r, cL_r, cV_r, xI_r, xL_r, xV_r, xI_t, xL_t, xV_t, lt_r, rtZ_0, rtZ_1, rtZ_zb, o136, c_wayBad hG q1 q2 p1 p2 pk, if_true]
    · refine ⟨1, 0, I, up2 (up2 I 163 3 0) 163 3 1, L, L, Q, Q, ?_, ?_, Inv_t (Inv_t q0), up2_s _ _ _ _, fun e => absurd e (by decide)⟩
      · show F_L_way E (rr w 136) x1 x2 x3 x4 x5 x6 (rr w 164) (Hw E w I L Q) = _
        unfold F_L_way F_X11_way
        simp only [Option.bind_some, Option.map_some, Option.join, cI_r, cL_r, cV_r, xI_r, xL_r, xV_r, xI_t, xL_t, xV_t, lt_r, rtZ_0, rtZ_1, rtZ_zb, o136, f_needPlace e0 (show c 0 < 2 ^ 31 by omega), nd_t p1, nd_f p2, String.reduceEq, if_false, if_true]
      · show F_X12_way E (rr w 163) x1 x2 x3 x4 x5 x6 _ = _
        unfold F_X12_way
        simp only [Option.bind_some, Option.map_some, Option.join, cI_r, cL_r, cV_r, xI_r, xL_r, xV_r, xI_t, xL_t, xV_t, lt_r, rtZ_0, rtZ_1, rtZ_zb, pf163_3, o163, f_isPlace k0' (show c 0 < 2 ^ 30 by omega), zi_t p1, zn_f p2, f_fails]
  · refine ⟨1, 0, I, up2 (up2 I 163 3 0) 163 3 1, L, L, Q, Q, ?_, ?_, Inv_t (Inv_t q0), up2_s _ _ _ _, fun e => absurd e (by decide)⟩
    · show F_L_way E (rr w 136) x1 x2 x3 x4 x5 x6 (rr w 164) (Hw E w I L Q) = _
      unfold F_L_way F_X11_way
      simp only [Option.bind_some, Option.map_some, Option.join, cI_r, cL_r, cV_r, xI_r, xL_r, xV_r, xI_t, xL_t, xV_t, lt_r, rtZ_0, rtZ_1, rtZ_zb, o136, f_needPlace e0 (show c 0 < 2 ^ 31 by omega), nd_f p1, String.reduceEq, if_false, if_true]
    · show F_X12_way E (rr w 163) x1 x2 x3 x4 x5 x6 _ = _
      unfold F_X12_way
      simp only [Option.bind_some, Option.map_some, Option.join, cI_r, cL_r, cV_r, xI_r, xL_r, xV_r, xI_t, xL_t, xV_t, lt_r, rtZ_0, rtZ_1, rtZ_zb, pf163_3, o163, f_isPlace k0' (show c 0 < 2 ^ 30 by omega), zi_f p1, f_fails]
end
