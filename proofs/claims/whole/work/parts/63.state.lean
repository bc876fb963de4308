/-! state; tongue -/
section
variable {E : Ev} {w : Wo} {I : Nat → Nat → Int32} {L : Nat → Nat → Int64} {Q : Nat → Nat → Option Nat} {c : Nat → Nat} {x y : Int32}
theorem dv_n {a d : Nat} {di : Int32} (hd : di = nI d) (ha : a < 2 ^ 31) (h0 : 0 < d) (h1 : d < 2 ^ 31) : dvI (nI a) di = some (nI (a / d)) := by
  subst hd; unfold dvI; rw [if_neg (nI_ne0 h0 h1), pk_div ha h0 h1]
theorem rm_n {a d : Nat} {di : Int32} (hd : di = nI d) (ha : a < 2 ^ 31) (h0 : 0 < d) (h1 : d < 2 ^ 31) : rmI (nI a) di = some (nI (a % d)) := by
  subst hd; unfold rmI; rw [if_neg (nI_ne0 h0 h1), pk_rem ha h0 h1]
theorem f_wayOf {v k : Nat} (hv : v < 60) (hk : k < 6) : F_X12_wayOf E (rr w 163) (nI v) (nI k) (Hw E w I L Q) = rtI (I 137 (90 + 6 * v + k)) (Hw E w I L Q) := by
  unfold F_X12_wayOf
  have e : ix ((90 : Int32) + (6 : Int32) * nI v + nI k) 2988 = some (90 + 6 * v + k) := by rw [n90, n6, pk_mul, nI_add, nI_add]; exact ix_n (by omega) (by decide)
  simp only [Option.bind_some, Option.map_some, Option.join, cI_r, cL_r, cV_r, xI_r, xL_r, xV_r, xI_t, xL_t, xV_t, lt_r, rtZ_0, rtZ_1, rtZ_zb, gf163_0, ga137, e]
theorem f_endOf0 {a : Nat} (ha : a < 120) : F_X12_endOf E (rr w 163) (nI a) 0 (Hw E w I L Q) = rtI (ast (I 137) a) (Hw E w I L Q) := by
  unfold F_X12_endOf
  have w0 : F_X12_wayOf E (rr w 163) (nI (a / 2)) 0 (Hw E w I L Q) = rtI (I 137 (90 + 6 * (a / 2))) _ := f_wayOf (k := 0) (by omega) (by decide)
  have w1 : F_X12_wayOf E (rr w 163) (nI (a / 2)) (1 - 0) (Hw E w I L Q) = rtI (I 137 (90 + 6 * (a / 2) + 1)) _ := f_wayOf (k := 1) (by omega) (by decide)
  simp only [Option.bind_some, Option.map_some, Option.join, cI_r, cL_r, cV_r, xI_r, xL_r, xV_r, xI_t, xL_t, xV_t, lt_r, rtZ_0, rtZ_1, rtZ_zb, dv_n n2 (show a < 2 ^ 31 by omega) (by decide) (by decide), rm_n n2 (show a < 2 ^ 31 by omega) (by decide) (by decide), o163]
  unfold ast
  by_cases p : a % 2 = 0
  · rw [if_pos p, p, if_neg (not_not_intro nI_0)]; simp only [w0, Option.bind_some, Option.map_some, Option.join, cI_r, cL_r, cV_r, xI_r, xL_r, xV_r, xI_t, xL_t, xV_t, lt_r, rtZ_0, rtZ_1, rtZ_zb]
  · rw [if_neg p, if_pos (nI_ne0 (by omega) (by omega)), w1, show 90 + 6 * (a / 2) + 1 = 91 + 6 * (a / 2) by omega]; simp only [Option.bind_some, Option.map_some, Option.join, cI_r, cL_r, cV_r, xI_r, xL_r, xV_r, xI_t, xL_t, xV_t, lt_r, rtZ_0, rtZ_1, rtZ_zb]
theorem f_endOf1 {a : Nat} (ha : a < 120) : F_X12_endOf E (rr w 163) (nI a) 1 (Hw E w I L Q) = rtI (aen (I 137) a) (Hw E w I L Q) := by
  unfold F_X12_endOf
  have w0 : F_X12_wayOf E (rr w 163) (nI (a / 2)) (1 - 1) (Hw E w I L Q) = rtI (I 137 (90 + 6 * (a / 2))) _ := f_wayOf (k := 0) (by omega) (by decide)
  have w1 : F_X12_wayOf E (rr w 163) (nI (a / 2)) 1 (Hw E w I L Q) = rtI (I 137 (90 + 6 * (a / 2) + 1)) _ := f_wayOf (k := 1) (by omega) (by decide)
  simp only [Option.bind_some, Option.map_some, Option.join, cI_r, cL_r, cV_r, xI_r, xL_r, xV_r, xI_t, xL_t, xV_t, lt_r, rtZ_0, rtZ_1, rtZ_zb, dv_n n2 (show a < 2 ^ 31 by omega) (by decide) (by decide), rm_n n2 (show a < 2 ^ 31 by omega) (by decide) (by decide), o163]
  unfold aen
  by_cases p : a % 2 = 0
  · rw [if_pos p, p, if_neg (not_not_intro nI_0), w1, show 90 + 6 * (a / 2) + 1 = 91 + 6 * (a / 2) by omega]; simp only [Option.bind_some, Option.map_some, Option.join, cI_r, cL_r, cV_r, xI_r, xL_r, xV_r, xI_t, xL_t, xV_t, lt_r, rtZ_0, rtZ_1, rtZ_zb]
  · rw [if_neg p, if_pos (nI_ne0 (by omega) (by omega))]; simp only [w0, Option.bind_some, Option.map_some, Option.join, cI_r, cL_r, cV_r, xI_r, xL_r, xV_r, xI_t, xL_t, xV_t, lt_r, rtZ_0, rtZ_1, rtZ_zb]
theorem f_placeOf {s : Nat} (hs : s < 240) : F_X12_placeOf E (rr w 163) (nI s) (Hw E w I L Q) = rtI (spl (I 137) s) (Hw E w I L Q) := by
  unfold F_X12_placeOf
  simp only [Option.bind_some, Option.map_some, Option.join, cI_r, cL_r, cV_r, xI_r, xL_r, xV_r, xI_t, xL_t, xV_t, lt_r, rtZ_0, rtZ_1, rtZ_zb, dv_n n2 (show s < 2 ^ 31 by omega) (by decide) (by decide), rm_n n2 (show s < 2 ^ 31 by omega) (by decide) (by decide), o163, f_endOf0 (show s / 2 < 120 by omega), f_endOf1 (show s / 2 < 120 by omega)]
  unfold spl
  by_cases p : s % 2 = 0
  · rw [if_pos p, p, if_neg (not_not_intro nI_0)]
  · rw [if_neg p, if_pos (nI_ne0 (by omega) (by omega))]
theorem spots_spl {T : Ro} {s : Nat} (h : LandV I T (s / 4)) : I 7 s = spl T s := by
  obtain ⟨-, -, -, -, h4, h5, h6, h7, -⟩ := h
  unfold spl aen ast
  have hs : s % 4 = 0 ∨ s % 4 = 1 ∨ s % 4 = 2 ∨ s % 4 = 3 := by omega
  rcases hs with hs | hs | hs | hs
  · rw [if_pos (by omega), if_pos (by omega), show s / 2 / 2 = s / 4 by omega]; rw [← h4]; congr 1; omega
  · rw [if_neg (by omega), if_pos (by omega), show s / 2 / 2 = s / 4 by omega]; rw [← h5]; congr 1; omega
  · rw [if_pos (by omega), if_neg (by omega), show s / 2 / 2 = s / 4 by omega]; rw [← h6]; congr 1; omega
  · rw [if_neg (by omega), if_neg (by omega), show s / 2 / 2 = s / 4 by omega]; rw [← h7]; congr 1; omega
theorem op_state (q : Inv w I L Q) (x1 x2 : Int32) : OpI E w (fun h => F_L_state E (rr w 136) x1 x2 (rr w 164) h) (fun h => F_X12_state E (rr w 163) x1 x2 h) I L Q := by
  have q0 := q
  obtain ⟨c, q1, q2, q3, q4, q5, -⟩ := q
  have k1 := q1.1 1 (by decide)
  simp only [mx] at k1
  have e1 : I 0 3 = nI (c 1) := q2.2.1.1.trans k1.1
  have k1' : (up2 I 163 3 0) 137 1 = nI (c 1) := k1.1
  have hT : (up2 I 163 3 0) 137 = I 137 := up2_row I 0 (by decide)
  by_cases p1 : bl x1 (4 * c 1)
  · have p1' := p1
    obtain ⟨s, rfl, hs⟩ := p1'
    have fin : ∀ v : Int32, F_X11_state E (rr w 136) (nI s) x2 (Hw E w I L Q) = rtI v (Hw E w I L Q) → F_X12_state E (rr w 163) (nI s) x2 (Hw E w I (up2 L 164 0 v.toInt64) Q) = rtI v (Hw E w (up2 I 163 3 0) (up2 L 164 0 v.toInt64) Q) → OpI E w (fun h => F_L_state E (rr w 136) (nI s) x2 (rr w 164) h) (fun h => F_X12_state E (rr w 163) (nI s) x2 h) I L Q := by
      intro v hc hm
      refine ⟨0, v, I, up2 I 163 3 0, up2 L 164 0 v.toInt64, up2 L 164 0 v.toInt64, Q, Q, ?_, hm, Inv_t (Inv_o q0), up2_s _ _ _ _, fun _ => up2_s _ _ _ _⟩
      show F_L_state E (rr w 136) (nI s) x2 (rr w 164) (Hw E w I L Q) = _
      unfold F_L_state
      simp only [Option.bind_some, Option.map_some, Option.join, cI_r, cL_r, cV_r, xI_r, xL_r, xV_r, xI_t, xL_t, xV_t, lt_r, rtZ_0, rtZ_1, rtZ_zb, o136, hc, pa164, ix01]
    by_cases c0 : x2 = 0
    · subst c0
      have pw : bd (0 : Int32) 0 2 := ⟨0, rfl, by omega, by omega⟩
      refine fin (spl (I 137) s) ?_ ?_
      · unfold F_X11_state
        simp only [Option.bind_some, Option.map_some, Option.join, cI_r, cL_r, cV_r, xI_r, xL_r, xV_r, xI_t, xL_t, xV_t, lt_r, rtZ_0, rtZ_1, rtZ_zb, o136, f_needState e1 (show c 1 < 2 ^ 28 by omega), nd_t p1, if_true, gf136_0, gf0_8, ga7, ix_n (show s < 240 by omega) (by decide), spots_spl (q2.2.1.2 (s / 4) (by omega))]
      · unfold F_X12_state
        simp only [Option.bind_some, Option.map_some, Option.join, cI_r, cL_r, cV_r, xI_r, xL_r, xV_r, xI_t, xL_t, xV_t, lt_r, rtZ_0, rtZ_1, rtZ_zb, pf163_3, o163, f_isState k1' (show c 1 < 2 ^ 28 by omega), zn_t p1, f_wi 2 (by decide) (show (nI 2).toInt64 = 2 by rfl), zn_t pw, not_true_eq_false, if_false, f_placeOf (show s < 240 by omega), hT]
    · by_cases c1 : x2 = 1
      · subst c1
        have pw : bd (1 : Int32) 0 2 := ⟨1, rfl, by omega, by omega⟩
        refine fin (nI (1 - s % 2)) ?_ ?_
        · unfold F_X11_state
          simp only [Option.bind_some, Option.map_some, Option.join, cI_r, cL_r, cV_r, xI_r, xL_r, xV_r, xI_t, xL_t, xV_t, lt_r, rtZ_0, rtZ_1, rtZ_zb, o136, f_needState e1 (show c 1 < 2 ^ 28 by omega), nd_t p1, if_neg c0, if_true, pk_andN (show s < 2 ^ 32 by omega) (m := 1) 1 (by decide)]
          by_cases p : s % 2 = 0
          · rw [show s % 2 ^ 1 = 0 from p, if_neg (not_not_intro nI_0)]; rfl
          · rw [if_pos (nI_ne0 (show 0 < s % 2 ^ 1 by omega) (by omega)), show s % 2 = 1 by omega]; rfl
        · unfold F_X12_state
          simp only [Option.bind_some, Option.map_some, Option.join, cI_r, cL_r, cV_r, xI_r, xL_r, xV_r, xI_t, xL_t, xV_t, lt_r, rtZ_0, rtZ_1, rtZ_zb, pf163_3, o163, f_isState k1' (show c 1 < 2 ^ 28 by omega), zn_t p1, f_wi 2 (by decide) (show (nI 2).toInt64 = 2 by rfl), zn_t pw, c0, not_false_eq_true, if_true, not_true_eq_false, if_false, rm_n n2 (show s < 2 ^ 31 by omega) (by decide) (by decide)]
          rw [n1, pk_sub (by omega)]
      · by_cases c2 : x2 = 2
        · subst c2
          have pw : bd (2 : Int32) 0 2 := ⟨2, rfl, by omega, by omega⟩
          refine fin (nI (s / 4)) ?_ ?_
          · unfold F_X11_state
            simp only [Option.bind_some, Option.map_some, Option.join, cI_r, cL_r, cV_r, xI_r, xL_r, xV_r, xI_t, xL_t, xV_t, lt_r, rtZ_0, rtZ_1, rtZ_zb, o136, f_needState e1 (show c 1 < 2 ^ 28 by omega), nd_t p1, if_neg c0, if_neg c1, if_true, pk_shrN (show s < 2 ^ 31 by omega) (2 &&& 31) 2 (by decide)]
          · unfold F_X12_state
            simp only [Option.bind_some, Option.map_some, Option.join, cI_r, cL_r, cV_r, xI_r, xL_r, xV_r, xI_t, xL_t, xV_t, lt_r, rtZ_0, rtZ_1, rtZ_zb, pf163_3, o163, f_isState k1' (show c 1 < 2 ^ 28 by omega), zn_t p1, f_wi 2 (by decide) (show (nI 2).toInt64 = 2 by rfl), zn_t pw, if_pos c0, if_pos c1, dv_n n4 (show s < 2 ^ 31 by omega) (by decide) (by decide)]
        · have pw : ¬ bd x2 0 2 := by
            rintro ⟨j, rfl, -, hj⟩
            have : j = 0 ∨ j = 1 ∨ j = 2 := by omega
            rcases this with rfl | rfl | rfl
            · exact c0 rfl
            · exact c1 rfl
            · exact c2 rfl
          refine ⟨2, 0, I, up2 (up2 I 163 3 0) 163 3 2, L, L, Q, Q, ?_, ?_, Inv_t (Inv_t q0), up2_s _ _ _ _, fun e => absurd e (by decide)⟩
          · show F_L_state E (rr w 136) (nI s) x2 (rr w 164) (Hw E w I L Q) = _
            unfold F_L_state F_X11_state
            simp only [Option.bind_some, Option.map_some, Option.join, cI_r, cL_r, cV_r, xI_r, xL_r, xV_r, xI_t, xL_t, xV_t, lt_r, rtZ_0, rtZ_1, rtZ_zb, o136, f_needState e1 (show c 1 < 2 ^ 28 by omega), nd_t p1, if_neg c0, if_neg c1, if_neg c2, if_true]
          · show F_X12_state E (rr w 163) (nI s) x2 _ = _
            unfold F_X12_state
            simp only [Option.bind_some, Option.map_some, Option.join, cI_r, cL_r, cV_r, xI_r, xL_r, xV_r, xI_t, xL_t, xV_t, lt_r, rtZ_0, rtZ_1, rtZ_zb, pf163_3, o163, f_isState k1' (show c 1 < 2 ^ 28 by omega), zn_t p1, f_wi 2 (by decide) (show (nI 2).toInt64 = 2 by rfl), zn_f pw, f_fails]
  · refine ⟨1, 0, I, up2 (up2 I 163 3 0) 163 3 1, L, L, Q, Q, ?_, ?_, Inv_t (Inv_t q0), up2_s _ _ _ _, fun e => absurd e (by decide)⟩
    · show F_L_state E (rr w 136) x1 x2 (rr w 164) (Hw E w I L Q) = _
      unfold F_L_state F_X11_state
      simp only [Option.bind_some, Option.map_some, Option.join, cI_r, cL_r, cV_r, xI_r, xL_r, xV_r, xI_t, xL_t, xV_t, lt_r, rtZ_0, rtZ_1, rtZ_zb, o136, f_needState e1 (show c 1 < 2 ^ 28 by omega), nd_f p1, String.reduceEq, if_false, if_true]
    · show F_X12_state E (rr w 163) x1 x2 _ = _
      unfold F_X12_state
      simp only [Option.bind_some, Option.map_some, Option.join, cI_r, cL_r, cV_r, xI_r, xL_r, xV_r, xI_t, xL_t, xV_t, lt_r, rtZ_0, rtZ_1, rtZ_zb, pf163_3, o163, f_isState k1' (show c 1 < 2 ^ 28 by omega), zn_f p1, f_fails]
end
