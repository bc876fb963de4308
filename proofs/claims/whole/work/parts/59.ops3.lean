/-! walker, mark: the calls -/
section
variable {E : Ev} {w : Wo} {I : Nat → Nat → Int32} {L : Nat → Nat → Int64} {Q : Nat → Nat → Option Nat} {c : Nat → Nat} {x y : Int32}
theorem bd_ref2 {x : Int32} {a b : Nat} (ha : a < 2 ^ 31) (hb : b < 2 ^ 31) : (nI a ≤ x ∧ x ≤ nI b) ↔ bd x a b := by
  constructor
  · rintro ⟨h1, h2⟩
    obtain ⟨j, hj, rfl⟩ := nI_of (Int32.not_lt.mpr (Int32.le_trans (nI_pos' ha) h1))
    exact ⟨j, rfl, (nI_leI ha hj).mp h1, (nI_leI hj hb).mp h2⟩
  · rintro ⟨j, rfl, h1, h2⟩; exact ⟨nI_le h1 (by omega), nI_le h2 hb⟩
theorem f_wi2 {h : Hp} (a b : Nat) {m k : Int64} (ha : a < 2 ^ 31) (hb : b < 2 ^ 31) (hk : (nI a).toInt64 = k) (hm : (nI b).toInt64 = m) : F_X12_within E x.toInt64 k m h = rtI (zb (bd x a b)) h := by
  rw [wi_t, ← hk, ← hm, i64_le, i64_le, bd_ref2 ha hb]
theorem yrs_iff {a b : Int32} : yrs a b ↔ ¬ a < 0 ∧ ¬ 200 < b ∧ a ≤ b := by
  constructor
  · rintro ⟨f, t, rfl, rfl, h1, h2⟩; exact ⟨nI_pos (by omega), by rw [n200]; exact nI_nlt h2 (by decide), nI_le h1 (by omega)⟩
  · rintro ⟨h1, h2, h3⟩
    obtain ⟨f, hf, rfl⟩ := nI_of h1
    obtain ⟨t, ht, rfl⟩ := nI_of (x := b) (fun e => h1 (Int32.lt_of_le_of_lt h3 e))
    exact ⟨f, t, rfl, rfl, (nI_leI hf ht).mp h3, by have := (nI_leI ht (show 200 < 2 ^ 31 by decide)).mp (Int32.not_lt.mp h2); omega⟩
theorem yrs_ref {a b : Int32} : yrs a b ↔ bd a 0 200 ∧ (a ≤ b ∧ b ≤ 200) := by
  rw [yrs_iff, bd_iff (by decide)]
  constructor
  · rintro ⟨h1, h2, h3⟩; exact ⟨⟨h1, fun e => h2 (Int32.lt_of_lt_of_le e h3)⟩, h3, Int32.not_lt.mp h2⟩
  · rintro ⟨⟨h1, -⟩, h3, h2⟩; exact ⟨h1, Int32.not_lt.mpr h2, h3⟩
theorem f_needYears {a b : Int32} {h : Hp} : F_X11_needYears E (rr w 136) a b h = nd (yrs a b) "java/lang/IllegalArgumentException" h := by
  unfold F_X11_needYears
  by_cases p : yrs a b
  · rw [nd_t p]; have z := yrs_iff.mp p
    rw [if_neg z.1, if_neg z.2.1, if_pos z.2.2]
  · rw [nd_f p]
    by_cases c1 : a < 0
    · rw [if_pos c1]
    · rw [if_neg c1]
      by_cases c2 : 200 < b
      · rw [if_pos c2]
      · rw [if_neg c2, if_neg (fun e => p (yrs_iff.mpr ⟨c1, c2, e⟩))]
theorem f_wi3 {a b : Int32} {h : Hp} : F_X12_within E b.toInt64 a.toInt64 200 h = rtI (zb (a ≤ b ∧ b ≤ 200)) h := by
  rw [wi_t, i64_le, i64_r 200 (show (200 : Int32).toInt64 = 200 by rfl)]
theorem Inv_fg (q : Inv w I L Q) : Inv w (up2 (up2 (up2 I 32 1 0) 32 2 (-1)) 32 3 1) L Q := by
  obtain ⟨c, q1, q2, q3, q4, q5, q6, q7, q8, q9, q10, q11, q12, q13⟩ := q
  have hr : ∀ k, k ≠ 32 → (up2 (up2 (up2 I 32 1 0) 32 2 (-1)) 32 3 1) k = I k := fun k hk => by rw [up2_row _ _ hk, up2_row _ _ hk, up2_row _ _ hk]
  have hT := hr 137 (by decide)
  refine ⟨c, by rw [hT]; exact q1, by rw [hT]; exact LandR_c (fun j hj => hr j (by omega)) q2, by rw [hT]; exact FolkR_c (fun j hj => hr (15 + j) (by omega)) q3, by rw [hT]; exact BookR_c (fun j hj => hr (22 + j) (by omega)) q4, MapR_f (by simp only [up2_lit, Nat.reduceEqDiff, and_false, and_self, if_false, if_true]) (by simp only [up2_lit, Nat.reduceEqDiff, and_false, and_self, if_false, if_true]) (up2_s _ _ _ _), by rw [hT]; exact RefR_c (by rw [hr 163 (by decide)]) (hr 142 (by decide)) rfl rfl q6, StepsR_c (hr 48 (by decide)) (hr 49 (by decide)) (hr 51 (by decide)) rfl rfl q7, q8, q9, q10, ReadR_c (fun f _ _ => by rw [hr 121 (by decide)]) (hr 122 (by decide)) (hr 144 (by decide)) (by rw [hr 163 (by decide)]) (by rw [hr 163 (by decide)]) (by rw [hr 163 (by decide)]) q11, fun t ht => TrayR_c (hr _ (by omega)) (hr 160 (by decide)) (hr 161 (by decide)) rfl rfl (q12 t ht), fun i hi => ImgR_c (hr 138 (by decide)) (hr 139 (by decide)) (fun j hj => hr _ (by omega)) (q13 i hi)⟩
theorem op_walker (q : Inv w I L Q) (x1 x2 x3 x4 x5 : Int32) (b3 : x3 = 0 ∨ x3 = 1) (b4 : x4 = 0 ∨ x4 = 1) : OpI E w (fun h => F_L_walker E (rr w 136) x1 x2 x3 x4 x5 (rr w 164) h) (fun h => F_X12_walker E (rr w 163) x1 x2 x3 x4 x5 h) I L Q := by
  have q0 := q
  obtain ⟨c, q1, q2, q3, q4, q5, -⟩ := q
  have k3 := q1.1 3 (by decide)
  have k4 := q1.1 4 (by decide)
  simp only [mx] at k3 k4
  have e3 : I 15 0 = nI (c 3) := q3.1.1.trans k3.1
  have e4 : I 15 2 = nI (c 4) := q3.2.1.1.trans k4.1
  have k3' : (up2 I 163 3 0) 137 3 = nI (c 3) := k3.1
  have f3 : F_X12_is E (rr w 163) 3 x1 (Hw E w (up2 I 163 3 0) L Q) = rtI (zb (bl x1 (c 3))) _ := f_is (s := 3) (by decide) k3' (by omega)
  have cls : ∀ h : Hp, ¬ bd x5 1 20 → (if x5 < (1 : Int32) then thr "java/lang/IllegalArgumentException" h else if x5 ≤ (20 : Int32) then (gfR h (rr w 136) 11 1).bind fun v32 => (isO h v32 2).bind fun _ => cI (F_X2_addWalker E v32 x1 x2 x3 x4 x5 h) fun v42 h42 => rtI v42 h42 else thr "java/lang/IllegalArgumentException" h) = thr "java/lang/IllegalArgumentException" h := by
    intro h hb
    by_cases c1 : x5 < 1
    · rw [if_pos c1]
    · have c2 : ¬ x5 ≤ 20 := fun e => hb ((bd_ref2 (by decide) (by decide)).mp ⟨Int32.not_lt.mp c1, e⟩)
      rw [if_neg c1, if_neg c2]
  by_cases p1 : bl x1 (c 3)
  · by_cases p2 : bd x2 0 4095
    · by_cases p5 : bd x5 1 20
      · have z5 := (bd_ref2 (by decide) (by decide)).mpr p5
        have z51 : ¬ x5 < 1 := Int32.not_lt.mpr z5.1
        have z52 : x5 ≤ 20 := z5.2
        by_cases hf : c 4 = 8
        · refine ⟨0, -1, I, up2 I 163 3 0, up2 L 164 0 (-1), up2 L 164 0 (-1), Q, Q, ?_, ?_, Inv_t (Inv_o q0), up2_s _ _ _ _, fun _ => up2_s _ _ _ _⟩
          · show F_L_walker E (rr w 136) x1 x2 x3 x4 x5 (rr w 164) (Hw E w I L Q) = _
            unfold F_L_walker F_X11_walker
            simp only [Option.bind_some, Option.map_some, Option.join, cI_r, cL_r, cV_r, xI_r, xL_r, xV_r, xI_t, xL_t, xV_t, lt_r, rtZ_0, rtZ_1, rtZ_zb, o136, o15, f_needTongue e3 (show c 3 < 2 ^ 31 by omega), nd_t p1, f_needKinds, nd_t p2, if_neg z51, if_pos z52, gf136_1, f_addWalkerF (e4.trans (by rw [hf])), pa164, ix01]
            rfl
          · show F_X12_walker E (rr w 163) x1 x2 x3 x4 x5 _ = _
            unfold F_X12_walker
            have f3' : F_X12_is E (rr w 163) 3 x1 (Hw E w (up2 I 163 3 0) (up2 L 164 0 (-1)) Q) = rtI (zb (bl x1 (c 3))) _ := f_is (s := 3) (by decide) k3' (by omega)
            have k4' : (up2 I 163 3 0) 137 4 = 8 := k4.1.trans (by rw [hf]; rfl)
            simp only [Option.bind_some, Option.map_some, Option.join, cI_r, cL_r, cV_r, xI_r, xL_r, xV_r, xI_t, xL_t, xV_t, lt_r, rtZ_0, rtZ_1, rtZ_zb, pf163_3, o163, f3', zn_t p1, f_wi 4095 (by decide) (show (nI 4095).toInt64 = 4095 by rfl), zi_t p2, f_wi2 1 20 (by decide) (by decide) (show (nI 1).toInt64 = 1 by rfl) (show (nI 20).toInt64 = 20 by rfl), zn_t p5, gf163_0, ga137, show ix 4 2988 = some 4 from rfl, k4', not_true_eq_false, if_false]
        · have h3 : c 4 < 8 := by omega
          refine ⟨0, nI (c 4), up2 (up2 (up2 (up2 (up2 (up2 I 17 (c 4) x1) 18 (c 4) x2) 19 (c 4) x3) 20 (c 4) x4) 21 (c 4) x5) 15 2 (nI (c 4 + 1)), _, up2 L 164 0 (nI (c 4)).toInt64, up2 L 164 0 (nI (c 4)).toInt64, Q, Q, ?_, ?_, inv_walker (v := (nI (c 4)).toInt64) q0 q1 q2 q3 q4 q5 h3 p1 p2 (bl2 b3) (bl2 b4) p5, ?_, fun _ => up2_s _ _ _ _⟩
          · show F_L_walker E (rr w 136) x1 x2 x3 x4 x5 (rr w 164) (Hw E w I L Q) = _
            unfold F_L_walker F_X11_walker
            simp only [Option.bind_some, Option.map_some, Option.join, cI_r, cL_r, cV_r, xI_r, xL_r, xV_r, xI_t, xL_t, xV_t, lt_r, rtZ_0, rtZ_1, rtZ_zb, o136, o15, f_needTongue e3 (show c 3 < 2 ^ 31 by omega), nd_t p1, f_needKinds, nd_t p2, if_neg z51, if_pos z52, gf136_1, f_addWalker e4 h3 b3 b4, pa164, ix01]
          · show F_X12_walker E (rr w 163) x1 x2 x3 x4 x5 _ = _
            generalize ea : up2 (up2 (up2 (up2 (up2 (up2 I 17 (c 4) x1) 18 (c 4) x2) 19 (c 4) x3) 20 (c 4) x4) 21 (c 4) x5) 15 2 (nI (c 4 + 1)) = J
            have hJ : J 137 = I 137 := by subst ea; rfl
            have k3'' : (up2 J 163 3 0) 137 3 = nI (c 3) := by rw [up2_row J 0 (by decide), hJ]; exact k3.1
            have k4'' : (up2 J 163 3 0) 137 4 = nI (c 4) := by rw [up2_row J 0 (by decide), hJ]; exact k4.1
            generalize eL : up2 L 164 0 (nI (c 4)).toInt64 = LL
            have f3' : F_X12_is E (rr w 163) 3 x1 (Hw E w (up2 J 163 3 0) LL Q) = rtI (zb (bl x1 (c 3))) _ := f_is (s := 3) (by decide) k3'' (by omega)
            have em : F_X12_more E (rr w 163) 4 (Hw E w (up2 J 163 3 0) LL Q) = _ := f_more (s := 4) (by decide) k4''
            have i0 : ix ((722 : Int32) + (5 : Int32) * nI (c 4)) 2988 = some (722 + 5 * c 4) := by rw [n722, n5, pk_mul, nI_add]; exact ix_n (by omega) (by decide)
            have i1 : ix ((722 : Int32) + (5 : Int32) * nI (c 4) + 1) 2988 = some (723 + 5 * c 4) := by rw [n722, n5, pk_mul, nI_add, nI_1, show 722 + 5 * c 4 + 1 = 723 + 5 * c 4 by omega]; exact ix_n (by omega) (by decide)
            have i2 : ix ((722 : Int32) + (5 : Int32) * nI (c 4) + 2) 2988 = some (724 + 5 * c 4) := by rw [n722, n5, n2, pk_mul, nI_add, nI_add, show 722 + 5 * c 4 + 2 = 724 + 5 * c 4 by omega]; exact ix_n (by omega) (by decide)
            have i3 : ix ((722 : Int32) + (5 : Int32) * nI (c 4) + 3) 2988 = some (725 + 5 * c 4) := by rw [n722, n5, n3, pk_mul, nI_add, nI_add, show 722 + 5 * c 4 + 3 = 725 + 5 * c 4 by omega]; exact ix_n (by omega) (by decide)
            have i4 : ix ((722 : Int32) + (5 : Int32) * nI (c 4) + 4) 2988 = some (726 + 5 * c 4) := by rw [n722, n5, n4, pk_mul, nI_add, nI_add, show 722 + 5 * c 4 + 4 = 726 + 5 * c 4 by omega]; exact ix_n (by omega) (by decide)
            have nf : ¬ nI (c 4) = 8 := fun e => hf ((nI_eq (by omega) (by decide)).mp e)
            unfold F_X12_walker
            simp only [Option.bind_some, Option.map_some, Option.join, cI_r, cL_r, cV_r, xI_r, xL_r, xV_r, xI_t, xL_t, xV_t, lt_r, rtZ_0, rtZ_1, rtZ_zb, pf163_3, o163, f3', zn_t p1, f_wi 4095 (by decide) (show (nI 4095).toInt64 = 4095 by rfl), zi_t p2, f_wi2 1 20 (by decide) (by decide) (show (nI 1).toInt64 = 1 by rfl) (show (nI 20).toInt64 = 20 by rfl), zn_t p5, gf163_0, ga137, show ix 4 2988 = some 4 from rfl, k4'', if_pos nf, em, pa137, i0, i1]
            unfold J_X12_walker_124 J_X12_walker_149
            rcases b3 with rfl | rfl <;> rcases b4 with rfl | rfl <;> simp only [Option.bind_some, Option.map_some, Option.join, cI_r, cL_r, cV_r, xI_r, xL_r, xV_r, xI_t, xL_t, xV_t, lt_r, rtZ_0, rtZ_1, rtZ_zb, if_true, show ¬ (1 : Int32) = 0 by decide, if_false, gf163_0, pa137, i2, i3, i4]
          · simp only [up2_lit, Nat.reduceEqDiff, false_and, true_and, if_false, if_true]
      · refine ⟨2, 0, I, up2 (up2 I 163 3 0) 163 3 2, L, L, Q, Q, ?_, ?_, Inv_t (Inv_t q0), up2_s _ _ _ _, fun e => absurd e (by decide)⟩
        · show F_L_walker E (rr w 136) x1 x2 x3 x4 x5 (rr w 164) (Hw E w I L Q) = _
          unfold F_L_walker F_X11_walker
          simp only [Option.bind_some, Option.map_some, Option.join, cI_r, cL_r, cV_r, xI_r, xL_r, xV_r, xI_t, xL_t, xV_t, lt_r, rtZ_0, rtZ_1, rtZ_zb, o136, f_needTongue e3 (show c 3 < 2 ^ 31 by omega), nd_t p1, f_needKinds, nd_t p2]
          rw [cls _ p5]
          simp only [Option.bind_some, Option.map_some, Option.join, cI_r, cL_r, cV_r, xI_r, xL_r, xV_r, xI_t, xL_t, xV_t, lt_r, rtZ_0, rtZ_1, rtZ_zb, if_true]
        · show F_X12_walker E (rr w 163) x1 x2 x3 x4 x5 _ = _
          unfold F_X12_walker
          simp only [Option.bind_some, Option.map_some, Option.join, cI_r, cL_r, cV_r, xI_r, xL_r, xV_r, xI_t, xL_t, xV_t, lt_r, rtZ_0, rtZ_1, rtZ_zb, pf163_3, o163, f3, zn_t p1, f_wi 4095 (by decide) (show (nI 4095).toInt64 = 4095 by rfl), zi_t p2, f_wi2 1 20 (by decide) (by decide) (show (nI 1).toInt64 = 1 by rfl) (show (nI 20).toInt64 = 20 by rfl), zn_f p5, f_fails]
    · refine ⟨2, 0, I, up2 (up2 I 163 3 0) 163 3 2, L, L, Q, Q, ?_, ?_, Inv_t (Inv_t q0), up2_s _ _ _ _, fun e => absurd e (by decide)⟩
      · show F_L_walker E (rr w 136) x1 x2 x3 x4 x5 (rr w 164) (Hw E w I L Q) = _
        unfold F_L_walker F_X11_walker
        simp only [Option.bind_some, Option.map_some, Option.join, cI_r, cL_r, cV_r, xI_r, xL_r, xV_r, xI_t, xL_t, xV_t, lt_r, rtZ_0, rtZ_1, rtZ_zb, o136, f_needTongue e3 (show c 3 < 2 ^ 31 by omega), nd_t p1, f_needKinds, nd_f p2, if_true]
      · show F_X12_walker E (rr w 163) x1 x2 x3 x4 x5 _ = _
        unfold F_X12_walker
        simp only [Option.bind_some, Option.map_some, Option.join, cI_r, cL_r, cV_r, xI_r, xL_r, xV_r, xI_t, xL_t, xV_t, lt_r, rtZ_0, rtZ_1, rtZ_zb, pf163_3, o163, f3, zn_t p1, f_wi 4095 (by decide) (show (nI 4095).toInt64 = 4095 by rfl), zi_f p2, f_fails]
  · refine ⟨1, 0, I, up2 (up2 I 163 3 0) 163 3 1, L, L, Q, Q, ?_, ?_, Inv_t (Inv_t q0), up2_s _ _ _ _, fun e => absurd e (by decide)⟩
    · show F_L_walker E (rr w 136) x1 x2 x3 x4 x5 (rr w 164) (Hw E w I L Q) = _
      unfold F_L_walker F_X11_walker
      simp only [Option.bind_some, Option.map_some, Option.join, cI_r, cL_r, cV_r, xI_r, xL_r, xV_r, xI_t, xL_t, xV_t, lt_r, rtZ_0, rtZ_1, rtZ_zb, o136, f_needTongue e3 (show c 3 < 2 ^ 31 by omega), nd_f p1, String.reduceEq, if_false, if_true]
    · show F_X12_walker E (rr w 163) x1 x2 x3 x4 x5 _ = _
      unfold F_X12_walker
      simp only [Option.bind_some, Option.map_some, Option.join, cI_r, cL_r, cV_r, xI_r, xL_r, xV_r, xI_t, xL_t, xV_t, lt_r, rtZ_0, rtZ_1, rtZ_zb, pf163_3, o163, f3, zn_f p1, f_fails]
end
