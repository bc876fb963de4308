/-! way: the reference's search, the class' addWay, the invariant, the call -/
section
variable {E : Ev} {w : Wo} {I : Nat → Nat → Int32} {L : Nat → Nat → Int64} {Q : Nat → Nat → Option Nat} {c : Nat → Nat} {x y : Int32}
theorem m_joined {a b f t : Int32} {K : Hp → Rs} (hG : 100000 ≤ E.2.2.1) (q1 : Cts (I 137) c) : L_X12_way_89 E K (rr w 163) a b f t E.2.2.1 0 (Hw E w I L Q) = @ite _ (jnd (I 137) c a b f t) (Classical.propDecidable _) (rtI 0 (Hw E w (up2 I 163 3 2) L Q)) (K (Hw E w I L Q)) := by
  have k1 := q1 1 (by decide)
  simp only [mx] at k1
  have W : ∀ i, i < c 1 → F_X12_wayOf E (rr w 163) (nI i) 0 (Hw E w I L Q) = rtI (I 137 (90 + 6 * i)) (Hw E w I L Q) ∧ F_X12_wayOf E (rr w 163) (nI i) 1 (Hw E w I L Q) = rtI (I 137 (91 + 6 * i)) (Hw E w I L Q) ∧ F_X12_wayOf E (rr w 163) (nI i) 4 (Hw E w I L Q) = rtI (I 137 (94 + 6 * i)) (Hw E w I L Q) ∧ F_X12_wayOf E (rr w 163) (nI i) 5 (Hw E w I L Q) = rtI (I 137 (95 + 6 * i)) (Hw E w I L Q) := by
    intro i hi
    refine ⟨f_wayOf (k := 0) (by omega) (by decide), ?_, ?_, ?_⟩
    · rw [show 91 + 6 * i = 90 + 6 * i + 1 by omega]; exact f_wayOf (k := 1) (by omega) (by decide)
    · rw [show 94 + 6 * i = 90 + 6 * i + 4 by omega]; exact f_wayOf (k := 4) (by omega) (by decide)
    · rw [show 95 + 6 * i = 90 + 6 * i + 5 by omega]; exact f_wayOf (k := 5) (by omega) (by decide)
  refine srch (Lp := fun g i => L_X12_way_89 E K (rr w 163) a b f t g i (Hw E w I L Q)) (N := c 1) (c := fun v => samE (I 137) a b v ∧ I 137 (94 + 6 * v) ≤ t ∧ f ≤ I 137 (95 + 6 * v)) (R := fun _ => rtI 0 (Hw E w (up2 I 163 3 2) L Q)) (Z := K (Hw E w I L Q)) ?_ ?_ ?_ ?_ ?_ _ (by omega)
  all_goals try (intro g i hi _ hc)
  · obtain ⟨w0, w1, w4, w5⟩ := W i hi
    show L_X12_way_89 E K (rr w 163) a b f t (g + 1) (nI i) (Hw E w I L Q) = _
    rw [L_X12_way_89]
    unfold J_X12_way_122 J_X12_way_149
    simp only [Option.bind_some, Option.map_some, Option.join, cI_r, cL_r, cV_r, xI_r, xL_r, xV_r, xI_t, xL_t, xV_t, lt_r, rtZ_0, rtZ_1, rtZ_zb, gf163_0, ga137, show ix 1 2988 = some 1 from rfl, k1.1, if_neg (nI_ge hi (show c 1 < 2 ^ 31 by omega)), o163, w0, w1, w4, w5, if_true, if_false, show ¬ (1 : Int32) = 0 by decide, if_neg (Int32.not_lt.mpr hc.2.1), if_neg (Int32.not_lt.mpr hc.2.2), f_fails]
    rcases hc.1 with ⟨z1, z2⟩ | ⟨z1, z2⟩
    · rw [if_neg (not_not_intro z1), if_pos z2]
    · by_cases za : I 137 (90 + 6 * i) = a
      · rw [if_neg (not_not_intro za)]
        by_cases zb : I 137 (91 + 6 * i) = b
        · rw [if_pos zb]
        · rw [if_neg zb, if_neg (not_not_intro z1), if_neg (not_not_intro z2)]
      · rw [if_pos za, if_neg (not_not_intro z1), if_neg (not_not_intro z2)]
  · obtain ⟨w0, w1, w4, w5⟩ := W i hi
    show L_X12_way_89 E K (rr w 163) a b f t (g + 1) (nI i) (Hw E w I L Q) = L_X12_way_89 E K (rr w 163) a b f t g (nI i + 1) (Hw E w I L Q)
    rw [L_X12_way_89]
    unfold J_X12_way_122 J_X12_way_149
    simp only [Option.bind_some, Option.map_some, Option.join, cI_r, cL_r, cV_r, xI_r, xL_r, xV_r, xI_t, xL_t, xV_t, lt_r, rtZ_0, rtZ_1, rtZ_zb, gf163_0, ga137, show ix 1 2988 = some 1 from rfl, k1.1, if_neg (nI_ge hi (show c 1 < 2 ^ 31 by omega)), o163, w0, w1, w4, w5, if_true, if_false, show ¬ (1 : Int32) = 0 by decide, f_fails]
    by_cases hs : samE (I 137) a b i
    · have tl : ∀ X Y : Rs, (if I 137 (95 + 6 * i) < f then X else if t < I 137 (94 + 6 * i) then X else Y) = X := by
        intro X Y
        by_cases c2 : I 137 (95 + 6 * i) < f
        · rw [if_pos c2]
        · by_cases c1 : t < I 137 (94 + 6 * i)
          · rw [if_neg c2, if_pos c1]
          · exact absurd ⟨hs, Int32.not_lt.mp c1, Int32.not_lt.mp c2⟩ hc
      rw [tl]
      rcases hs with ⟨z1, z2⟩ | ⟨z1, z2⟩
      · rw [if_neg (not_not_intro z1), if_pos z2]
      · by_cases za : I 137 (90 + 6 * i) = a
        · rw [if_neg (not_not_intro za)]
          by_cases zb : I 137 (91 + 6 * i) = b
          · rw [if_pos zb]
          · rw [if_neg zb, if_neg (not_not_intro z1), if_neg (not_not_intro z2)]
        · rw [if_pos za, if_neg (not_not_intro z1), if_neg (not_not_intro z2)]
    · have tl : ∀ X Y : Rs, (if ¬ I 137 (90 + 6 * i) = b then X else if ¬ I 137 (91 + 6 * i) = a then X else Y) = X := by
        intro X Y
        by_cases z1 : I 137 (90 + 6 * i) = b
        · rw [if_neg (not_not_intro z1), if_pos (fun z2 => hs (Or.inr ⟨z1, z2⟩))]
        · rw [if_pos z1]
      rw [tl]
      by_cases za : I 137 (90 + 6 * i) = a
      · rw [if_neg (not_not_intro za), if_neg (fun zb => hs (Or.inl ⟨za, zb⟩))]
      · rw [if_pos za]
  · intro g hn
    show L_X12_way_89 E K (rr w 163) a b f t (g + 1) (nI (c 1)) (Hw E w I L Q) = _
    rw [L_X12_way_89]
    simp only [Option.bind_some, Option.map_some, Option.join, cI_r, cL_r, cV_r, xI_r, xL_r, xV_r, xI_t, xL_t, xV_t, lt_r, rtZ_0, rtZ_1, rtZ_zb, gf163_0, ga137, show ix 1 2988 = some 1 from rfl, k1.1, if_pos (nI_le (Nat.le_refl (c 1)) (show c 1 < 2 ^ 31 by omega))]
  · intro i hi _ hc
    rw [if_pos ⟨i, hi, hc⟩]
  · intro hn
    rw [if_neg (fun ⟨p, hp, e⟩ => hn p hp e)]
theorem f_addWay {a b n : Nat} {x3 x4 x5 x6 : Int32} (hn : I 0 3 = nI n) (h6 : n < 60) (ha : a < 40) (hb : b < 40) : F_X3_addWay E (rr w 0) (nI a) (nI b) x3 x4 x5 x6 (Hw E w I L Q) = rtI (nI n) (Hw E w (up2 (up2 (up2 (up2 (up2 (up2 (up2 (up2 (up2 (up2 (up2 (up2 (up2 I 3 (n) (x3)) 4 (n) (x4)) 5 (n) (x5)) 6 (n) (x6)) 7 (4 * n) (nI b)) 7 (4 * n + 1) (nI a)) 7 (4 * n + 2) (nI a)) 7 (4 * n + 3) (nI b)) 8 (2 * n) (I 1 b - I 1 a)) 9 (2 * n) (I 2 b - I 2 a)) 8 (2 * n + 1) (I 1 a - I 1 b)) 9 (2 * n + 1) (I 2 a - I 2 b)) 0 (3) (nI (n + 1))) L Q) := by
  unfold F_X3_addWay
  have i0 : ix ((4 : Int32) * nI n) 240 = some (4 * n) := by rw [n4, pk_mul]; exact ix_n (by omega) (by decide)
  have i1 : ix ((4 : Int32) * nI n + 1) 240 = some (4 * n + 1) := by rw [n4, pk_mul, nI_1]; exact ix_n (by omega) (by decide)
  have i2 : ix ((4 : Int32) * nI n + 2) 240 = some (4 * n + 2) := by rw [n4, n2, pk_mul, nI_add]; exact ix_n (by omega) (by decide)
  have i3 : ix ((4 : Int32) * nI n + 3) 240 = some (4 * n + 3) := by rw [n4, n3, pk_mul, nI_add]; exact ix_n (by omega) (by decide)
  have j0 : ix ((2 : Int32) * nI n) 120 = some (2 * n) := by rw [n2, pk_mul]; exact ix_n (by omega) (by decide)
  have j1 : ix ((2 : Int32) * nI n + 1) 120 = some (2 * n + 1) := by rw [n2, pk_mul, nI_1]; exact ix_n (by omega) (by decide)
  simp only [Option.bind_some, Option.map_some, Option.join, cI_r, cL_r, cV_r, xI_r, xL_r, xV_r, xI_t, xL_t, xV_t, lt_r, rtZ_0, rtZ_1, rtZ_zb, o0, gf0_0, pf0_0, gf0_1, gf0_2, gf0_3, pf0_3, gf0_4, gf0_5, gf0_6, gf0_7, gf0_8, gf0_9, gf0_10, gf0_11, pf0_11, gf0_12, gf0_13, gf0_14, gf0_15, gf0_16, ga1, pa1, ga2, pa2, ga3, pa3, ga4, pa4, ga5, pa5, ga6, pa6, ga7, pa7, ga8, pa8, ga9, pa9, hn, if_pos (show nI n < (60 : Int32) from nI_lt h6 (by decide)), ix_n h6 (show 60 < 2 ^ 31 by decide), ix_n ha (show 40 < 2 ^ 31 by decide), ix_n hb (show 40 < 2 ^ 31 by decide), i0, i1, i2, i3, j0, j1, up2_lit, Nat.reduceEqDiff, Nat.one_ne_zero, Nat.zero_ne_one, false_and, and_false, true_and, and_true, if_false, if_true, reduceIte, nI_1]
theorem f_addWayF {a b x3 x4 x5 x6 : Int32} (hn : I 0 3 = nI 60) : F_X3_addWay E (rr w 0) a b x3 x4 x5 x6 (Hw E w I L Q) = rtI (-1) (Hw E w I L Q) := by
  unfold F_X3_addWay
  simp only [Option.bind_some, Option.map_some, Option.join, cI_r, cL_r, cV_r, xI_r, xL_r, xV_r, xI_t, xL_t, xV_t, lt_r, rtZ_0, rtZ_1, rtZ_zb, o0, gf0_0, pf0_0, gf0_1, gf0_2, gf0_3, pf0_3, gf0_4, gf0_5, gf0_6, gf0_7, gf0_8, gf0_9, gf0_10, gf0_11, pf0_11, gf0_12, gf0_13, gf0_14, gf0_15, gf0_16, hn, if_neg (show ¬ nI 60 < (60 : Int32) from nI_nlt (Nat.le_refl 60) (by decide))]
theorem inv_way {a b : Nat} {x3 x4 x5 x6 : Int32} {v : Int64} (q0 : Inv w I L Q) (q1 : WfT (I 137) c) (q2 : LandR I (I 137) c) (q3 : FolkR (fun j => I (15 + j)) (I 137) c) (q4 : BookR (fun j => I (22 + j)) (I 137) c) (q5 : MapR I L (I 137) c) (hlt : c 1 < 60) (ha : a < c 0) (hb : b < c 0) (hab : a ≠ b) (b3 : bd x3 0 2) (b4 : bd x4 1 99) (b5 : yrs x5 x6) : Inv w (up2 (up2 (up2 (up2 (up2 (up2 (up2 (up2 (up2 (up2 (up2 (up2 (up2 (up2 (up2 (up2 (up2 (up2 (up2 (up2 (up2 (up2 (up2 (up2 (up2 I 32 (1) (0)) 32 (2) (-1)) 32 (3) (1)) 3 (c 1) (x3)) 4 (c 1) (x4)) 5 (c 1) (x5)) 6 (c 1) (x6)) 7 (4 * c 1) (nI b)) 7 (4 * c 1 + 1) (nI a)) 7 (4 * c 1 + 2) (nI a)) 7 (4 * c 1 + 3) (nI b)) 8 (2 * c 1) (I 1 b - I 1 a)) 9 (2 * c 1) (I 2 b - I 2 a)) 8 (2 * c 1 + 1) (I 1 a - I 1 b)) 9 (2 * c 1 + 1) (I 2 a - I 2 b)) 0 (3) (nI (c 1 + 1))) 163 (3) (0)) 163 (4) (-1)) 137 (1) (nI (c 1 + 1))) 137 (90 + 6 * c 1) (nI a)) 137 (91 + 6 * c 1) (nI b)) 137 (92 + 6 * c 1) (x3)) 137 (93 + 6 * c 1) (x4)) 137 (94 + 6 * c 1) (x5)) 137 (95 + 6 * c 1) (x6)) (up2 L 164 0 v) Q := by
  have k0 : c 0 ≤ 40 := (q1.1 0 (by decide)).2
  generalize e2 : up2 (up2 (up2 (up2 (up2 (up2 (up2 (up2 (up2 (up2 (up2 (up2 (up2 (up2 (up2 (up2 (up2 (up2 (up2 (up2 (up2 (up2 (up2 (up2 (up2 I 32 (1) (0)) 32 (2) (-1)) 32 (3) (1)) 3 (c 1) (x3)) 4 (c 1) (x4)) 5 (c 1) (x5)) 6 (c 1) (x6)) 7 (4 * c 1) (nI b)) 7 (4 * c 1 + 1) (nI a)) 7 (4 * c 1 + 2) (nI a)) 7 (4 * c 1 + 3) (nI b)) 8 (2 * c 1) (I 1 b - I 1 a)) 9 (2 * c 1) (I 2 b - I 2 a)) 8 (2 * c 1 + 1) (I 1 a - I 1 b)) 9 (2 * c 1 + 1) (I 2 a - I 2 b)) 0 (3) (nI (c 1 + 1))) 163 (3) (0)) 163 (4) (-1)) 137 (1) (nI (c 1 + 1))) 137 (90 + 6 * c 1) (nI a)) 137 (91 + 6 * c 1) (nI b)) 137 (92 + 6 * c 1) (x3)) 137 (93 + 6 * c 1) (x4)) 137 (94 + 6 * c 1) (x5)) 137 (95 + 6 * c 1) (x6) = I2
  have hrow : ∀ k, k ≠ 32 → k ≠ 3 → k ≠ 4 → k ≠ 5 → k ≠ 6 → k ≠ 7 → k ≠ 8 → k ≠ 9 → k ≠ 0 → k ≠ 163 → k ≠ 137 → I2 k = I k := by
    intro k z32 z3 z4 z5 z6 z7 z8 z9 z0 z163 z137; funext i; subst e2; simp only [up2_lit, z32, z3, z4, z5, z6, z7, z8, z9, z0, z163, z137, false_and, if_false]
  have r32 : ∀ i, I2 32 i = if i = 3 then 1 else if i = 2 then -1 else if i = 1 then 0 else I 32 i := by
    intro i; subst e2; simp only [up2_lit, Nat.reduceEqDiff, false_and, true_and, if_false]
  have r3 : ∀ i, I2 3 i = if i = c 1 then x3 else I 3 i := by
    intro i; subst e2; simp only [up2_lit, Nat.reduceEqDiff, false_and, true_and, if_false]
  have r4 : ∀ i, I2 4 i = if i = c 1 then x4 else I 4 i := by
    intro i; subst e2; simp only [up2_lit, Nat.reduceEqDiff, false_and, true_and, if_false]
  have r5 : ∀ i, I2 5 i = if i = c 1 then x5 else I 5 i := by
    intro i; subst e2; simp only [up2_lit, Nat.reduceEqDiff, false_and, true_and, if_false]
  have r6 : ∀ i, I2 6 i = if i = c 1 then x6 else I 6 i := by
    intro i; subst e2; simp only [up2_lit, Nat.reduceEqDiff, false_and, true_and, if_false]
  have r7 : ∀ i, I2 7 i = if i = 4 * c 1 + 3 then nI b else if i = 4 * c 1 + 2 then nI a else if i = 4 * c 1 + 1 then nI a else if i = 4 * c 1 then nI b else I 7 i := by
    intro i; subst e2; simp only [up2_lit, Nat.reduceEqDiff, false_and, true_and, if_false]
  have r8 : ∀ i, I2 8 i = if i = 2 * c 1 + 1 then I 1 a - I 1 b else if i = 2 * c 1 then I 1 b - I 1 a else I 8 i := by
    intro i; subst e2; simp only [up2_lit, Nat.reduceEqDiff, false_and, true_and, if_false]
  have r9 : ∀ i, I2 9 i = if i = 2 * c 1 + 1 then I 2 a - I 2 b else if i = 2 * c 1 then I 2 b - I 2 a else I 9 i := by
    intro i; subst e2; simp only [up2_lit, Nat.reduceEqDiff, false_and, true_and, if_false]
  have r0 : ∀ i, I2 0 i = if i = 3 then nI (c 1 + 1) else I 0 i := by
    intro i; subst e2; simp only [up2_lit, Nat.reduceEqDiff, false_and, true_and, if_false]
  have r163 : ∀ i, I2 163 i = if i = 4 then -1 else if i = 3 then 0 else I 163 i := by
    intro i; subst e2; simp only [up2_lit, Nat.reduceEqDiff, false_and, true_and, if_false]
  have r137 : ∀ i, I2 137 i = if i = 95 + 6 * c 1 then x6 else if i = 94 + 6 * c 1 then x5 else if i = 93 + 6 * c 1 then x4 else if i = 92 + 6 * c 1 then x3 else if i = 91 + 6 * c 1 then nI b else if i = 90 + 6 * c 1 then nI a else if i = 1 then nI (c 1 + 1) else I 137 i := by
    intro i; subst e2; simp only [up2_lit, Nat.reduceEqDiff, false_and, true_and, if_false]
  clear e2
  refine sec_1 (c2 := (fun i => if i = 1 then c 1 + 1 else c i)) q0 q1.1 q1 q2 q3 q4 q5 (fun k hk => hrow k (by omega) (by omega) (by omega) (by omega) (by omega) (by omega) (by omega) (by omega) (by omega) (by omega) (by omega)) (fun i hi => by rw [r163]; (repeat rw [if_neg (by omega)])) (by rw [r163]; rfl) (fun k hk => up2_row L _ (by omega)) (fun i h1 h2 => if_neg h2) (Nat.le_trans (Nat.le_succ _) (Nat.le_of_eq (if_pos rfl).symm)) (by show (if 1 = 1 then c 1 + 1 else c 1) ≤ mx 1; rw [if_pos rfl]; exact hlt) (fun i h1 h2 => by rw [r137]; (repeat rw [if_neg (by omega)])) (by rw [r137]; (repeat rw [if_neg (by omega)]); rw [if_pos rfl]; rfl) (fun k h1 g0 g1 g2 g3 g4 g5 g6 g7 => hrow k (by omega) (by omega) (by omega) (by omega) (by omega) (by omega) (by omega) (by omega) (by omega) (by omega) (by omega)) (fun f hf => by rw [r0, if_neg hf]) (by rw [r0, if_pos rfl]; rfl) ?_ ?_ ?_
  all_goals have hold : ∀ i, i ≠ 1 → i < 90 + 6 * c 1 → I2 137 i = I 137 i := fun i h1 h2 => by rw [r137]; (repeat rw [if_neg (by omega)])
  all_goals have n0 : I2 137 (90 + 6 * c 1) = nI a := by rw [r137]; (repeat rw [if_neg (by omega)]); rw [if_pos rfl]
  all_goals have n1 : I2 137 (91 + 6 * c 1) = nI b := by rw [r137]; (repeat rw [if_neg (by omega)]); rw [if_pos rfl]
  all_goals have n2 : I2 137 (92 + 6 * c 1) = x3 := by rw [r137]; (repeat rw [if_neg (by omega)]); rw [if_pos rfl]
  all_goals have n3 : I2 137 (93 + 6 * c 1) = x4 := by rw [r137]; (repeat rw [if_neg (by omega)]); rw [if_pos rfl]
  all_goals have n4 : I2 137 (94 + 6 * c 1) = x5 := by rw [r137]; (repeat rw [if_neg (by omega)]); rw [if_pos rfl]
  all_goals have n5 : I2 137 (95 + 6 * c 1) = x6 := by rw [r137, if_pos rfl]
  · intro j hj
    have hj : j < c 1 + 1 := hj
    by_cases e : j = c 1
    · subst e
      unfold WfV
      rw [n0, n1, n2, n3, n4, n5]
      exact ⟨⟨a, rfl, ha⟩, ⟨b, rfl, hb⟩, fun e => hab ((nI_eq (by omega) (by omega)).mp e), b3, b4, b5⟩
    · have z := q1.2.2.1 j (by omega)
      unfold WfV at *
      rw [hold (90 + 6 * j) (by omega) (by omega), hold (91 + 6 * j) (by omega) (by omega), hold (92 + 6 * j) (by omega) (by omega), hold (93 + 6 * j) (by omega) (by omega), hold (94 + 6 * j) (by omega) (by omega), hold (95 + 6 * j) (by omega) (by omega)]
      exact z
  · intro j hj
    have hj : j < c 1 + 1 := hj
    unfold LandV
    by_cases e : j = c 1
    · subst e
      have ta : tn (nI a) = a := nI_clamp (by omega)
      have tb : tn (nI b) = b := nI_clamp (by omega)
      have pa := q2.1.2 a ha
      have pb := q2.1.2 b hb
      rw [n0, n1, n2, n3, n4, n5, ta, tb, hold (10 + 2 * a) (by omega) (by omega), hold (10 + 2 * b) (by omega) (by omega), hold (11 + 2 * a) (by omega) (by omega), hold (11 + 2 * b) (by omega) (by omega), r3, if_pos rfl, r4, if_pos rfl, r5, if_pos rfl, r6, if_pos rfl, ← pa.1, ← pa.2, ← pb.1, ← pb.2]
      refine ⟨rfl, rfl, rfl, rfl, ?_, ?_, ?_, ?_, ?_, ?_, ?_, ?_⟩
      all_goals first | rw [r7] | rw [r8] | rw [r9]
      all_goals (repeat rw [if_neg (by omega)])
      all_goals rw [if_pos rfl]
    · have z := q2.2.1.2 j (by omega)
      have hw := q1.2.2.1 j (by omega)
      have a1 := bl_tn (by omega) hw.1
      have a2 := bl_tn (by omega) hw.2.1
      unfold LandV at z
      rw [hold (90 + 6 * j) (by omega) (by omega), hold (91 + 6 * j) (by omega) (by omega), hold (92 + 6 * j) (by omega) (by omega), hold (93 + 6 * j) (by omega) (by omega), hold (94 + 6 * j) (by omega) (by omega), hold (95 + 6 * j) (by omega) (by omega), hold (10 + 2 * tn (I 137 (90 + 6 * j))) (by omega) (by omega), hold (10 + 2 * tn (I 137 (91 + 6 * j))) (by omega) (by omega), hold (11 + 2 * tn (I 137 (90 + 6 * j))) (by omega) (by omega), hold (11 + 2 * tn (I 137 (91 + 6 * j))) (by omega) (by omega), r3, if_neg e, r4, if_neg e, r5, if_neg e, r6, if_neg e]
      rw [show I2 7 (4 * j) = I 7 (4 * j) by rw [r7]; (repeat rw [if_neg (by omega)]), show I2 7 (4 * j + 1) = I 7 (4 * j + 1) by rw [r7]; (repeat rw [if_neg (by omega)]), show I2 7 (4 * j + 2) = I 7 (4 * j + 2) by rw [r7]; (repeat rw [if_neg (by omega)]), show I2 7 (4 * j + 3) = I 7 (4 * j + 3) by rw [r7]; (repeat rw [if_neg (by omega)])]
      rw [show I2 8 (2 * j) = I 8 (2 * j) by rw [r8]; (repeat rw [if_neg (by omega)]), show I2 8 (2 * j + 1) = I 8 (2 * j + 1) by rw [r8]; (repeat rw [if_neg (by omega)]), show I2 9 (2 * j) = I 9 (2 * j) by rw [r9]; (repeat rw [if_neg (by omega)]), show I2 9 (2 * j + 1) = I 9 (2 * j + 1) by rw [r9]; (repeat rw [if_neg (by omega)])]
      exact z
  · exact MapR_f (by rw [r32]; (repeat rw [if_neg (by omega)]); rw [if_pos rfl]) (by rw [r32]; (repeat rw [if_neg (by omega)]); rw [if_pos rfl]) (by rw [r32, if_pos rfl])
end
