/-! calls that tell: means, walker, mark, went -/
section
variable {E : Ev} {w : Wo} {I : Nat → Nat → Int32} {L : Nat → Nat → Int64} {Q : Nat → Nat → Option Nat} {c : Nat → Nat} {x y : Int32}
theorem inv_means {t n : Nat} {x3 : Int32} {v : Int64} (q0 : Inv w I L Q) (q1 : WfT (I 137) c) (q2 : LandR I (I 137) c) (q3 : FolkR (fun j => I (15 + j)) (I 137) c) (q4 : BookR (fun j => I (22 + j)) (I 137) c) (q5 : MapR I L (I 137) c) (ht : t < c 3) (hn : n < 12) (hx : bd x3 0 4095) : Inv w (up2 (up2 (up2 (up2 I 16 (12 * t + n) (x3)) 163 (3) (0)) 163 (4) (-1)) 137 (650 + 12 * t + n) (x3)) (up2 L 164 0 v) Q := by
  have k3 : c 3 ≤ 6 := (q1.1 3 (by decide)).2
  generalize e2 : up2 (up2 (up2 (up2 I 16 (12 * t + n) (x3)) 163 (3) (0)) 163 (4) (-1)) 137 (650 + 12 * t + n) (x3) = I2
  have hrow : ∀ k, k ≠ 16 → k ≠ 163 → k ≠ 137 → I2 k = I k := by
    intro k z16 z163 z137; funext i; subst e2; simp only [up2_lit, z16, z163, z137, false_and, if_false]
  have r16 : ∀ i, I2 16 i = if i = 12 * t + n then x3 else I 16 i := by
    intro i; subst e2; simp only [up2_lit, Nat.reduceEqDiff, false_and, true_and, if_false]
  have r163 : ∀ i, I2 163 i = if i = 4 then -1 else if i = 3 then 0 else I 163 i := by
    intro i; subst e2; simp only [up2_lit, Nat.reduceEqDiff, false_and, true_and, if_false]
  have r137 : ∀ i, I2 137 i = if i = 650 + 12 * t + n then x3 else I 137 i := by
    intro i; subst e2; simp only [up2_lit, Nat.reduceEqDiff, false_and, true_and, if_false]
  clear e2
  refine sec_3 (c2 := c) q0 q1.1 q1 q2 q3 q4 q5 (fun k hk => hrow k (by omega) (by omega) (by omega)) (fun i hi => by rw [r163]; (repeat rw [if_neg (by omega)])) (by rw [r163]; rfl) (fun k hk => up2_row L _ (by omega)) (fun _ _ _ => rfl) (Nat.le_refl _) k3 (fun i h1 h2 => by rw [r137, if_neg (by omega)]) (by rw [r137, if_neg (by omega)]; exact (q1.1 3 (by decide)).1) (fun k h1 h2 h3 => hrow k h2 (by omega) (by omega)) (fun f _ => by rw [hrow 15 (by omega) (by omega) (by omega)]) (by rw [hrow 15 (by omega) (by omega) (by omega)]; exact q3.1.1.trans (q1.1 3 (by decide)).1) ?_ ?_ (hrow 32 (by omega) (by omega) (by omega)) (hrow 38 (by omega) (by omega) (by omega)) (fun k h1 h2 => up2_row L _ (by omega))
  · intro j hj m hm
    rw [r137]
    by_cases e : 650 + 12 * j + m = 650 + 12 * t + n
    · rw [if_pos e]; exact hx
    · rw [if_neg e]; exact q1.2.2.2.2.1 j hj m hm
  · intro j hj m hm
    rw [r137, r16]
    by_cases e : 12 * j + m = 12 * t + n
    · rw [if_pos e, if_pos (by omega)]
    · rw [if_neg e, if_neg (by omega)]; exact q3.1.2 j hj m hm
theorem op_means (q : Inv w I L Q) (x1 x2 x3 : Int32) : OpI E w (fun h => F_L_means E (rr w 136) x1 x2 x3 (rr w 164) h) (fun h => F_X12_means E (rr w 163) x1 x2 x3 h) I L Q := by
  have q0 := q
  obtain ⟨c, q1, q2, q3, q4, q5, -⟩ := q
  have h3 := q1.1 3 (by decide)
  simp only [mx] at h3
  have hn : I 15 0 = nI (c 3) := q3.1.1.trans h3.1
  have hn' : (up2 I 163 3 0) 137 3 = nI (c 3) := h3.1
  have bad1 : (¬ bl x1 (c 3) ∨ ¬ bl x2 12) → OpI E w (fun h => F_L_means E (rr w 136) x1 x2 x3 (rr w 164) h) (fun h => F_X12_means E (rr w 163) x1 x2 x3 h) I L Q := by
    intro hb
    refine ⟨1, 0, I, up2 (up2 I 163 3 0) 163 3 1, L, L, Q, Q, ?_, ?_, Inv_t (Inv_t q0), up2_s _ _ _ _, fun e => absurd e (by decide)⟩
    · show F_L_means E (rr w 136) x1 x2 x3 (rr w 164) (Hw E w I L Q) = _
      unfold F_L_means F_X11_means
      by_cases p1 : bl x1 (c 3)
      · have p2 : ¬ bl x2 12 := hb.resolve_left (not_not_intro p1)
        simp only [Option.bind_some, Option.map_some, Option.join, cI_r, cL_r, cV_r, xI_r, xL_r, xV_r, xI_t, xL_t, xV_t, lt_r, rtZ_0, rtZ_1, rtZ_zb, o136, f_needTongue hn (by omega), nd_t p1, f_needName, nd_f p2, String.reduceEq, if_false, if_true]
      · simp only [Option.bind_some, Option.map_some, Option.join, cI_r, cL_r, cV_r, xI_r, xL_r, xV_r, xI_t, xL_t, xV_t, lt_r, rtZ_0, rtZ_1, rtZ_zb, o136, f_needTongue hn (by omega), nd_f p1, String.reduceEq, if_false, if_true]
    · show F_X12_means E (rr w 163) x1 x2 x3 _ = _
      unfold F_X12_means
      by_cases p1 : bl x1 (c 3)
      · have p2 : ¬ bl x2 12 := hb.resolve_left (not_not_intro p1)
        simp only [Option.bind_some, Option.map_some, Option.join, cI_r, cL_r, cV_r, xI_r, xL_r, xV_r, xI_t, xL_t, xV_t, lt_r, rtZ_0, rtZ_1, rtZ_zb, pf163_3, o163, n3, f_is (show 3 < 2988 by decide) hn' (by omega), zi_t p1, f_isName, zn_f p2, f_fails]
      · simp only [Option.bind_some, Option.map_some, Option.join, cI_r, cL_r, cV_r, xI_r, xL_r, xV_r, xI_t, xL_t, xV_t, lt_r, rtZ_0, rtZ_1, rtZ_zb, pf163_3, o163, n3, f_is (show 3 < 2988 by decide) hn' (by omega), zi_f p1, f_fails]
  by_cases p1 : bl x1 (c 3)
  · by_cases p2 : bl x2 12
    · by_cases p3 : bd x3 0 4095
      · have p1' := p1
        have p2' := p2
        obtain ⟨t, rfl, ht⟩ := p1'
        obtain ⟨n, rfl, hn2⟩ := p2'
        have e1 : ix (nI t * (12 : Int32) + nI n) 72 = some (12 * t + n) := by rw [n12, pk_mul, nI_add, show t * 12 + n = 12 * t + n by omega]; exact ix_n (by omega) (by decide)
        have e2 : ix ((650 : Int32) + (12 : Int32) * nI t + nI n) 2988 = some (650 + 12 * t + n) := by rw [n650, n12, pk_mul, nI_add, nI_add]; exact ix_n (by omega) (by decide)
        have e3 : I 16 (12 * t + n) = I 137 (650 + 12 * t + n) := q3.1.2 t ht n hn2
        refine ⟨0, I 137 (650 + 12 * t + n), up2 I 16 (12 * t + n) x3, _, up2 L 164 0 (I 137 (650 + 12 * t + n)).toInt64, up2 L 164 0 (I 137 (650 + 12 * t + n)).toInt64, Q, Q, ?_, ?_, inv_means (v := (I 137 (650 + 12 * t + n)).toInt64) q0 q1 q2 q3 q4 q5 ht hn2 p3, ?_, fun _ => up2_s _ _ _ _⟩
        · show F_L_means E (rr w 136) (nI t) (nI n) x3 (rr w 164) (Hw E w I L Q) = _
          unfold F_L_means F_X11_means
          simp only [Option.bind_some, Option.map_some, Option.join, cI_r, cL_r, cV_r, xI_r, xL_r, xV_r, xI_t, xL_t, xV_t, lt_r, rtZ_0, rtZ_1, rtZ_zb, o136, f_needTongue hn (by omega), nd_t p1, f_needName, nd_t p2, f_needKinds, nd_t p3, gf136_1, gf15_1, ga16, pa16, e1, e3, pa164, ix01]
        · show F_X12_means E (rr w 163) (nI t) (nI n) x3 _ = _
          unfold F_X12_means
          have hn2' : (up2 (up2 I 16 (12 * t + n) x3) 163 3 0) 137 3 = nI (c 3) := h3.1
          simp only [Option.bind_some, Option.map_some, Option.join, cI_r, cL_r, cV_r, xI_r, xL_r, xV_r, xI_t, xL_t, xV_t, lt_r, rtZ_0, rtZ_1, rtZ_zb, pf163_3, o163, n3, f_is (show 3 < 2988 by decide) hn2' (by omega), zi_t p1, f_isName, zn_t p2, f_wi 4095 (by decide) (show (nI 4095).toInt64 = 4095 by rfl), zn_t p3, pf163_4, gf163_0, ga137, pa137, e2, up2_lit, Nat.reduceEqDiff, false_and, if_false]
        · simp only [up2_lit, Nat.reduceEqDiff, false_and, true_and, if_false, if_true]
      · refine ⟨2, 0, I, up2 (up2 I 163 3 0) 163 3 2, L, L, Q, Q, ?_, ?_, Inv_t (Inv_t q0), up2_s _ _ _ _, fun e => absurd e (by decide)⟩
        · show F_L_means E (rr w 136) x1 x2 x3 (rr w 164) (Hw E w I L Q) = _
          unfold F_L_means F_X11_means
          simp only [Option.bind_some, Option.map_some, Option.join, cI_r, cL_r, cV_r, xI_r, xL_r, xV_r, xI_t, xL_t, xV_t, lt_r, rtZ_0, rtZ_1, rtZ_zb, o136, f_needTongue hn (by omega), nd_t p1, f_needName, nd_t p2, f_needKinds, nd_f p3, String.reduceEq, if_false, if_true]
        · show F_X12_means E (rr w 163) x1 x2 x3 _ = _
          unfold F_X12_means
          simp only [Option.bind_some, Option.map_some, Option.join, cI_r, cL_r, cV_r, xI_r, xL_r, xV_r, xI_t, xL_t, xV_t, lt_r, rtZ_0, rtZ_1, rtZ_zb, pf163_3, o163, n3, f_is (show 3 < 2988 by decide) hn' (by omega), zi_t p1, f_isName, zn_t p2, f_wi 4095 (by decide) (show (nI 4095).toInt64 = 4095 by rfl), zn_f p3, f_fails]
    · exact bad1 (Or.inr p2)
  · exact bad1 (Or.inl p1)
theorem inv_went {x1 x2 x3 x4 x5 : Int32} {v : Int64} (q0 : Inv w I L Q) (q1 : WfT (I 137) c) (q2 : LandR I (I 137) c) (q3 : FolkR (fun j => I (15 + j)) (I 137) c) (q4 : BookR (fun j => I (22 + j)) (I 137) c) (q5 : MapR I L (I 137) c) (hlt : c 6 < 30) (b1 : bl x1 (c 4)) (b2 : bl x2 (c 5)) (b3 : bl x3 (4 * c 1)) (b4 : bd x4 0 200) (b5 : bl x5 (c 0)) : Inv w (up2 (up2 (up2 (up2 (up2 (up2 (up2 (up2 (up2 (up2 (up2 (up2 (up2 (up2 I 27 (c 6) (x1)) 28 (c 6) (x2)) 29 (c 6) (x3)) 30 (c 6) (x4)) 31 (c 6) (x5)) 22 (5) (nI (c 6 + 1))) 163 (3) (0)) 163 (4) (-1)) 137 (6) (nI (c 6 + 1))) 137 (2838 + 5 * c 6) (x1)) 137 (2839 + 5 * c 6) (x2)) 137 (2840 + 5 * c 6) (x3)) 137 (2841 + 5 * c 6) (x4)) 137 (2842 + 5 * c 6) (x5)) (up2 L 164 0 v) Q := by
  generalize e2 : up2 (up2 (up2 (up2 (up2 (up2 (up2 (up2 (up2 (up2 (up2 (up2 (up2 (up2 I 27 (c 6) (x1)) 28 (c 6) (x2)) 29 (c 6) (x3)) 30 (c 6) (x4)) 31 (c 6) (x5)) 22 (5) (nI (c 6 + 1))) 163 (3) (0)) 163 (4) (-1)) 137 (6) (nI (c 6 + 1))) 137 (2838 + 5 * c 6) (x1)) 137 (2839 + 5 * c 6) (x2)) 137 (2840 + 5 * c 6) (x3)) 137 (2841 + 5 * c 6) (x4)) 137 (2842 + 5 * c 6) (x5) = I2
  have hrow : ∀ k, k ≠ 27 → k ≠ 28 → k ≠ 29 → k ≠ 30 → k ≠ 31 → k ≠ 22 → k ≠ 163 → k ≠ 137 → I2 k = I k := by
    intro k z27 z28 z29 z30 z31 z22 z163 z137; funext i; subst e2; simp only [up2_lit, z27, z28, z29, z30, z31, z22, z163, z137, false_and, if_false]
  have r27 : ∀ i, I2 27 i = if i = c 6 then x1 else I 27 i := by
    intro i; subst e2; simp only [up2_lit, Nat.reduceEqDiff, false_and, true_and, if_false]
  have r28 : ∀ i, I2 28 i = if i = c 6 then x2 else I 28 i := by
    intro i; subst e2; simp only [up2_lit, Nat.reduceEqDiff, false_and, true_and, if_false]
  have r29 : ∀ i, I2 29 i = if i = c 6 then x3 else I 29 i := by
    intro i; subst e2; simp only [up2_lit, Nat.reduceEqDiff, false_and, true_and, if_false]
  have r30 : ∀ i, I2 30 i = if i = c 6 then x4 else I 30 i := by
    intro i; subst e2; simp only [up2_lit, Nat.reduceEqDiff, false_and, true_and, if_false]
  have r31 : ∀ i, I2 31 i = if i = c 6 then x5 else I 31 i := by
    intro i; subst e2; simp only [up2_lit, Nat.reduceEqDiff, false_and, true_and, if_false]
  have r22 : ∀ i, I2 22 i = if i = 5 then nI (c 6 + 1) else I 22 i := by
    intro i; subst e2; simp only [up2_lit, Nat.reduceEqDiff, false_and, true_and, if_false]
  have r163 : ∀ i, I2 163 i = if i = 4 then -1 else if i = 3 then 0 else I 163 i := by
    intro i; subst e2; simp only [up2_lit, Nat.reduceEqDiff, false_and, true_and, if_false]
  have r137 : ∀ i, I2 137 i = if i = 2842 + 5 * c 6 then x5 else if i = 2841 + 5 * c 6 then x4 else if i = 2840 + 5 * c 6 then x3 else if i = 2839 + 5 * c 6 then x2 else if i = 2838 + 5 * c 6 then x1 else if i = 6 then nI (c 6 + 1) else I 137 i := by
    intro i; subst e2; simp only [up2_lit, Nat.reduceEqDiff, false_and, true_and, if_false]
  clear e2
  refine sec_6 (c2 := (fun i => if i = 6 then c 6 + 1 else c i)) q0 q1.1 q1 q2 q3 q4 q5 (fun k hk => hrow k (by omega) (by omega) (by omega) (by omega) (by omega) (by omega) (by omega) (by omega)) (fun i hi => by rw [r163]; (repeat rw [if_neg (by omega)])) (by rw [r163]; rfl) (fun k hk => up2_row L _ (by omega)) (fun i h1 h2 => if_neg h2) (Nat.le_trans (Nat.le_succ _) (Nat.le_of_eq (if_pos rfl).symm)) (by show (if 6 = 6 then c 6 + 1 else c 6) ≤ mx 6; rw [if_pos rfl]; exact hlt) (fun i h1 h2 => by rw [r137]; (repeat rw [if_neg (by omega)])) (by rw [r137]; (repeat rw [if_neg (by omega)]); rw [if_pos rfl]; rfl) (fun k h1 g0 g1 g2 g3 g4 g5 => hrow k (by omega) (by omega) (by omega) (by omega) (by omega) (by omega) (by omega) (by omega)) (fun f hf => by rw [r22, if_neg hf]) (by rw [r22, if_pos rfl]; rfl) ?_ ?_ (hrow 32 (by omega) (by omega) (by omega) (by omega) (by omega) (by omega) (by omega) (by omega)) (hrow 38 (by omega) (by omega) (by omega) (by omega) (by omega) (by omega) (by omega) (by omega)) (fun k h1 h2 => up2_row L _ (by omega))
  all_goals have hold : ∀ i, 2838 ≤ i → i < 2838 + 5 * c 6 → I2 137 i = I 137 i := fun i h1 h2 => by rw [r137]; (repeat rw [if_neg (by omega)])
  · intro j hj
    have hj : j < c 6 + 1 := hj
    by_cases e : j = c 6
    · subst e
      have n0 : I2 137 (2838 + 5 * c 6) = x1 := by rw [r137]; (repeat rw [if_neg (by omega)]); rw [if_pos rfl]
      have n1 : I2 137 (2839 + 5 * c 6) = x2 := by rw [r137]; (repeat rw [if_neg (by omega)]); rw [if_pos rfl]
      have n2 : I2 137 (2840 + 5 * c 6) = x3 := by rw [r137]; (repeat rw [if_neg (by omega)]); rw [if_pos rfl]
      have n3 : I2 137 (2841 + 5 * c 6) = x4 := by rw [r137]; (repeat rw [if_neg (by omega)]); rw [if_pos rfl]
      have n4 : I2 137 (2842 + 5 * c 6) = x5 := by rw [r137]; (repeat rw [if_neg (by omega)]); (try rw [if_pos rfl])
      unfold WfR
      rw [n0, n1, n2, n3, n4]
      exact ⟨b1, b2, b3, b4, b5⟩
    · have z := q1.2.2.2.2.2.2.2 j (by omega)
      unfold WfR at *
      rw [hold (2838 + 5 * j) (by omega) (by omega), hold (2839 + 5 * j) (by omega) (by omega), hold (2840 + 5 * j) (by omega) (by omega), hold (2841 + 5 * j) (by omega) (by omega), hold (2842 + 5 * j) (by omega) (by omega)]
      exact z
  · intro j hj
    have hj : j < c 6 + 1 := hj
    unfold BookK
    simp only [Nat.reduceAdd]
    by_cases e : j = c 6
    · subst e
      rw [r27, if_pos rfl, r28, if_pos rfl, r29, if_pos rfl, r30, if_pos rfl, r31, if_pos rfl]
      refine ⟨?_, ?_, ?_, ?_, ?_⟩ <;> (rw [r137]; (repeat rw [if_neg (by omega)]); (try rw [if_pos rfl]))
    · rw [hold (2838 + 5 * j) (by omega) (by omega), hold (2839 + 5 * j) (by omega) (by omega), hold (2840 + 5 * j) (by omega) (by omega), hold (2841 + 5 * j) (by omega) (by omega), hold (2842 + 5 * j) (by omega) (by omega)]
      rw [r27, if_neg e, r28, if_neg e, r29, if_neg e, r30, if_neg e, r31, if_neg e]
      exact q4.2.2 j (by omega)
theorem inv_walker {x1 x2 x3 x4 x5 : Int32} {v : Int64} (q0 : Inv w I L Q) (q1 : WfT (I 137) c) (q2 : LandR I (I 137) c) (q3 : FolkR (fun j => I (15 + j)) (I 137) c) (q4 : BookR (fun j => I (22 + j)) (I 137) c) (q5 : MapR I L (I 137) c) (hlt : c 4 < 8) (b1 : bl x1 (c 3)) (b2 : bd x2 0 4095) (b3 : bl x3 2) (b4 : bl x4 2) (b5 : bd x5 1 20) : Inv w (up2 (up2 (up2 (up2 (up2 (up2 (up2 (up2 (up2 (up2 (up2 (up2 (up2 (up2 I 17 (c 4) (x1)) 18 (c 4) (x2)) 19 (c 4) (x3)) 20 (c 4) (x4)) 21 (c 4) (x5)) 15 (2) (nI (c 4 + 1))) 163 (3) (0)) 163 (4) (-1)) 137 (4) (nI (c 4 + 1))) 137 (722 + 5 * c 4) (x1)) 137 (723 + 5 * c 4) (x2)) 137 (724 + 5 * c 4) (x3)) 137 (725 + 5 * c 4) (x4)) 137 (726 + 5 * c 4) (x5)) (up2 L 164 0 v) Q := by
  generalize e2 : up2 (up2 (up2 (up2 (up2 (up2 (up2 (up2 (up2 (up2 (up2 (up2 (up2 (up2 I 17 (c 4) (x1)) 18 (c 4) (x2)) 19 (c 4) (x3)) 20 (c 4) (x4)) 21 (c 4) (x5)) 15 (2) (nI (c 4 + 1))) 163 (3) (0)) 163 (4) (-1)) 137 (4) (nI (c 4 + 1))) 137 (722 + 5 * c 4) (x1)) 137 (723 + 5 * c 4) (x2)) 137 (724 + 5 * c 4) (x3)) 137 (725 + 5 * c 4) (x4)) 137 (726 + 5 * c 4) (x5) = I2
  have hrow : ∀ k, k ≠ 17 → k ≠ 18 → k ≠ 19 → k ≠ 20 → k ≠ 21 → k ≠ 15 → k ≠ 163 → k ≠ 137 → I2 k = I k := by
    intro k z17 z18 z19 z20 z21 z15 z163 z137; funext i; subst e2; simp only [up2_lit, z17, z18, z19, z20, z21, z15, z163, z137, false_and, if_false]
  have r17 : ∀ i, I2 17 i = if i = c 4 then x1 else I 17 i := by
    intro i; subst e2; simp only [up2_lit, Nat.reduceEqDiff, false_and, true_and, if_false]
  have r18 : ∀ i, I2 18 i = if i = c 4 then x2 else I 18 i := by
    intro i; subst e2; simp only [up2_lit, Nat.reduceEqDiff, false_and, true_and, if_false]
  have r19 : ∀ i, I2 19 i = if i = c 4 then x3 else I 19 i := by
    intro i; subst e2; simp only [up2_lit, Nat.reduceEqDiff, false_and, true_and, if_false]
  have r20 : ∀ i, I2 20 i = if i = c 4 then x4 else I 20 i := by
    intro i; subst e2; simp only [up2_lit, Nat.reduceEqDiff, false_and, true_and, if_false]
  have r21 : ∀ i, I2 21 i = if i = c 4 then x5 else I 21 i := by
    intro i; subst e2; simp only [up2_lit, Nat.reduceEqDiff, false_and, true_and, if_false]
  have r15 : ∀ i, I2 15 i = if i = 2 then nI (c 4 + 1) else I 15 i := by
    intro i; subst e2; simp only [up2_lit, Nat.reduceEqDiff, false_and, true_and, if_false]
  have r163 : ∀ i, I2 163 i = if i = 4 then -1 else if i = 3 then 0 else I 163 i := by
    intro i; subst e2; simp only [up2_lit, Nat.reduceEqDiff, false_and, true_and, if_false]
  have r137 : ∀ i, I2 137 i = if i = 726 + 5 * c 4 then x5 else if i = 725 + 5 * c 4 then x4 else if i = 724 + 5 * c 4 then x3 else if i = 723 + 5 * c 4 then x2 else if i = 722 + 5 * c 4 then x1 else if i = 4 then nI (c 4 + 1) else I 137 i := by
    intro i; subst e2; simp only [up2_lit, Nat.reduceEqDiff, false_and, true_and, if_false]
  clear e2
  refine sec_4 (c2 := (fun i => if i = 4 then c 4 + 1 else c i)) q0 q1.1 q1 q2 q3 q4 q5 (fun k hk => hrow k (by omega) (by omega) (by omega) (by omega) (by omega) (by omega) (by omega) (by omega)) (fun i hi => by rw [r163]; (repeat rw [if_neg (by omega)])) (by rw [r163]; rfl) (fun k hk => up2_row L _ (by omega)) (fun i h1 h2 => if_neg h2) (Nat.le_trans (Nat.le_succ _) (Nat.le_of_eq (if_pos rfl).symm)) (by show (if 4 = 4 then c 4 + 1 else c 4) ≤ mx 4; rw [if_pos rfl]; exact hlt) (fun i h1 h2 => by rw [r137]; (repeat rw [if_neg (by omega)])) (by rw [r137]; (repeat rw [if_neg (by omega)]); rw [if_pos rfl]; rfl) (fun k h1 g0 g1 g2 g3 g4 g5 => hrow k (by omega) (by omega) (by omega) (by omega) (by omega) (by omega) (by omega) (by omega)) (fun f hf => by rw [r15, if_neg hf]) (by rw [r15, if_pos rfl]; rfl) ?_ ?_ ?_ (hrow 32 (by omega) (by omega) (by omega) (by omega) (by omega) (by omega) (by omega) (by omega)) (hrow 38 (by omega) (by omega) (by omega) (by omega) (by omega) (by omega) (by omega) (by omega)) (fun k h1 h2 => up2_row L _ (by omega))
  all_goals have hold : ∀ i, 722 ≤ i → i < 722 + 5 * c 4 → I2 137 i = I 137 i := fun i h1 h2 => by rw [r137]; (repeat rw [if_neg (by omega)])
  · intro j hj
    have hj : j < c 4 + 1 := hj
    by_cases e : j = c 4
    · subst e
      have n0 : I2 137 (722 + 5 * c 4) = x1 := by rw [r137]; (repeat rw [if_neg (by omega)]); rw [if_pos rfl]
      have n1 : I2 137 (723 + 5 * c 4) = x2 := by rw [r137]; (repeat rw [if_neg (by omega)]); rw [if_pos rfl]
      have n2 : I2 137 (724 + 5 * c 4) = x3 := by rw [r137]; (repeat rw [if_neg (by omega)]); rw [if_pos rfl]
      have n3 : I2 137 (725 + 5 * c 4) = x4 := by rw [r137]; (repeat rw [if_neg (by omega)]); rw [if_pos rfl]
      have n4 : I2 137 (726 + 5 * c 4) = x5 := by rw [r137]; (repeat rw [if_neg (by omega)]); (try rw [if_pos rfl])
      unfold WfK
      rw [n0, n1, n2, n3, n4]
      exact ⟨b1, b2, b3, b4, b5⟩
    · have z := q1.2.2.2.2.2.1 j (by omega)
      unfold WfK at *
      rw [hold (722 + 5 * j) (by omega) (by omega), hold (723 + 5 * j) (by omega) (by omega), hold (724 + 5 * j) (by omega) (by omega), hold (725 + 5 * j) (by omega) (by omega), hold (726 + 5 * j) (by omega) (by omega)]
      exact z
  · intro j hj
    have hj : j < c 4 + 1 := hj
    unfold FolkK
    simp only [Nat.reduceAdd]
    by_cases e : j = c 4
    · subst e
      rw [r17, if_pos rfl, r18, if_pos rfl, r19, if_pos rfl, r20, if_pos rfl, r21, if_pos rfl]
      refine ⟨?_, ?_, ?_, ?_, ?_⟩ <;> (rw [r137]; (repeat rw [if_neg (by omega)]); (try rw [if_pos rfl]))
    · rw [hold (722 + 5 * j) (by omega) (by omega), hold (723 + 5 * j) (by omega) (by omega), hold (724 + 5 * j) (by omega) (by omega), hold (725 + 5 * j) (by omega) (by omega), hold (726 + 5 * j) (by omega) (by omega)]
      rw [r17, if_neg e, r18, if_neg e, r19, if_neg e, r20, if_neg e, r21, if_neg e]
      exact q3.2.1.2 j (by omega)
  · intro k hk
    have t1 : ∀ z : Int32, bl z 2 → z = 0 ∨ z = 1 := fun z ⟨a, e, ha⟩ => by rcases (show a = 0 ∨ a = 1 by omega) with rfl | rfl; exact Or.inl e; exact Or.inr e
    rw [r19, r20]
    by_cases e : k = c 4
    · rw [if_pos e, if_pos e]; exact ⟨t1 _ b3, t1 _ b4⟩
    · rw [if_neg e, if_neg e]; exact q3.2.2 k hk
theorem inv_mark {x1 x2 x3 x4 x5 : Int32} {v : Int64} (q0 : Inv w I L Q) (q1 : WfT (I 137) c) (q2 : LandR I (I 137) c) (q3 : FolkR (fun j => I (15 + j)) (I 137) c) (q4 : BookR (fun j => I (22 + j)) (I 137) c) (q5 : MapR I L (I 137) c) (hlt : c 2 < 40) (b1 : bl x1 (c 0)) (b2 : bl x2 12) (b3 : bl x3 2) (b4 : yrs x4 x5) : Inv w (up2 (up2 (up2 (up2 (up2 (up2 (up2 (up2 (up2 (up2 (up2 (up2 (up2 (up2 (up2 (up2 (up2 I 32 (1) (0)) 32 (2) (-1)) 32 (3) (1)) 10 (c 2) (x1)) 11 (c 2) (x2)) 12 (c 2) (x3)) 13 (c 2) (x4)) 14 (c 2) (x5)) 0 (11) (nI (c 2 + 1))) 163 (3) (0)) 163 (4) (-1)) 137 (2) (nI (c 2 + 1))) 137 (450 + 5 * c 2) (x1)) 137 (451 + 5 * c 2) (x2)) 137 (452 + 5 * c 2) (x3)) 137 (453 + 5 * c 2) (x4)) 137 (454 + 5 * c 2) (x5)) (up2 L 164 0 v) Q := by
  generalize e2 : up2 (up2 (up2 (up2 (up2 (up2 (up2 (up2 (up2 (up2 (up2 (up2 (up2 (up2 (up2 (up2 (up2 I 32 (1) (0)) 32 (2) (-1)) 32 (3) (1)) 10 (c 2) (x1)) 11 (c 2) (x2)) 12 (c 2) (x3)) 13 (c 2) (x4)) 14 (c 2) (x5)) 0 (11) (nI (c 2 + 1))) 163 (3) (0)) 163 (4) (-1)) 137 (2) (nI (c 2 + 1))) 137 (450 + 5 * c 2) (x1)) 137 (451 + 5 * c 2) (x2)) 137 (452 + 5 * c 2) (x3)) 137 (453 + 5 * c 2) (x4)) 137 (454 + 5 * c 2) (x5) = I2
  have hrow : ∀ k, k ≠ 32 → k ≠ 10 → k ≠ 11 → k ≠ 12 → k ≠ 13 → k ≠ 14 → k ≠ 0 → k ≠ 163 → k ≠ 137 → I2 k = I k := by
    intro k z32 z10 z11 z12 z13 z14 z0 z163 z137; funext i; subst e2; simp only [up2_lit, z32, z10, z11, z12, z13, z14, z0, z163, z137, false_and, if_false]
  have r32 : ∀ i, I2 32 i = if i = 3 then 1 else if i = 2 then -1 else if i = 1 then 0 else I 32 i := by
    intro i; subst e2; simp only [up2_lit, Nat.reduceEqDiff, false_and, true_and, if_false]
  have r10 : ∀ i, I2 10 i = if i = c 2 then x1 else I 10 i := by
    intro i; subst e2; simp only [up2_lit, Nat.reduceEqDiff, false_and, true_and, if_false]
  have r11 : ∀ i, I2 11 i = if i = c 2 then x2 else I 11 i := by
    intro i; subst e2; simp only [up2_lit, Nat.reduceEqDiff, false_and, true_and, if_false]
  have r12 : ∀ i, I2 12 i = if i = c 2 then x3 else I 12 i := by
    intro i; subst e2; simp only [up2_lit, Nat.reduceEqDiff, false_and, true_and, if_false]
  have r13 : ∀ i, I2 13 i = if i = c 2 then x4 else I 13 i := by
    intro i; subst e2; simp only [up2_lit, Nat.reduceEqDiff, false_and, true_and, if_false]
  have r14 : ∀ i, I2 14 i = if i = c 2 then x5 else I 14 i := by
    intro i; subst e2; simp only [up2_lit, Nat.reduceEqDiff, false_and, true_and, if_false]
  have r0 : ∀ i, I2 0 i = if i = 11 then nI (c 2 + 1) else I 0 i := by
    intro i; subst e2; simp only [up2_lit, Nat.reduceEqDiff, false_and, true_and, if_false]
  have r163 : ∀ i, I2 163 i = if i = 4 then -1 else if i = 3 then 0 else I 163 i := by
    intro i; subst e2; simp only [up2_lit, Nat.reduceEqDiff, false_and, true_and, if_false]
  have r137 : ∀ i, I2 137 i = if i = 454 + 5 * c 2 then x5 else if i = 453 + 5 * c 2 then x4 else if i = 452 + 5 * c 2 then x3 else if i = 451 + 5 * c 2 then x2 else if i = 450 + 5 * c 2 then x1 else if i = 2 then nI (c 2 + 1) else I 137 i := by
    intro i; subst e2; simp only [up2_lit, Nat.reduceEqDiff, false_and, true_and, if_false]
  clear e2
  refine sec_2 (c2 := (fun i => if i = 2 then c 2 + 1 else c i)) q0 q1.1 q1 q2 q3 q4 q5 (fun k hk => hrow k (by omega) (by omega) (by omega) (by omega) (by omega) (by omega) (by omega) (by omega) (by omega)) (fun i hi => by rw [r163]; (repeat rw [if_neg (by omega)])) (by rw [r163]; rfl) (fun k hk => up2_row L _ (by omega)) (fun i h1 h2 => if_neg h2) (Nat.le_trans (Nat.le_succ _) (Nat.le_of_eq (if_pos rfl).symm)) (by show (if 2 = 2 then c 2 + 1 else c 2) ≤ mx 2; rw [if_pos rfl]; exact hlt) (fun i h1 h2 => by rw [r137]; (repeat rw [if_neg (by omega)])) (by rw [r137]; (repeat rw [if_neg (by omega)]); rw [if_pos rfl]; rfl) (fun k h1 g0 g1 g2 g3 g4 g5 => hrow k (by omega) (by omega) (by omega) (by omega) (by omega) (by omega) (by omega) (by omega) (by omega)) (fun f hf => by rw [r0, if_neg hf]) (by rw [r0, if_pos rfl]; rfl) ?_ ?_ ?_ ?_
  all_goals have hold : ∀ i, 450 ≤ i → i < 450 + 5 * c 2 → I2 137 i = I 137 i := fun i h1 h2 => by rw [r137]; (repeat rw [if_neg (by omega)])
  · intro j hj
    have hj : j < c 2 + 1 := hj
    by_cases e : j = c 2
    · subst e
      have n0 : I2 137 (450 + 5 * c 2) = x1 := by rw [r137]; (repeat rw [if_neg (by omega)]); rw [if_pos rfl]
      have n1 : I2 137 (451 + 5 * c 2) = x2 := by rw [r137]; (repeat rw [if_neg (by omega)]); rw [if_pos rfl]
      have n2 : I2 137 (452 + 5 * c 2) = x3 := by rw [r137]; (repeat rw [if_neg (by omega)]); rw [if_pos rfl]
      have n3 : I2 137 (453 + 5 * c 2) = x4 := by rw [r137]; (repeat rw [if_neg (by omega)]); rw [if_pos rfl]
      have n4 : I2 137 (454 + 5 * c 2) = x5 := by rw [r137]; (repeat rw [if_neg (by omega)]); (try rw [if_pos rfl])
      unfold WfM
      rw [n0, n1, n2, n3, n4]
      exact ⟨b1, b2, b3, b4⟩
    · have z := q1.2.2.2.1 j (by omega)
      unfold WfM at *
      rw [hold (450 + 5 * j) (by omega) (by omega), hold (451 + 5 * j) (by omega) (by omega), hold (452 + 5 * j) (by omega) (by omega), hold (453 + 5 * j) (by omega) (by omega), hold (454 + 5 * j) (by omega) (by omega)]
      exact z
  · intro j hj
    have hj : j < c 2 + 1 := hj
    unfold LandM
    by_cases e : j = c 2
    · subst e
      rw [r10, if_pos rfl, r11, if_pos rfl, r12, if_pos rfl, r13, if_pos rfl, r14, if_pos rfl]
      refine ⟨?_, ?_, ?_, ?_, ?_⟩ <;> (rw [r137]; (repeat rw [if_neg (by omega)]); (try rw [if_pos rfl]))
    · rw [hold (450 + 5 * j) (by omega) (by omega), hold (451 + 5 * j) (by omega) (by omega), hold (452 + 5 * j) (by omega) (by omega), hold (453 + 5 * j) (by omega) (by omega), hold (454 + 5 * j) (by omega) (by omega)]
      rw [r10, if_neg e, r11, if_neg e, r12, if_neg e, r13, if_neg e, r14, if_neg e]
      exact q2.2.2.1.2 j (by omega)
  · intro k hk
    have t1 : ∀ z : Int32, bl z 2 → z = 0 ∨ z = 1 := fun z ⟨a, e, ha⟩ => by rcases (show a = 0 ∨ a = 1 by omega) with rfl | rfl; exact Or.inl e; exact Or.inr e
    rw [r12]
    by_cases e : k = c 2
    · rw [if_pos e]; exact t1 _ b3
    · rw [if_neg e]; exact q2.2.2.2 k hk
  · exact MapR_f (by rw [r32]; (repeat rw [if_neg (by omega)]); rw [if_pos rfl]) (by rw [r32]; (repeat rw [if_neg (by omega)]); rw [if_pos rfl]) (by rw [r32, if_pos rfl])
end
