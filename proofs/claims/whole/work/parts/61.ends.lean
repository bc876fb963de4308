/-! ends -/
section
variable {E : Ev} {w : Wo} {I : Nat → Nat → Int32} {L : Nat → Nat → Int64} {Q : Nat → Nat → Option Nat} {c : Nat → Nat} {x y : Int32}
theorem inv_endsV {v : Nat} {u : Int64} (q0 : Inv w I L Q) (q1 : WfT (I 137) c) (q2 : LandR I (I 137) c) (q3 : FolkR (fun j => I (15 + j)) (I 137) c) (q4 : BookR (fun j => I (22 + j)) (I 137) c) (q5 : MapR I L (I 137) c) (hv : v < c 1) (hy : yrs (I 137 (94 + 6 * v)) x) : Inv w (up2 (up2 (up2 (up2 (up2 (up2 (up2 I 6 (v) (x)) 32 (1) (0)) 32 (2) (-1)) 32 (3) (1)) 163 (3) (0)) 137 (95 + 6 * v) (x)) 163 (4) (-1)) (up2 L 164 0 u) Q := by
  have k1 : c 1 ≤ 60 := (q1.1 1 (by decide)).2
  generalize e2 : up2 (up2 (up2 (up2 (up2 (up2 (up2 I 6 (v) (x)) 32 (1) (0)) 32 (2) (-1)) 32 (3) (1)) 163 (3) (0)) 137 (95 + 6 * v) (x)) 163 (4) (-1) = I2
  have hrow : ∀ k, k ≠ 6 → k ≠ 32 → k ≠ 163 → k ≠ 137 → I2 k = I k := by
    intro k z6 z32 z163 z137; funext i; subst e2; simp only [up2_lit, z6, z32, z163, z137, false_and, if_false]
  have r6 : ∀ i, I2 6 i = if i = v then x else I 6 i := by
    intro i; subst e2; simp only [up2_lit, Nat.reduceEqDiff, false_and, true_and, if_false]
  have r32 : ∀ i, I2 32 i = if i = 3 then 1 else if i = 2 then -1 else if i = 1 then 0 else I 32 i := by
    intro i; subst e2; simp only [up2_lit, Nat.reduceEqDiff, false_and, true_and, if_false]
  have r163 : ∀ i, I2 163 i = if i = 4 then -1 else if i = 3 then 0 else I 163 i := by
    intro i; subst e2; simp only [up2_lit, Nat.reduceEqDiff, false_and, true_and, if_false]
  have r137 : ∀ i, I2 137 i = if i = 95 + 6 * v then x else I 137 i := by
    intro i; subst e2; simp only [up2_lit, Nat.reduceEqDiff, false_and, true_and, if_false]
  clear e2
  refine sec_1 (c2 := c) q0 q1.1 q1 q2 q3 q4 q5 (fun k hk => hrow k (by omega) (by omega) (by omega) (by omega)) (fun i hi => by rw [r163]; (repeat rw [if_neg (by omega)])) (by rw [r163]; rfl) (fun k hk => up2_row L _ (by omega)) (fun _ _ _ => rfl) (Nat.le_refl _) k1 (fun i h1 h2 => by rw [r137, if_neg (by omega)]) (by rw [r137, if_neg (by omega)]; exact (q1.1 1 (by decide)).1) (fun k h1 g0 g1 g2 g3 g4 g5 g6 g7 => hrow k (by omega) (by omega) (by omega) (by omega)) (fun f _ => by rw [hrow 0 (by omega) (by omega) (by omega) (by omega)]) (by rw [hrow 0 (by omega) (by omega) (by omega) (by omega)]; exact q2.2.1.1.trans (q1.1 1 (by decide)).1) ?_ ?_ ?_
  · intro j hj
    have z := q1.2.2.1 j hj
    unfold WfV at *
    by_cases e : j = v
    · subst e
      rw [show I2 137 (90 + 6 * j) = I 137 (90 + 6 * j) by rw [r137, if_neg (by omega)], show I2 137 (91 + 6 * j) = I 137 (91 + 6 * j) by rw [r137, if_neg (by omega)], show I2 137 (92 + 6 * j) = I 137 (92 + 6 * j) by rw [r137, if_neg (by omega)], show I2 137 (93 + 6 * j) = I 137 (93 + 6 * j) by rw [r137, if_neg (by omega)], show I2 137 (94 + 6 * j) = I 137 (94 + 6 * j) by rw [r137, if_neg (by omega)], show I2 137 (95 + 6 * j) = x by rw [r137, if_pos rfl]]
      exact ⟨z.1, z.2.1, z.2.2.1, z.2.2.2.1, z.2.2.2.2.1, hy⟩
    · rw [show I2 137 (90 + 6 * j) = I 137 (90 + 6 * j) by rw [r137, if_neg (by omega)], show I2 137 (91 + 6 * j) = I 137 (91 + 6 * j) by rw [r137, if_neg (by omega)], show I2 137 (92 + 6 * j) = I 137 (92 + 6 * j) by rw [r137, if_neg (by omega)], show I2 137 (93 + 6 * j) = I 137 (93 + 6 * j) by rw [r137, if_neg (by omega)], show I2 137 (94 + 6 * j) = I 137 (94 + 6 * j) by rw [r137, if_neg (by omega)], show I2 137 (95 + 6 * j) = I 137 (95 + 6 * j) by rw [r137, if_neg (by omega)]]
      exact z
  · intro j hj
    have z := q2.2.1.2 j hj
    have hw := q1.2.2.1 j hj
    have k0 : c 0 ≤ 40 := (q1.1 0 (by decide)).2
    have a1 := bl_tn (by omega) hw.1
    have a2 := bl_tn (by omega) hw.2.1
    unfold LandV at *
    rw [hrow 3 (by omega) (by omega) (by omega) (by omega), hrow 4 (by omega) (by omega) (by omega) (by omega), hrow 5 (by omega) (by omega) (by omega) (by omega), hrow 7 (by omega) (by omega) (by omega) (by omega), hrow 8 (by omega) (by omega) (by omega) (by omega), hrow 9 (by omega) (by omega) (by omega) (by omega), show I2 137 (90 + 6 * j) = I 137 (90 + 6 * j) by rw [r137, if_neg (by omega)], show I2 137 (91 + 6 * j) = I 137 (91 + 6 * j) by rw [r137, if_neg (by omega)], show I2 137 (92 + 6 * j) = I 137 (92 + 6 * j) by rw [r137, if_neg (by omega)], show I2 137 (93 + 6 * j) = I 137 (93 + 6 * j) by rw [r137, if_neg (by omega)], show I2 137 (94 + 6 * j) = I 137 (94 + 6 * j) by rw [r137, if_neg (by omega)], show I2 137 (10 + 2 * tn (I 137 (90 + 6 * j))) = I 137 (10 + 2 * tn (I 137 (90 + 6 * j))) by rw [r137, if_neg (by omega)], show I2 137 (10 + 2 * tn (I 137 (91 + 6 * j))) = I 137 (10 + 2 * tn (I 137 (91 + 6 * j))) by rw [r137, if_neg (by omega)], show I2 137 (11 + 2 * tn (I 137 (90 + 6 * j))) = I 137 (11 + 2 * tn (I 137 (90 + 6 * j))) by rw [r137, if_neg (by omega)], show I2 137 (11 + 2 * tn (I 137 (91 + 6 * j))) = I 137 (11 + 2 * tn (I 137 (91 + 6 * j))) by rw [r137, if_neg (by omega)]]
    by_cases e : j = v
    · subst e
      rw [r6, if_pos rfl, show I2 137 (95 + 6 * j) = x by rw [r137, if_pos rfl]]
      exact ⟨z.1, z.2.1, z.2.2.1, rfl, z.2.2.2.2⟩
    · rw [r6, if_neg e, show I2 137 (95 + 6 * j) = I 137 (95 + 6 * j) by rw [r137, if_neg (by omega)]]
      exact z
  · exact MapR_f (by rw [r32]; (repeat rw [if_neg (by omega)]); rw [if_pos rfl]) (by rw [r32]; (repeat rw [if_neg (by omega)]); rw [if_pos rfl]) (by rw [r32, if_pos rfl])
theorem inv_endsM {v : Nat} {u : Int64} (q0 : Inv w I L Q) (q1 : WfT (I 137) c) (q2 : LandR I (I 137) c) (q3 : FolkR (fun j => I (15 + j)) (I 137) c) (q4 : BookR (fun j => I (22 + j)) (I 137) c) (q5 : MapR I L (I 137) c) (hv : v < c 2) (hy : yrs (I 137 (453 + 5 * v)) x) : Inv w (up2 (up2 (up2 (up2 (up2 (up2 (up2 I 14 (v) (x)) 32 (1) (0)) 32 (2) (-1)) 32 (3) (1)) 163 (3) (0)) 137 (454 + 5 * v) (x)) 163 (4) (-1)) (up2 L 164 0 u) Q := by
  have k2 : c 2 ≤ 40 := (q1.1 2 (by decide)).2
  generalize e2 : up2 (up2 (up2 (up2 (up2 (up2 (up2 I 14 (v) (x)) 32 (1) (0)) 32 (2) (-1)) 32 (3) (1)) 163 (3) (0)) 137 (454 + 5 * v) (x)) 163 (4) (-1) = I2
  have hrow : ∀ k, k ≠ 14 → k ≠ 32 → k ≠ 163 → k ≠ 137 → I2 k = I k := by
    intro k z14 z32 z163 z137; funext i; subst e2; simp only [up2_lit, z14, z32, z163, z137, false_and, if_false]
  have r14 : ∀ i, I2 14 i = if i = v then x else I 14 i := by
    intro i; subst e2; simp only [up2_lit, Nat.reduceEqDiff, false_and, true_and, if_false]
  have r32 : ∀ i, I2 32 i = if i = 3 then 1 else if i = 2 then -1 else if i = 1 then 0 else I 32 i := by
    intro i; subst e2; simp only [up2_lit, Nat.reduceEqDiff, false_and, true_and, if_false]
  have r163 : ∀ i, I2 163 i = if i = 4 then -1 else if i = 3 then 0 else I 163 i := by
    intro i; subst e2; simp only [up2_lit, Nat.reduceEqDiff, false_and, true_and, if_false]
  have r137 : ∀ i, I2 137 i = if i = 454 + 5 * v then x else I 137 i := by
    intro i; subst e2; simp only [up2_lit, Nat.reduceEqDiff, false_and, true_and, if_false]
  clear e2
  refine sec_2 (c2 := c) q0 q1.1 q1 q2 q3 q4 q5 (fun k hk => hrow k (by omega) (by omega) (by omega) (by omega)) (fun i hi => by rw [r163]; (repeat rw [if_neg (by omega)])) (by rw [r163]; rfl) (fun k hk => up2_row L _ (by omega)) (fun _ _ _ => rfl) (Nat.le_refl _) k2 (fun i h1 h2 => by rw [r137, if_neg (by omega)]) (by rw [r137, if_neg (by omega)]; exact (q1.1 2 (by decide)).1) (fun k h1 g0 g1 g2 g3 g4 g5 => hrow k (by omega) (by omega) (by omega) (by omega)) (fun f _ => by rw [hrow 0 (by omega) (by omega) (by omega) (by omega)]) (by rw [hrow 0 (by omega) (by omega) (by omega) (by omega)]; exact q2.2.2.1.1.trans (q1.1 2 (by decide)).1) ?_ ?_ (fun m hm => by rw [hrow 12 (by omega) (by omega) (by omega) (by omega)]; exact q2.2.2.2 m hm) ?_
  · intro j hj
    have z := q1.2.2.2.1 j hj
    unfold WfM at *
    by_cases e : j = v
    · subst e
      rw [show I2 137 (450 + 5 * j) = I 137 (450 + 5 * j) by rw [r137, if_neg (by omega)], show I2 137 (451 + 5 * j) = I 137 (451 + 5 * j) by rw [r137, if_neg (by omega)], show I2 137 (452 + 5 * j) = I 137 (452 + 5 * j) by rw [r137, if_neg (by omega)], show I2 137 (453 + 5 * j) = I 137 (453 + 5 * j) by rw [r137, if_neg (by omega)], show I2 137 (454 + 5 * j) = x by rw [r137, if_pos rfl]]
      exact ⟨z.1, z.2.1, z.2.2.1, hy⟩
    · rw [show I2 137 (450 + 5 * j) = I 137 (450 + 5 * j) by rw [r137, if_neg (by omega)], show I2 137 (451 + 5 * j) = I 137 (451 + 5 * j) by rw [r137, if_neg (by omega)], show I2 137 (452 + 5 * j) = I 137 (452 + 5 * j) by rw [r137, if_neg (by omega)], show I2 137 (453 + 5 * j) = I 137 (453 + 5 * j) by rw [r137, if_neg (by omega)], show I2 137 (454 + 5 * j) = I 137 (454 + 5 * j) by rw [r137, if_neg (by omega)]]
      exact z
  · intro j hj
    have z := q2.2.2.1.2 j hj
    unfold LandM at *
    rw [hrow 10 (by omega) (by omega) (by omega) (by omega), hrow 11 (by omega) (by omega) (by omega) (by omega), hrow 12 (by omega) (by omega) (by omega) (by omega), hrow 13 (by omega) (by omega) (by omega) (by omega), show I2 137 (450 + 5 * j) = I 137 (450 + 5 * j) by rw [r137, if_neg (by omega)], show I2 137 (451 + 5 * j) = I 137 (451 + 5 * j) by rw [r137, if_neg (by omega)], show I2 137 (452 + 5 * j) = I 137 (452 + 5 * j) by rw [r137, if_neg (by omega)], show I2 137 (453 + 5 * j) = I 137 (453 + 5 * j) by rw [r137, if_neg (by omega)]]
    by_cases e : j = v
    · subst e
      rw [r14, if_pos rfl, show I2 137 (454 + 5 * j) = x by rw [r137, if_pos rfl]]
      exact ⟨z.1, z.2.1, z.2.2.1, z.2.2.2.1, rfl⟩
    · rw [r14, if_neg e, show I2 137 (454 + 5 * j) = I 137 (454 + 5 * j) by rw [r137, if_neg (by omega)]]
      exact z
  · exact MapR_f (by rw [r32]; (repeat rw [if_neg (by omega)]); rw [if_pos rfl]) (by rw [r32]; (repeat rw [if_neg (by omega)]); rw [if_pos rfl]) (by rw [r32, if_pos rfl])
theorem op_ends (q : Inv w I L Q) (x1 x2 x3 : Int32) (b1 : x1 = 0 ∨ x1 = 1) : OpI E w (fun h => F_L_ends E (rr w 136) x1 x2 x3 (rr w 164) h) (fun h => F_X12_ends E (rr w 163) x1 x2 x3 h) I L Q := by
  have q0 := q
  obtain ⟨c, q1, q2, q3, q4, q5, -⟩ := q
  have k1 := q1.1 1 (by decide)
  have k2 := q1.1 2 (by decide)
  simp only [mx] at k1 k2
  have e1 : I 0 3 = nI (c 1) := q2.2.1.1.trans k1.1
  have e2 : I 0 11 = nI (c 2) := q2.2.2.1.1.trans k2.1
  rcases b1 with rfl | rfl
  · by_cases p2 : bl x2 (c 2)
    · have p2' := p2
      obtain ⟨v, rfl, hv⟩ := p2'
      have z := q2.2.2.1.2 v hv
      have zf : I 13 v = I 137 (453 + 5 * v) := z.2.2.2.1
      have zt : I 14 v = I 137 (454 + 5 * v) := z.2.2.2.2
      have wy : yrs (I 137 (453 + 5 * v)) (I 137 (454 + 5 * v)) := (q1.2.2.2.1 v hv).2.2.2
      have c0 : ¬ nI v < 0 := nI_pos (by omega)
      have c1 : nI v < nI (c 2) := nI_lt hv (by omega)
      have i0 : ix ((450 : Int32) + (5 : Int32) * nI v + 3) 2988 = some (453 + 5 * v) := by rw [n450, n5, n3, pk_mul, nI_add, nI_add, show 450 + 5 * v + 3 = 453 + 5 * v by omega]; exact ix_n (by omega) (by decide)
      have i1 : ix ((450 : Int32) + (5 : Int32) * nI v + 3 + 1) 2988 = some (454 + 5 * v) := by rw [n450, n5, n3, pk_mul, nI_add, nI_add, nI_1, show 450 + 5 * v + 3 + 1 = 454 + 5 * v by omega]; exact ix_n (by omega) (by decide)
      by_cases py : I 137 (453 + 5 * v) ≤ x3 ∧ x3 ≤ I 137 (454 + 5 * v)
      · have d0 : ¬ x3 < I 137 (453 + 5 * v) := Int32.not_lt.mpr py.1
        have hy : yrs (I 137 (453 + 5 * v)) x3 := yrs_iff.mpr ⟨(yrs_iff.mp wy).1, fun e => (yrs_iff.mp wy).2.1 (Int32.lt_of_lt_of_le e py.2), py.1⟩
        refine ⟨0, I 137 (454 + 5 * v), up2 (up2 (up2 (up2 I 14 v x3) 32 1 0) 32 2 (-1)) 32 3 1, _, up2 L 164 0 (I 137 (454 + 5 * v)).toInt64, up2 L 164 0 (I 137 (454 + 5 * v)).toInt64, Q, Q, ?_, ?_, inv_endsM (u := (I 137 (454 + 5 * v)).toInt64) q0 q1 q2 q3 q4 q5 hv hy, ?_, fun _ => up2_s _ _ _ _⟩
        · show F_L_ends E (rr w 136) 0 (nI v) x3 (rr w 164) (Hw E w I L Q) = _
          unfold F_L_ends F_X11_ends J_X11_ends_26 J_X11_ends_62 J_X11_ends_85
          simp only [Option.bind_some, Option.map_some, Option.join, cI_r, cL_r, cV_r, xI_r, xL_r, xV_r, xI_t, xL_t, xV_t, lt_r, rtZ_0, rtZ_1, rtZ_zb, o136, o32, if_neg c0, if_true, gf136_0, gf136_3, gf0_11, e2, if_pos c1, gf0_15, gf0_16, ga13, ga14, ix_n (show v < 40 by omega) (show 40 < 2 ^ 31 by decide), zf, zt, if_neg d0, if_pos py.2, pa14, f_forget, pa164, ix01]
        · show F_X12_ends E (rr w 163) 0 (nI v) x3 _ = _
          generalize ea : up2 (up2 (up2 (up2 I 14 v x3) 32 1 0) 32 2 (-1)) 32 3 1 = J
          have hJ : (up2 J 163 3 0) 137 = I 137 := by rw [up2_row J 0 (by decide)]; subst ea; rfl
          have ks : (up2 J 163 3 0) 137 2 = nI (c 2) := by rw [hJ]; exact k2.1
          generalize eL : up2 L 164 0 (I 137 (454 + 5 * v)).toInt64 = LL
          have fi : F_X12_is E (rr w 163) 2 (nI v) (Hw E w (up2 J 163 3 0) LL Q) = rtI (zb (bl (nI v) (c 2))) _ := f_is (s := 2) (by decide) ks (by omega)
          unfold F_X12_ends J_X12_ends_15 J_X12_ends_53
          simp only [Option.bind_some, Option.map_some, Option.join, cI_r, cL_r, cV_r, xI_r, xL_r, xV_r, xI_t, xL_t, xV_t, lt_r, rtZ_0, rtZ_1, rtZ_zb, pf163_3, o163, if_true, fi, zn_t p2, gf163_0, ga137, i0, i1, hJ, wi_t, i64_le, zn_t py, pa137, pf163_4]
        · simp only [up2_lit, Nat.reduceEqDiff, false_and, and_false, and_self, true_and, if_false, if_true]
      · refine ⟨2, 0, I, up2 (up2 I 163 3 0) 163 3 2, L, L, Q, Q, ?_, ?_, Inv_t (Inv_t q0), up2_s _ _ _ _, fun e => absurd e (by decide)⟩
        · show F_L_ends E (rr w 136) 0 (nI v) x3 (rr w 164) (Hw E w I L Q) = _
          unfold F_L_ends F_X11_ends J_X11_ends_26 J_X11_ends_62 J_X11_ends_85
          simp only [Option.bind_some, Option.map_some, Option.join, cI_r, cL_r, cV_r, xI_r, xL_r, xV_r, xI_t, xL_t, xV_t, lt_r, rtZ_0, rtZ_1, rtZ_zb, o136, o32, if_neg c0, if_true, gf136_0, gf136_3, gf0_11, e2, if_pos c1, gf0_15, gf0_16, ga13, ga14, ix_n (show v < 40 by omega) (show 40 < 2 ^ 31 by decide), zf, zt]
          by_cases d0 : x3 < I 137 (453 + 5 * v)
          · simp only [Option.bind_some, Option.map_some, Option.join, cI_r, cL_r, cV_r, xI_r, xL_r, xV_r, xI_t, xL_t, xV_t, lt_r, rtZ_0, rtZ_1, rtZ_zb, if_pos d0, if_true]
          · have d1 : ¬ x3 ≤ I 137 (454 + 5 * v) := fun e => py ⟨Int32.not_lt.mp d0, e⟩
            simp only [Option.bind_some, Option.map_some, Option.join, cI_r, cL_r, cV_r, xI_r, xL_r, xV_r, xI_t, xL_t, xV_t, lt_r, rtZ_0, rtZ_1, rtZ_zb, if_neg d0, if_neg d1, if_true]
        · show F_X12_ends E (rr w 163) 0 (nI v) x3 _ = _
          have hJ : (up2 I 163 3 0) 137 = I 137 := up2_row I 0 (by decide)
          have ks : (up2 I 163 3 0) 137 2 = nI (c 2) := by rw [hJ]; exact k2.1
          have fi : F_X12_is E (rr w 163) 2 (nI v) (Hw E w (up2 I 163 3 0) L Q) = rtI (zb (bl (nI v) (c 2))) _ := f_is (s := 2) (by decide) ks (by omega)
          unfold F_X12_ends J_X12_ends_15 J_X12_ends_53
          simp only [Option.bind_some, Option.map_some, Option.join, cI_r, cL_r, cV_r, xI_r, xL_r, xV_r, xI_t, xL_t, xV_t, lt_r, rtZ_0, rtZ_1, rtZ_zb, pf163_3, o163, if_true, fi, zn_t p2, gf163_0, ga137, i0, i1, hJ, wi_t, i64_le, zn_f py, f_fails]
    · refine ⟨1, 0, I, up2 (up2 I 163 3 0) 163 3 1, L, L, Q, Q, ?_, ?_, Inv_t (Inv_t q0), up2_s _ _ _ _, fun e => absurd e (by decide)⟩
      · show F_L_ends E (rr w 136) 0 x2 x3 (rr w 164) (Hw E w I L Q) = _
        unfold F_L_ends F_X11_ends J_X11_ends_26
        by_cases c0 : x2 < 0
        · simp only [Option.bind_some, Option.map_some, Option.join, cI_r, cL_r, cV_r, xI_r, xL_r, xV_r, xI_t, xL_t, xV_t, lt_r, rtZ_0, rtZ_1, rtZ_zb, o136, if_pos c0, String.reduceEq, if_false, if_true]
        · have c1 : ¬ x2 < nI (c 2) := fun e => p2 ((bl_iff (by omega)).mpr ⟨c0, e⟩)
          simp only [Option.bind_some, Option.map_some, Option.join, cI_r, cL_r, cV_r, xI_r, xL_r, xV_r, xI_t, xL_t, xV_t, lt_r, rtZ_0, rtZ_1, rtZ_zb, o136, if_neg c0, if_true, gf136_0, gf0_11, e2, if_neg c1, String.reduceEq, if_false, if_true]
      · show F_X12_ends E (rr w 163) 0 x2 x3 _ = _
        have ks : (up2 I 163 3 0) 137 2 = nI (c 2) := k2.1
        have fi : F_X12_is E (rr w 163) 2 x2 (Hw E w (up2 I 163 3 0) L Q) = rtI (zb (bl x2 (c 2))) _ := f_is (s := 2) (by decide) ks (by omega)
        unfold F_X12_ends J_X12_ends_15
        simp only [Option.bind_some, Option.map_some, Option.join, cI_r, cL_r, cV_r, xI_r, xL_r, xV_r, xI_t, xL_t, xV_t, lt_r, rtZ_0, rtZ_1, rtZ_zb, pf163_3, o163, if_true, fi, zn_f p2, f_fails]
  · by_cases p2 : bl x2 (c 1)
    · have p2' := p2
      obtain ⟨v, rfl, hv⟩ := p2'
      have z := q2.2.1.2 v hv
      have zf : I 5 v = I 137 (94 + 6 * v) := z.2.2.1
      have zt : I 6 v = I 137 (95 + 6 * v) := z.2.2.2.1
      have wy : yrs (I 137 (94 + 6 * v)) (I 137 (95 + 6 * v)) := (q1.2.2.1 v hv).2.2.2.2.2
      have c0 : ¬ nI v < 0 := nI_pos (by omega)
      have c1 : nI v < nI (c 1) := nI_lt hv (by omega)
      have i0 : ix ((90 : Int32) + (6 : Int32) * nI v + 4) 2988 = some (94 + 6 * v) := by rw [n90, n6, n4, pk_mul, nI_add, nI_add, show 90 + 6 * v + 4 = 94 + 6 * v by omega]; exact ix_n (by omega) (by decide)
      have i1 : ix ((90 : Int32) + (6 : Int32) * nI v + 4 + 1) 2988 = some (95 + 6 * v) := by rw [n90, n6, n4, pk_mul, nI_add, nI_add, nI_1, show 90 + 6 * v + 4 + 1 = 95 + 6 * v by omega]; exact ix_n (by omega) (by decide)
      by_cases py : I 137 (94 + 6 * v) ≤ x3 ∧ x3 ≤ I 137 (95 + 6 * v)
      · have d0 : ¬ x3 < I 137 (94 + 6 * v) := Int32.not_lt.mpr py.1
        have hy : yrs (I 137 (94 + 6 * v)) x3 := yrs_iff.mpr ⟨(yrs_iff.mp wy).1, fun e => (yrs_iff.mp wy).2.1 (Int32.lt_of_lt_of_le e py.2), py.1⟩
        refine ⟨0, I 137 (95 + 6 * v), up2 (up2 (up2 (up2 I 6 v x3) 32 1 0) 32 2 (-1)) 32 3 1, _, up2 L 164 0 (I 137 (95 + 6 * v)).toInt64, up2 L 164 0 (I 137 (95 + 6 * v)).toInt64, Q, Q, ?_, ?_, inv_endsV (u := (I 137 (95 + 6 * v)).toInt64) q0 q1 q2 q3 q4 q5 hv hy, ?_, fun _ => up2_s _ _ _ _⟩
        · show F_L_ends E (rr w 136) 1 (nI v) x3 (rr w 164) (Hw E w I L Q) = _
          unfold F_L_ends F_X11_ends J_X11_ends_26 J_X11_ends_62 J_X11_ends_85
          simp only [Option.bind_some, Option.map_some, Option.join, cI_r, cL_r, cV_r, xI_r, xL_r, xV_r, xI_t, xL_t, xV_t, lt_r, rtZ_0, rtZ_1, rtZ_zb, o136, o32, if_neg c0, show ¬ (1 : Int32) = 0 by decide, if_false, gf136_0, gf136_3, gf0_3, e1, if_pos c1, gf0_6, gf0_7, ga5, ga6, ix_n (show v < 60 by omega) (show 60 < 2 ^ 31 by decide), zf, zt, if_neg d0, if_pos py.2, pa6, f_forget, pa164, ix01]
        · show F_X12_ends E (rr w 163) 1 (nI v) x3 _ = _
          generalize ea : up2 (up2 (up2 (up2 I 6 v x3) 32 1 0) 32 2 (-1)) 32 3 1 = J
          have hJ : (up2 J 163 3 0) 137 = I 137 := by rw [up2_row J 0 (by decide)]; subst ea; rfl
          have ks : (up2 J 163 3 0) 137 1 = nI (c 1) := by rw [hJ]; exact k1.1
          generalize eL : up2 L 164 0 (I 137 (95 + 6 * v)).toInt64 = LL
          have fi : F_X12_is E (rr w 163) 1 (nI v) (Hw E w (up2 J 163 3 0) LL Q) = rtI (zb (bl (nI v) (c 1))) _ := f_is (s := 1) (by decide) ks (by omega)
          unfold F_X12_ends J_X12_ends_15 J_X12_ends_53
          simp only [Option.bind_some, Option.map_some, Option.join, cI_r, cL_r, cV_r, xI_r, xL_r, xV_r, xI_t, xL_t, xV_t, lt_r, rtZ_0, rtZ_1, rtZ_zb, pf163_3, o163, show ¬ (1 : Int32) = 0 by decide, if_false, fi, zn_t p2, gf163_0, ga137, i0, i1, hJ, wi_t, i64_le, zn_t py, pa137, pf163_4]
        · simp only [up2_lit, Nat.reduceEqDiff, false_and, and_false, and_self, true_and, if_false, if_true]
      · refine ⟨2, 0, I, up2 (up2 I 163 3 0) 163 3 2, L, L, Q, Q, ?_, ?_, Inv_t (Inv_t q0), up2_s _ _ _ _, fun e => absurd e (by decide)⟩
        · show F_L_ends E (rr w 136) 1 (nI v) x3 (rr w 164) (Hw E w I L Q) = _
          unfold F_L_ends F_X11_ends J_X11_ends_26 J_X11_ends_62 J_X11_ends_85
          simp only [Option.bind_some, Option.map_some, Option.join, cI_r, cL_r, cV_r, xI_r, xL_r, xV_r, xI_t, xL_t, xV_t, lt_r, rtZ_0, rtZ_1, rtZ_zb, o136, o32, if_neg c0, show ¬ (1 : Int32) = 0 by decide, if_false, gf136_0, gf136_3, gf0_3, e1, if_pos c1, gf0_6, gf0_7, ga5, ga6, ix_n (show v < 60 by omega) (show 60 < 2 ^ 31 by decide), zf, zt]
          by_cases d0 : x3 < I 137 (94 + 6 * v)
          · simp only [Option.bind_some, Option.map_some, Option.join, cI_r, cL_r, cV_r, xI_r, xL_r, xV_r, xI_t, xL_t, xV_t, lt_r, rtZ_0, rtZ_1, rtZ_zb, if_pos d0, if_true]
          · have d1 : ¬ x3 ≤ I 137 (95 + 6 * v) := fun e => py ⟨Int32.not_lt.mp d0, e⟩
            simp only [Option.bind_some, Option.map_some, Option.join, cI_r, cL_r, cV_r, xI_r, xL_r, xV_r, xI_t, xL_t, xV_t, lt_r, rtZ_0, rtZ_1, rtZ_zb, if_neg d0, if_neg d1, if_true]
        · show F_X12_ends E (rr w 163) 1 (nI v) x3 _ = _
          have hJ : (up2 I 163 3 0) 137 = I 137 := up2_row I 0 (by decide)
          have ks : (up2 I 163 3 0) 137 1 = nI (c 1) := by rw [hJ]; exact k1.1
          have fi : F_X12_is E (rr w 163) 1 (nI v) (Hw E w (up2 I 163 3 0) L Q) = rtI (zb (bl (nI v) (c 1))) _ := f_is (s := 1) (by decide) ks (by omega)
          unfold F_X12_ends J_X12_ends_15 J_X12_ends_53
          simp only [Option.bind_some, Option.map_some, Option.join, cI_r, cL_r, cV_r, xI_r, xL_r, xV_r, xI_t, xL_t, xV_t, lt_r, rtZ_0, rtZ_1, rtZ_zb, pf163_3, o163, show ¬ (1 : Int32) = 0 by decide, if_false, fi, zn_t p2, gf163_0, ga137, i0, i1, hJ, wi_t, i64_le, zn_f py, f_fails]
    · refine ⟨1, 0, I, up2 (up2 I 163 3 0) 163 3 1, L, L, Q, Q, ?_, ?_, Inv_t (Inv_t q0), up2_s _ _ _ _, fun e => absurd e (by decide)⟩
      · show F_L_ends E (rr w 136) 1 x2 x3 (rr w 164) (Hw E w I L Q) = _
        unfold F_L_ends F_X11_ends J_X11_ends_26
        by_cases c0 : x2 < 0
        · simp only [Option.bind_some, Option.map_some, Option.join, cI_r, cL_r, cV_r, xI_r, xL_r, xV_r, xI_t, xL_t, xV_t, lt_r, rtZ_0, rtZ_1, rtZ_zb, o136, if_pos c0, String.reduceEq, if_false, if_true]
        · have c1 : ¬ x2 < nI (c 1) := fun e => p2 ((bl_iff (by omega)).mpr ⟨c0, e⟩)
          simp only [Option.bind_some, Option.map_some, Option.join, cI_r, cL_r, cV_r, xI_r, xL_r, xV_r, xI_t, xL_t, xV_t, lt_r, rtZ_0, rtZ_1, rtZ_zb, o136, if_neg c0, show ¬ (1 : Int32) = 0 by decide, if_false, gf136_0, gf0_3, e1, if_neg c1, String.reduceEq, if_false, if_true]
      · show F_X12_ends E (rr w 163) 1 x2 x3 _ = _
        have ks : (up2 I 163 3 0) 137 1 = nI (c 1) := k1.1
        have fi : F_X12_is E (rr w 163) 1 x2 (Hw E w (up2 I 163 3 0) L Q) = rtI (zb (bl x2 (c 1))) _ := f_is (s := 1) (by decide) ks (by omega)
        unfold F_X12_ends J_X12_ends_15
        simp only [Option.bind_some, Option.map_some, Option.join, cI_r, cL_r, cV_r, xI_r, xL_r, xV_r, xI_t, xL_t, xV_t, lt_r, rtZ_0, rtZ_1, rtZ_zb, pf163_3, o163, show ¬ (1 : Int32) = 0 by decide, if_false, fi, zn_f p2, f_fails]
end
