/-! calls that tell: means, walker, mark, went -/
section
variable {E : Ev} {w : Wo} {I : Nat → Nat → Int32} {L : Nat → Nat → Int64} {Q : Nat → Nat → Option Nat} {c : Nat → Nat} {x y : Int32}
theorem inv_means {t n : Nat} {x3 : Int32} {v : Int64} (q0 : Inv w I L Q) (q1 : WfT (I 137) c) (q2 : LandR I (I 137) c) (q3 : FolkR (fun j => I (15 + j)) (I 137) c) (q4 : BookR (fun j => I (22 + j)) (I 137) c) (q5 : MapR I L (I 137) c) (ht : t < c 3) (hn : n < 12) (hx : bd x3 0 4095) : Inv w (up2 (up2 (up2 (up2 I 16 (12 * t + n) (x3)) 163 (3) (0)) 163 (4) (-1)) 137 (650 + 12 * t + n) (x3)) (up2 L 164 0 v) Q := by
  have k3 : c 3 ≤ 6 := (q1.1 3 (by decide)).2
  generalize e2 : up2 (up2 (up2 (up2 I 16 (12 * t + n) (x3)) 163 (3) (0)) 163 (4) (-1)) 137 (650 + 12 * t + n) (x3) = I2
  have hrow : ∀ k, k ≠ 16 → k ≠ 163 → k ≠ 137 → I2 k = I k := by
    intro k z16 z163 z137; funext i; subst e2; simp only [up2_lit, z16, z163, z137, false_and, if_false]
  have r16 : ∀ i, I2 16 i = if i = 12 * t + n then x3 else I 16 i := by
    intro i; subst e2; simp only [up2_lit, Nat.reduceEqDiff, false_and, true_and, if_false]
  have r163 : ∀ i, I2 163 i = if i = 4 then -1 else if i = 3 then 0 else I 163 i := by
    intro i; subst e2; simp only [up2_lit, Nat.reduceEqDiff, false_and, true_and, if_false]
  have r137 : ∀ i, I2 137 i = if i = 650 + 12 * t + n then x3 else I 137 i := by
    intro i; subst e2; simp only [up2_lit, Nat.reduceEqDiff, false_and, true_and, if_false]
  clear e2
  refine sec_3 (c2 := c) q0 q1.1 q1 q2 q3 q4 q5 (fun k hk => hrow k (by omega) (by omega) (by omega)) (fun i hi => by rw [r163]; (repeat rw [if_neg (by omega)])) (by rw [r163]; rfl) (fun k hk => up2_row L _ (by omega)) (fun _ _ _ => rfl) (Nat.le_refl _) k3 (fun i h1 h2 => by rw [r137, if_neg (by omega)]) (by rw [r137, if_neg (by omega)]; exact (q1.1 3 (by decide)).1) (fun k h1 h2 h3 => hrow k h2 (by omega) (by omega)) (fun f _ => by rw [hrow 15 (by omega) (by omega) (by omega)]) (by rw [hrow 15 (by omega) (by omega) (by omega)]; exact q3.1.1.trans (q1.1 3 (by decide)).1) ?_ ?_ (hrow 32 (by omega) (by omega) (by omega)) (hrow 38 (by omega) (by omega) (by omega)) (fun k h1 h2 => up2_row L _ (by omega))
  · intro j hj m hm
    rw [r137]
    by_cases e : 650 + 12 * j + m = 650 + 12 * t + n
    · rw [if_pos e]; exact hx
    · rw [if_neg e]; exact q1.2.2.2.2.1 j hj m hm
  · intro j hj m hm
    rw [r137, r16]
    by_cases e : 12 * j + m = 12 * t + n
    · rw [if_pos e, if_pos (by omega)]
    · rw [if_neg e, if_neg (by omega)]; exact q3.1.2 j hj m hm
theorem op_means (q : Inv w I L Q) (x1 x2 x3 : Int32) : OpI E w (fun h => F_L_means E (rr w 136) x1 x2 x3 (rr w 164) h) (fun h => F_X12_means E (rr w 163) x1 x2 x3 h) I L Q := by
  have q0 := q
  obtain ⟨c, q1, q2, q3, q4, q5, -⟩ := q
  have h3 := q1.1 3 (by decide)
  simp only [mx] at h3
  have hn : I 15 0 = nI (c 3) := q3.1.1.trans h3.1
  have hn' : (up2 I 163 3 0) 137 3 = nI (c 3) := h3.1
  have bad1 : (¬ bl x1 (c 3) ∨ ¬ bl x2 12) → OpI E w (fun h => F_L_means E (rr w 136) x1 x2 x3 (rr w 164) h) (fun h => F_X12_means E (rr w 163) x1 x2 x3 h) I L Q := by
    intro hb
    refine ⟨1, 0, I, up2 (up2 I 163 3 0) 163 3 1, L, L, Q, Q, ?_, ?_, Inv_t (Inv_t q0), up2_s _ _ _ _, fun e => absurd e (by decide)⟩
    · show F_L_means E (rr w 136) x1 x2 x3 (rr w 164) (Hw E w I L Q) = _
      unfold F_L_means F_X11_means
      by_cases p1 : bl x1 (c 3)
      · have p2 : ¬ bl x2 12 := hb.resolve_left (not_not_intro p1)
        simp only [Option.bind_some, Option.map_some, Option.join, cI_r, cL_r, cV_r, xI_r, xL_r, xV_r, xI_t, xL_t, xV_t, lt_r, rtZ_0, rtZ_1, rtZ_zb, o136, f_needTongue hn (by omega), nd_t p1, f_needName, nd_f p2, String.reduceEq, if_false, if_true]
      · simp only [Option.bind_some, Option.map_some, Option.join, cI_r, cL_r, cV_r, xI_r, xL_r, xV_r, xI_t, xL_t, xV_t, lt_r, rtZ_0, rtZ_1, rtZ_zb, o136, f_needTongue hn (by omega), nd_f p1, String.reduceEq, if_false, if_true]
    · show F_X12_means E (rr w 163) x1 x2 x3 _ = _
      unfold F_X12_means
      by_cases p1 : bl x1 (c 3)
      · have p2 : ¬ bl x2 12 := hb.resolve_left (not_not_intro p1)
        simp only [Option.bind_some, Option.map_some, Option.join, cI_r, cL_r, cV_r, xI_r, xL_r, xV_r, xI_t, xL_t, xV_t, lt_r, rtZ_0, rtZ_1, rtZ_zb, pf163_3, o163, n3, f_is (show 3 < 2988 by decide) hn' (by omega), zi_t p1, f_isName, zn_f p2, f_fails]
      · simp only [Option.bind_some, Option.map_some, Option.join, cI_r, cL_r, cV_r, xI_r, xL_r, xV_r, xI_t, xL_t, xV_t, lt_r, rtZ_0, rtZ_1, rtZ_zb, pf163_3, o163, n3, f_is (show 3 < 2988 by decide) hn' (by omega), zi_f p1, f_fails]
  by_cases p1 : bl x1 (c 3)
  · by_cases p2 : bl x2 12
    · by_cases p3 : bd x3 0 4095
      · have p1' := p1
        have p2' := p2
        obtain ⟨t, rfl, ht⟩ := p1'
        obtain ⟨n, rfl, hn2⟩ := p2'
        have e1 : ix (nI t * (12 : Int32) + nI n) 72 = some (12 * t + n) := by rw [n12, pk_mul, nI_add, show t * 12 + n = 12 * t + n by omega]; exact ix_n (by omega) (by decide)
        have e2 : ix ((650 : Int32) + (12 : Int32) * nI t + nI n) 2988 = some (650 + 12 * t + n) := by rw [n650, n12, pk_mul, nI_add, nI_add]; exact ix_n (by omega) (by decide)
        have e3 : I 16 (12 * t + n) = I 137 (650 + 12 * t + n) := q3.1.2 t ht n hn2
        refine ⟨0, I 137 (650 + 12 * t + n), up2 I 16 (12 * t + n) x3, _, up2 L 164 0 (I 137 (650 + 12 * t + n)).toInt64, up2 L 164 0 (I 137 (650 + 12 * t + n)).toInt64, Q, Q, ?_, ?_, inv_means (v := (I 137 (650 + 12 * t + n)).toInt64) q0 q1 q2 q3 q4 q5 ht hn2 p3, ?_, fun _ => up2_s _ _ _ _⟩
        · show F_L_means E (rr w 136) (nI t) (nI n) x3 (rr w 164) (Hw E w I L Q) = _
          unfold F_L_means F_X11_means
          simp only [Option.bind_some, Option.map_some, Option.join, cI_r, cL_r, cV_r, xI_r, xL_r, xV_r, xI_t, xL_t, xV_t, lt_r, rtZ_0, rtZ_1, rtZ_zb, o136, f_needTongue hn (by omega), nd_t p1, f_needName, nd_t p2, f_needKinds, nd_t p3, gf136_1, gf15_1, ga16, pa16, e1, e3, pa164, ix01]
        · show F_X12_means E (rr w 163) (nI t) (nI n) x3 _ = _
          unfold F_X12_means
          have hn2' : (up2 (up2 I 16 (12 * t + n) x3) 163 3 0) 137 3 = nI (c 3) := h3.1
          simp only [Option.bind_some, Option.map_some, Option.join, cI_r, cL_r, cV_r, xI_r, xL_r, xV_r, xI_t, xL_t, xV_t, lt_r, rtZ_0, rtZ_1, rtZ_zb, pf163_3, o163, n3, f_is (show 3 < 2988 by decide) hn2' (by omega), zi_t p1, f_isName, zn_t p2, f_wi 4095 (by decide) (show (nI 4095).toInt64 = 4095 by rfl), zn_t p3, pf163_4, gf163_0, ga137, pa137, e2, up2_lit, Nat.reduceEqDiff, false_and, if_false]
        · simp only [up2_lit, Nat.reduceEqDiff, false_and, true_and, if_false, if_true]
      · refine ⟨2, 0, I, up2 (up2 I 163 3 0) 163 3 2, L, L, Q, Q, ?_, ?_, Inv_t (Inv_t q0), up2_s _ _ _ _, fun e => absurd e (by decide)⟩
        · show F_L_means E (rr w 136) x1 x2 x3 (rr w 164) (Hw E w I L Q) = _
          unfold F_L_means F_X11_means
          simp only [Option.bind_some, Option.map_some, Option.join, cI_r, cL_r, cV_r, xI_r, xL_r, xV_r, xI_t, xL_t, xV_t, lt_r, rtZ_0, rtZ_1, rtZ_zb, o136, f_needTongue hn (by omega), nd_t p1, f_needName, nd_t p2, f_needKinds, nd_f p3, String.reduceEq, if_false, if_true]
        · show F_X12_means E (rr w 163) x1 x2 x3 _ = _
          unfold F_X12_means
          simp only [Option.bind_some, Option.map_some, Option.join, cI_r, cL_r, cV_r, xI_r, xL_r, xV_r, xI_t, xL_t, xV_t, lt_r, rtZ_0, rtZ_1, rtZ_zb, pf163_3, o163, n3, f_is (show 3 < 2988 by decide) hn' (by omega), zi_t p1, f_isName, zn_t p2, f_wi 4095 (by decide) (show (nI 4095).toInt64 = 4095 by rfl), zn_f p3, f_fails]
    · exact bad1 (Or.inr p2)
  · exact bad1 (Or.inl p1)
end
