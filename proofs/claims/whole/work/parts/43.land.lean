section
variable {E : Ev} {w : Wo} {I : Nat → Nat → Int32} {L : Nat → Nat → Int64} {Q : Nat → Nat → Option Nat}
theorem f_isTaken {x y : Int32} {P : Nat} (hG : 100000 ≤ E.2.2.1) (hP : I 0 0 = nI P) (hP4 : P ≤ 40) : F_X3_isTaken E (rr w 0) x y (Hw E w I L Q) = rtI (zb (∃ p, p < P ∧ I 1 p = x ∧ I 2 p = y)) (Hw E w I L Q) := by
  refine srch (Lp := fun g i => L_X3_isTaken_2 E (rr w 0) x y g i (Hw E w I L Q)) (N := P) (c := fun p => I 1 p = x ∧ I 2 p = y) (R := fun _ => rtI 1 (Hw E w I L Q)) (Z := rtI 0 (Hw E w I L Q)) ?_ ?_ ?_ ?_ ?_ _ (by omega)
  · intro g i hi _ hc
    show L_X3_isTaken_2 E (rr w 0) x y (g + 1) (nI i) (Hw E w I L Q) = _
    rw [L_X3_isTaken_2]
    simp only [Option.bind_some, Option.map_some, Option.join, cI_r, cL_r, cV_r, xI_r, xL_r, xV_r, xI_t, xL_t, xV_t, lt_r, rtZ_0, rtZ_1, rtZ_zb, o0, gf0_0, pf0_0, gf0_1, gf0_2, gf0_3, pf0_3, gf0_4, gf0_5, gf0_6, gf0_7, gf0_8, gf0_9, gf0_10, gf0_11, pf0_11, gf0_12, gf0_13, gf0_14, gf0_15, gf0_16, ga1, pa1, ga2, pa2, hP, if_neg (nI_ge hi (show P < 2 ^ 31 by omega)), ix_n (show i < 40 by omega) (by decide), hc.1, hc.2, not_true_eq_false, if_false]
  · intro g i hi _ hc
    show L_X3_isTaken_2 E (rr w 0) x y (g + 1) (nI i) (Hw E w I L Q) = L_X3_isTaken_2 E (rr w 0) x y g (nI i + 1) (Hw E w I L Q)
    rw [L_X3_isTaken_2]
    simp only [Option.bind_some, Option.map_some, Option.join, cI_r, cL_r, cV_r, xI_r, xL_r, xV_r, xI_t, xL_t, xV_t, lt_r, rtZ_0, rtZ_1, rtZ_zb, o0, gf0_0, pf0_0, gf0_1, gf0_2, gf0_3, pf0_3, gf0_4, gf0_5, gf0_6, gf0_7, gf0_8, gf0_9, gf0_10, gf0_11, pf0_11, gf0_12, gf0_13, gf0_14, gf0_15, gf0_16, ga1, pa1, ga2, pa2, hP, if_neg (nI_ge hi (show P < 2 ^ 31 by omega)), ix_n (show i < 40 by omega) (by decide)]
    by_cases c1 : I 1 i = x
    · have c2 : ¬ I 2 i = y := fun e => hc ⟨c1, e⟩
      rw [if_neg (not_not_intro c1), if_pos c2]
    · rw [if_pos c1]
  · intro g hn
    show L_X3_isTaken_2 E (rr w 0) x y (g + 1) (nI P) (Hw E w I L Q) = _
    rw [L_X3_isTaken_2]
    simp only [Option.bind_some, Option.map_some, Option.join, cI_r, cL_r, cV_r, xI_r, xL_r, xV_r, xI_t, xL_t, xV_t, lt_r, rtZ_0, rtZ_1, rtZ_zb, o0, gf0_0, pf0_0, gf0_1, gf0_2, gf0_3, pf0_3, gf0_4, gf0_5, gf0_6, gf0_7, gf0_8, gf0_9, gf0_10, gf0_11, pf0_11, gf0_12, gf0_13, gf0_14, gf0_15, gf0_16, ga1, pa1, ga2, pa2, hP, if_pos (nI_le (Nat.le_refl P) (show P < 2 ^ 31 by omega))]
  · intro i hi _ hc
    rw [zb_t ⟨i, hi, hc⟩]
  · intro hn
    rw [zb_f (fun ⟨p, hp, e⟩ => hn p hp e)]
theorem f_addPlace {x y : Int32} {P : Nat} (hP : I 0 0 = nI P) (hP4 : P ≤ 40) : F_X3_addPlace E (rr w 0) x y (Hw E w I L Q) = if P = 40 then rtI (-1) (Hw E w I L Q) else rtI (nI P) (Hw E w (up2 (up2 (up2 I 1 P x) 2 P y) 0 0 (nI (P + 1))) L Q) := by
  unfold F_X3_addPlace
  by_cases c : P = 40
  · subst c
    simp only [Option.bind_some, Option.map_some, Option.join, cI_r, cL_r, cV_r, xI_r, xL_r, xV_r, xI_t, xL_t, xV_t, lt_r, rtZ_0, rtZ_1, rtZ_zb, o0, gf0_0, pf0_0, gf0_1, gf0_2, gf0_3, pf0_3, gf0_4, gf0_5, gf0_6, gf0_7, gf0_8, gf0_9, gf0_10, gf0_11, pf0_11, gf0_12, gf0_13, gf0_14, gf0_15, gf0_16, ga1, pa1, ga2, pa2, hP, if_pos, n40, if_neg (nI_nlt (Nat.le_refl 40) (by decide))]
  · simp only [Option.bind_some, Option.map_some, Option.join, cI_r, cL_r, cV_r, xI_r, xL_r, xV_r, xI_t, xL_t, xV_t, lt_r, rtZ_0, rtZ_1, rtZ_zb, o0, gf0_0, pf0_0, gf0_1, gf0_2, gf0_3, pf0_3, gf0_4, gf0_5, gf0_6, gf0_7, gf0_8, gf0_9, gf0_10, gf0_11, pf0_11, gf0_12, gf0_13, gf0_14, gf0_15, gf0_16, ga1, pa1, ga2, pa2, hP, n40, if_pos (nI_lt (show P < 40 by omega) (by decide)), if_neg c, up2_lit, Nat.reduceEqDiff, Nat.one_ne_zero, Nat.zero_ne_one, false_and, and_false, true_and, and_true, if_false, if_true, reduceIte, ix_n (show P < 40 by omega) (by decide), nI_1]
end
