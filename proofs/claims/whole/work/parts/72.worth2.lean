section
variable {E : Ev} {w : Wo} {I : Nat → Nat → Int32} {L : Nat → Nat → Int64} {Q : Nat → Nat → Option Nat} {c : Nat → Nat} {x y : Int32}
def mks (T : Ro) (d : Nat) (yr : Int32) (m : Nat) : Prop := T (451 + 5 * m) = nI d ∧ T (453 + 5 * m) ≤ yr ∧ yr ≤ T (454 + 5 * m)
theorem f_marksOf {d : Nat} {yr : Int32} (hG : 100000 ≤ E.2.2.1) (q1 : WfT (I 137) c) (q2 : LandR I (I 137) c) : F_X3_marksOf E (rr w 0) (nI d) yr (Hw E w I L Q) = rtI (nI (cntP (mks (I 137) d yr) (c 2))) (Hw E w I L Q) := by
  have k2 := q1.1 2 (by decide)
  simp only [mx] at k2
  have e2 : I 0 11 = nI (c 2) := q2.2.2.1.1.trans k2.1
  unfold F_X3_marksOf
  refine lpI (σ := Int32) (Lp := fun g i s => L_X3_marksOf_5 E (rr w 0) (nI d) yr g s (nI i) (Hw E w I L Q)) (Inv := fun i s => s = nI (cntP (mks (I 137) d yr) i)) (N := c 2) ?_ ?_ E.2.2.1 0 0 (by omega) (by omega) rfl
  · intro g i s hi hs
    subst hs
    refine ⟨nI (cntP (mks (I 137) d yr) (i + 1)), rfl, ?_⟩
    show L_X3_marksOf_5 E (rr w 0) (nI d) yr (g + 1) _ (nI i) (Hw E w I L Q) = _
    obtain ⟨-, z1, -, z3, z4⟩ := q2.2.2.1.2 i hi
    rw [L_X3_marksOf_5]
    simp only [Option.bind_some, Option.map_some, Option.join, cI_r, cL_r, cV_r, xI_r, xL_r, xV_r, xI_t, xL_t, xV_t, lt_r, rtZ_0, rtZ_1, rtZ_zb, o0, gf0_0, pf0_0, gf0_1, gf0_2, gf0_3, pf0_3, gf0_4, gf0_5, gf0_6, gf0_7, gf0_8, gf0_9, gf0_10, gf0_11, pf0_11, gf0_12, gf0_13, gf0_14, gf0_15, gf0_16, ga11, pa11, ga13, pa13, ga14, pa14, e2, if_neg (nI_ge hi (show c 2 < 2 ^ 31 by omega)), ix_n (show i < 40 by omega) (show 40 < 2 ^ 31 by decide), z1, z3, z4, nI_1]
    by_cases p1 : I 137 (451 + 5 * i) = nI d
    · rw [if_neg (not_not_intro p1)]
      by_cases p2 : yr < I 137 (453 + 5 * i)
      · rw [if_pos p2, cntP_f (fun e => Int32.not_lt.mpr e.2.1 p2)]
      · rw [if_neg p2]
        by_cases p3 : I 137 (454 + 5 * i) < yr
        · rw [if_pos p3, cntP_f (fun e => Int32.not_lt.mpr e.2.2 p3)]
        · rw [if_neg p3, cntP_t ⟨p1, Int32.not_lt.mp p2, Int32.not_lt.mp p3⟩]
    · rw [if_pos p1, cntP_f (fun e => p1 e.1)]
  · intro g s hs
    subst hs
    show L_X3_marksOf_5 E (rr w 0) (nI d) yr (g + 1) _ (nI (c 2)) _ = _
    rw [L_X3_marksOf_5]
    simp only [Option.bind_some, Option.map_some, Option.join, cI_r, cL_r, cV_r, xI_r, xL_r, xV_r, xI_t, xL_t, xV_t, lt_r, rtZ_0, rtZ_1, rtZ_zb, gf0_11, e2, if_pos (nI_le (Nat.le_refl (c 2)) (show c 2 < 2 ^ 31 by omega))]
theorem b4095 : ∀ j, j < 12 → b32 4095 j := by
  intro j hj
  have : ∀ j, j < 12 → (4095 : Int32).toBitVec.getLsbD j = true := by decide
  exact this j hj
theorem isMk_all {m : Nat} {yr : Int32} (q1 : WfT (I 137) c) (hm : m < c 2) : isMk (I 137) m 4095 yr ↔ I 137 (453 + 5 * m) ≤ yr ∧ yr ≤ I 137 (454 + 5 * m) := by
  obtain ⟨d, ed, hd⟩ := (q1.2.2.2.1 m hm).2.1
  unfold isMk
  exact ⟨fun e => e.2, fun e => ⟨by rw [ed]; rw [show tn (nI d) = d from nI_clamp (by omega)]; exact b4095 d hd, e⟩⟩
theorem m_worth1 {m d : Nat} {yr : Int32} (hG : 100000 ≤ E.2.2.1) (q1 : WfT (I 137) c) (hm : m < c 2) (ed : I 137 (451 + 5 * m) = nI d) : L_X12_worth_86 E (rr w 163) (nI m) yr E.2.2.1 0 0 (Hw E w I L Q) = rtI (nI (cntP (fun i => i ≠ m ∧ mks (I 137) d yr i) (c 2))) (Hw E w I L Q) := by
  have k2 := q1.1 2 (by decide)
  simp only [mx] at k2
  have z0 : ∀ v : Int32, v + 0 = v := fun v => by rw [Int32.add_zero]
  refine lpI (σ := Int32) (Lp := fun g i s => L_X12_worth_86 E (rr w 163) (nI m) yr g s (nI i) (Hw E w I L Q)) (Inv := fun i s => s = nI (cntP (fun i => i ≠ m ∧ mks (I 137) d yr i) i)) (N := c 2) ?_ ?_ E.2.2.1 0 0 (by omega) (by omega) rfl
  · intro g i s hi hs
    subst hs
    refine ⟨nI (cntP (fun i => i ≠ m ∧ mks (I 137) d yr i) (i + 1)), rfl, ?_⟩
    show L_X12_worth_86 E (rr w 163) (nI m) yr (g + 1) _ (nI i) (Hw E w I L Q) = _
    have i1 : ix ((450 : Int32) + (5 : Int32) * nI i + 1) 2988 = some (451 + 5 * i) := by rw [n450, n5, pk_mul, nI_add, nI_1, show 450 + 5 * i + 1 = 451 + 5 * i by omega]; exact ix_n (by omega) (by decide)
    have j1 : ix ((450 : Int32) + (5 : Int32) * nI m + 1) 2988 = some (451 + 5 * m) := by rw [n450, n5, pk_mul, nI_add, nI_1, show 450 + 5 * m + 1 = 451 + 5 * m by omega]; exact ix_n (by omega) (by decide)
    rw [L_X12_worth_86]
    simp only [Option.bind_some, Option.map_some, Option.join, cI_r, cL_r, cV_r, xI_r, xL_r, xV_r, xI_t, xL_t, xV_t, lt_r, rtZ_0, rtZ_1, rtZ_zb, gf163_0, ga137, show ix 2 2988 = some 2 from rfl, k2.1, if_neg (nI_ge hi (show c 2 < 2 ^ 31 by omega)), i1, j1, ed, o163, f_isMark q1 hi, nI_1, z0]
    by_cases p0 : i = m
    · rw [if_pos (by rw [p0]), cntP_f (fun e => e.1 p0)]
    · rw [if_neg (fun e => p0 ((nI_eq (by omega) (by omega)).mp e))]
      by_cases p1 : I 137 (451 + 5 * i) = nI d
      · rw [if_neg (not_not_intro p1)]
        by_cases p2 : isMk (I 137) i 4095 yr
        · rw [zi_t p2, cntP_t ⟨p0, p1, (isMk_all q1 hi).mp p2⟩]
        · rw [zi_f p2, cntP_f (fun e => p2 ((isMk_all q1 hi).mpr e.2.2))]
      · rw [if_pos p1, cntP_f (fun e => p1 e.2.1)]
  · intro g s hs
    subst hs
    show L_X12_worth_86 E (rr w 163) (nI m) yr (g + 1) _ (nI (c 2)) _ = _
    rw [L_X12_worth_86]
    simp only [Option.bind_some, Option.map_some, Option.join, cI_r, cL_r, cV_r, xI_r, xL_r, xV_r, xI_t, xL_t, xV_t, lt_r, rtZ_0, rtZ_1, rtZ_zb, gf163_0, ga137, show ix 2 2988 = some 2 from rfl, k2.1, if_pos (nI_le (Nat.le_refl (c 2)) (show c 2 < 2 ^ 31 by omega))]
theorem m_worth0 {m d : Nat} {yr : Int32} (hG : 100000 ≤ E.2.2.1) (q1 : WfT (I 137) c) (hm : m < c 2) (ed : I 137 (451 + 5 * m) = nI d) (hd : d < 12) (hy : I 137 (453 + 5 * m) ≤ yr ∧ yr ≤ I 137 (454 + 5 * m)) : L_X12_worth_170 E (rr w 163) (nI m) x yr E.2.2.1 0 0 (Hw E w I L Q) = rtI (nI (cntP (knw (I 137) x d) (c 4))) (Hw E w I L Q) := by
  have k4 := q1.1 4 (by decide)
  simp only [mx] at k4
  have z0 : ∀ v : Int32, v + 0 = v := fun v => by rw [Int32.add_zero]
  have td : tn (nI d) = d := nI_clamp (by omega)
  refine lpI (σ := Int32) (Lp := fun g i s => L_X12_worth_170 E (rr w 163) (nI m) x yr g s (nI i) (Hw E w I L Q)) (Inv := fun i s => s = nI (cntP (knw (I 137) x d) i)) (N := c 4) ?_ ?_ E.2.2.1 0 0 (by omega) (by omega) rfl
  · intro g i s hi hs
    subst hs
    refine ⟨nI (cntP (knw (I 137) x d) (i + 1)), rfl, ?_⟩
    show L_X12_worth_170 E (rr w 163) (nI m) x yr (g + 1) _ (nI i) (Hw E w I L Q) = _
    rw [L_X12_worth_170]
    simp only [Option.bind_some, Option.map_some, Option.join, cI_r, cL_r, cV_r, xI_r, xL_r, xV_r, xI_t, xL_t, xV_t, lt_r, rtZ_0, rtZ_1, rtZ_zb, gf163_0, ga137, show ix 4 2988 = some 4 from rfl, k4.1, if_neg (nI_ge hi (show c 4 < 2 ^ 31 by omega))]
    rw [f_orM hG q1 hi]
    simp only [Option.bind_some, Option.map_some, Option.join, cI_r, cL_r, cV_r, xI_r, xL_r, xV_r, xI_t, xL_t, xV_t, lt_r, rtZ_0, rtZ_1, rtZ_zb, o163, f_isMark q1 hm, nI_1, z0]
    by_cases p1 : b32 x i
    · rw [if_neg (not_not_intro ((bit32 (by omega)).mpr p1))]
      by_cases p2 : b32 (orK (I 137) i 12) d
      · have p3 : isMk (I 137) m (orK (I 137) i 12) yr := ⟨by rw [ed, td]; exact p2, hy⟩
        rw [zi_t p3, cntP_t ⟨p1, p2⟩]
      · have p3 : ¬ isMk (I 137) m (orK (I 137) i 12) yr := fun e => p2 (by have := e.1; rw [ed, td] at this; exact this)
        rw [zi_f p3, cntP_f (fun e => p2 e.2)]
    · rw [if_pos (fun e => p1 ((bit32 (by omega)).mp e)), cntP_f (fun e => p1 e.1)]
  · intro g s hs
    subst hs
    show L_X12_worth_170 E (rr w 163) (nI m) x yr (g + 1) _ (nI (c 4)) _ = _
    rw [L_X12_worth_170]
    simp only [Option.bind_some, Option.map_some, Option.join, cI_r, cL_r, cV_r, xI_r, xL_r, xV_r, xI_t, xL_t, xV_t, lt_r, rtZ_0, rtZ_1, rtZ_zb, gf163_0, ga137, show ix 4 2988 = some 4 from rfl, k4.1, if_pos (nI_le (Nat.le_refl (c 4)) (show c 4 < 2 ^ 31 by omega))]
end
