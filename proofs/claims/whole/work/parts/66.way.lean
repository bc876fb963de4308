/-! way -/
section
variable {E : Ev} {w : Wo} {I : Nat → Nat → Int32} {L : Nat → Nat → Int64} {Q : Nat → Nat → Option Nat} {c : Nat → Nat} {x y : Int32}
def samE (T : Ro) (a b : Int32) (v : Nat) : Prop := (T (90 + 6 * v) = a ∧ T (91 + 6 * v) = b) ∨ (T (90 + 6 * v) = b ∧ T (91 + 6 * v) = a)
def jnd (T : Ro) (c : Nat → Nat) (a b f t : Int32) : Prop := ∃ v, v < c 1 ∧ samE T a b v ∧ T (94 + 6 * v) ≤ t ∧ f ≤ T (95 + 6 * v)
theorem f_isJoined {a b f t : Int32} (hG : 100000 ≤ E.2.2.1) (q1 : Cts (I 137) c) (q2 : I 0 3 = I 137 1 ∧ ∀ v, v < c 1 → LandV I (I 137) v) : F_X3_isJoined E (rr w 0) a b f t (Hw E w I L Q) = rtI (zb (jnd (I 137) c a b f t)) (Hw E w I L Q) := by
  have k1 := q1 1 (by decide)
  simp only [mx] at k1
  have e1 : I 0 3 = nI (c 1) := q2.1.trans k1.1
  unfold F_X3_isJoined
  refine srch (Lp := fun g i => L_X3_isJoined_3 E (rr w 0) a b f t g i (Hw E w I L Q)) (N := c 1) (c := fun v => samE (I 137) a b v ∧ I 137 (94 + 6 * v) ≤ t ∧ f ≤ I 137 (95 + 6 * v)) (R := fun _ => rtI 1 (Hw E w I L Q)) (Z := rtI 0 (Hw E w I L Q)) ?_ ?_ ?_ ?_ ?_ _ (by omega)
  all_goals try (intro g i hi _ hc)
  · obtain ⟨-, -, h5, h6, s0, s1, -⟩ := q2.2 i hi
    have i0 : ix ((4 : Int32) * nI i) 240 = some (4 * i) := by rw [n4, pk_mul]; exact ix_n (by omega) (by decide)
    have i1 : ix ((4 : Int32) * nI i + 1) 240 = some (4 * i + 1) := by rw [n4, pk_mul, nI_1]; exact ix_n (by omega) (by decide)
    show L_X3_isJoined_3 E (rr w 0) a b f t (g + 1) (nI i) (Hw E w I L Q) = _
    rw [L_X3_isJoined_3]
    unfold J_X3_isJoined_48 J_X3_isJoined_65
    simp only [Option.bind_some, Option.map_some, Option.join, cI_r, cL_r, cV_r, xI_r, xL_r, xV_r, xI_t, xL_t, xV_t, lt_r, rtZ_0, rtZ_1, rtZ_zb, o0, gf0_0, pf0_0, gf0_1, gf0_2, gf0_3, pf0_3, gf0_4, gf0_5, gf0_6, gf0_7, gf0_8, gf0_9, gf0_10, gf0_11, pf0_11, gf0_12, gf0_13, gf0_14, gf0_15, gf0_16, ga5, pa5, ga6, pa6, ga7, pa7, e1, if_neg (nI_ge hi (show c 1 < 2 ^ 31 by omega)), i0, i1, s0, s1, h5, h6, ix_n (show i < 60 by omega) (show 60 < 2 ^ 31 by decide), if_true, if_false, show ¬ (1 : Int32) = 0 by decide, if_neg (Int32.not_lt.mpr hc.2.1), if_neg (Int32.not_lt.mpr hc.2.2)]
    rcases hc.1 with ⟨z1, z2⟩ | ⟨z1, z2⟩
    · rw [if_neg (not_not_intro z1), if_pos z2]
    · by_cases za : I 137 (90 + 6 * i) = a
      · rw [if_neg (not_not_intro za)]
        by_cases zb : I 137 (91 + 6 * i) = b
        · rw [if_pos zb]
        · rw [if_neg zb, if_neg (not_not_intro z1), if_neg (not_not_intro z2)]
      · rw [if_pos za, if_neg (not_not_intro z1), if_neg (not_not_intro z2)]
  · obtain ⟨-, -, h5, h6, s0, s1, -⟩ := q2.2 i hi
    have i0 : ix ((4 : Int32) * nI i) 240 = some (4 * i) := by rw [n4, pk_mul]; exact ix_n (by omega) (by decide)
    have i1 : ix ((4 : Int32) * nI i + 1) 240 = some (4 * i + 1) := by rw [n4, pk_mul, nI_1]; exact ix_n (by omega) (by decide)
    show L_X3_isJoined_3 E (rr w 0) a b f t (g + 1) (nI i) (Hw E w I L Q) = L_X3_isJoined_3 E (rr w 0) a b f t g (nI i + 1) (Hw E w I L Q)
    rw [L_X3_isJoined_3]
    unfold J_X3_isJoined_48 J_X3_isJoined_65
    simp only [Option.bind_some, Option.map_some, Option.join, cI_r, cL_r, cV_r, xI_r, xL_r, xV_r, xI_t, xL_t, xV_t, lt_r, rtZ_0, rtZ_1, rtZ_zb, o0, gf0_0, pf0_0, gf0_1, gf0_2, gf0_3, pf0_3, gf0_4, gf0_5, gf0_6, gf0_7, gf0_8, gf0_9, gf0_10, gf0_11, pf0_11, gf0_12, gf0_13, gf0_14, gf0_15, gf0_16, ga5, pa5, ga6, pa6, ga7, pa7, e1, if_neg (nI_ge hi (show c 1 < 2 ^ 31 by omega)), i0, i1, s0, s1, h5, h6, ix_n (show i < 60 by omega) (show 60 < 2 ^ 31 by decide), if_true, if_false, show ¬ (1 : Int32) = 0 by decide]
    by_cases hs : samE (I 137) a b i
    · have tl : (if t < I 137 (94 + 6 * i) then L_X3_isJoined_3 E (rr w 0) a b f t g (nI i + 1) (Hw E w I L Q) else if I 137 (95 + 6 * i) < f then L_X3_isJoined_3 E (rr w 0) a b f t g (nI i + 1) (Hw E w I L Q) else rtI 1 (Hw E w I L Q)) = L_X3_isJoined_3 E (rr w 0) a b f t g (nI i + 1) (Hw E w I L Q) := by
        by_cases c1 : t < I 137 (94 + 6 * i)
        · rw [if_pos c1]
        · by_cases c2 : I 137 (95 + 6 * i) < f
          · rw [if_neg c1, if_pos c2]
          · exact absurd ⟨hs, Int32.not_lt.mp c1, Int32.not_lt.mp c2⟩ hc
      rw [tl]
      rcases hs with ⟨z1, z2⟩ | ⟨z1, z2⟩
      · rw [if_neg (not_not_intro z1), if_pos z2]
      · by_cases za : I 137 (90 + 6 * i) = a
        · rw [if_neg (not_not_intro za)]
          by_cases zb : I 137 (91 + 6 * i) = b
          · rw [if_pos zb]
          · rw [if_neg zb, if_neg (not_not_intro z1), if_neg (not_not_intro z2)]
        · rw [if_pos za, if_neg (not_not_intro z1), if_neg (not_not_intro z2)]
    · have tl : ∀ X Y : Rs, (if ¬ I 137 (90 + 6 * i) = b then X else if ¬ I 137 (91 + 6 * i) = a then X else Y) = X := by
        intro X Y
        by_cases z1 : I 137 (90 + 6 * i) = b
        · rw [if_neg (not_not_intro z1), if_pos (fun z2 => hs (Or.inr ⟨z1, z2⟩))]
        · rw [if_pos z1]
      rw [tl]
      by_cases za : I 137 (90 + 6 * i) = a
      · rw [if_neg (not_not_intro za), if_neg (fun zb => hs (Or.inl ⟨za, zb⟩))]
      · rw [if_pos za]
  · intro g hn
    show L_X3_isJoined_3 E (rr w 0) a b f t (g + 1) (nI (c 1)) (Hw E w I L Q) = _
    rw [L_X3_isJoined_3]
    simp only [Option.bind_some, Option.map_some, Option.join, cI_r, cL_r, cV_r, xI_r, xL_r, xV_r, xI_t, xL_t, xV_t, lt_r, rtZ_0, rtZ_1, rtZ_zb, gf0_3, e1, if_pos (nI_le (Nat.le_refl (c 1)) (show c 1 < 2 ^ 31 by omega))]
  · intro i hi _ hc
    rw [zb_t ⟨i, hi, hc⟩]
  · intro hn
    rw [zb_f (fun ⟨p, hp, e⟩ => hn p hp e)]
end
