/-! say: the reference's row; the call -/
section
variable {E : Ev} {w : Wo} {I : Nat → Nat → Int32} {L : Nat → Nat → Int64} {Q : Nat → Nat → Option Nat} {c : Nat → Nat} {x y : Int32}
theorem m_lays {j k : Nat} {a b d : Int32} (h16 : I 163 16 = 0) (hj : j < 10) (hk : k < 4) (e : I 145 (3 + j) = nI k) : ∃ I', (∀ k, k ≠ 145 → I' k = I k) ∧ (∀ i, i ≠ 3 + j → ¬ (13 + 16 * j + 4 * k ≤ i ∧ i < 16 + 16 * j + 4 * k) → I' 145 i = I 145 i) ∧ I' 145 (3 + j) = nI (k + 1) ∧ I' 145 (13 + 16 * j + 4 * k) = a ∧ I' 145 (14 + 16 * j + 4 * k) = b ∧ I' 145 (15 + 16 * j + 4 * k) = d ∧ F_X12_lays E (rr w 163) (nI j) a b d (Hw E w I L Q) = rtV (Hw E w I' L Q) := by
  have q4 : (up2 (up2 (up2 I 145 (13 + 16 * j + 4 * k) a) 145 (14 + 16 * j + 4 * k) b) 145 (15 + 16 * j + 4 * k) d) 145 (3 + j) = nI k := by
    rw [up2_i _ _ _ (by omega), up2_i _ _ _ (by omega), up2_i _ _ _ (by omega)]; exact e
  refine ⟨up2 (up2 (up2 (up2 I 145 (13 + 16 * j + 4 * k) a) 145 (14 + 16 * j + 4 * k) b) 145 (15 + 16 * j + 4 * k) d) 145 (3 + j) (nI (k + 1)), fun k' hk' => by rw [up2_row _ _ hk', up2_row _ _ hk', up2_row _ _ hk', up2_row _ _ hk'], fun i h1 h2 => by rw [up2_i _ _ _ (by omega), up2_i _ _ _ (by omega), up2_i _ _ _ (by omega), up2_i _ _ _ (by omega)], up2_s _ _ _ _, by rw [up2_i _ _ _ (by omega), up2_i _ _ _ (by omega), up2_i _ _ _ (by omega), up2_s], by rw [up2_i _ _ _ (by omega), up2_i _ _ _ (by omega), up2_s], by rw [up2_i _ _ _ (by omega), up2_s], ?_⟩
  unfold F_X12_lays F_X12_wordAt
  simp (disch := omega) only [Option.bind_some, Option.map_some, Option.join, cI_r, cL_r, cV_r, xI_r, xL_r, xV_r, xI_t, xL_t, xV_t, lt_r, rtZ_0, rtZ_1, rtZ_zb, gf163_16, h16, if_true, gf163_20, m2, m3, m4, m13, m16, pk_mul, nI_add, nI_1, ga145, pa145, ix_n, e, show 13 + 16 * j + 4 * k + 1 = 14 + 16 * j + 4 * k by omega, show 13 + 16 * j + 4 * k + 2 = 15 + 16 * j + 4 * k by omega, q4]
theorem m_say140 {t m : Nat} {u : Nat → Nat} (hG : 100000 ≤ E.2.2.1) (ht : t < 4) (em : I 161 t = nI m) (hm : m ≤ 10) (h16 : I 163 16 = 0) (hu : ∀ n, n < m → u n ≤ 30 ∧ L 162 (12 * t + n) = (nI (u n)).toInt64) : ∃ I', (∀ k, k ≠ 145 → I' k = I k) ∧ (∀ n, n < m → I' 145 (3 + n) = 1 ∧ I' 145 (13 + 16 * n) = lwK (u n) ∧ I' 145 (14 + 16 * n) = lwN (u n) ∧ I' 145 (15 + 16 * n) = lwA (u n)) ∧ ∀ K, L_X12_say_140 E K (rr w 163) (nI t) E.2.2.1 0 (Hw E w I L Q) = K (Hw E w I' L Q) := by
  refine lpK2 (ρ := (Hp → Rs) → Rs) (σ := Nat → Nat → Int32) (Lp := fun g i s => fun K => L_X12_say_140 E K (rr w 163) (nI t) g (nI i) (Hw E w s L Q)) (K := fun s => fun K => K (Hw E w s L Q)) (Iv := fun i s => (∀ k, k ≠ 145 → s k = I k) ∧ ∀ n, n < i → s 145 (3 + n) = 1 ∧ s 145 (13 + 16 * n) = lwK (u n) ∧ s 145 (14 + 16 * n) = lwN (u n) ∧ s 145 (15 + 16 * n) = lwA (u n)) (N := m) (g := E.2.2.1) (i := 0) (s := I) ?_ ?_ ?_ (by omega) (by omega) ⟨fun _ _ => rfl, fun p hp => absurd hp (by omega)⟩
  · rintro I1 ⟨z1, z2⟩ ee
    exact ⟨I1, z1, z2, fun K => congrFun ee K⟩
  · rintro g i I1 hi ⟨z1, z2⟩
    obtain ⟨h1, h2⟩ := hu i hi
    have em1 : I1 161 t = nI m := by rw [z1 _ (by omega)]; exact em
    generalize eJ : up2 I1 145 (3 + i) 0 = J
    have rJ : ∀ k, k ≠ 145 → J k = I k := fun k hk => by rw [← eJ, up2_row _ _ hk]; exact z1 k hk
    have vJ : J 145 (3 + i) = nI 0 := by rw [← eJ, up2_s]; rfl
    have oJ : ∀ x, x ≠ 3 + i → J 145 x = I1 145 x := fun x hx => by rw [← eJ, up2_i _ _ _ hx]
    have j16 : J 163 16 = 0 := by rw [rJ 163 (by decide)]; exact h16
    obtain ⟨I2, b1, b2, b3, b4, b5, b6, b7⟩ := m_lays (E := E) (w := w) (I := J) (L := L) (Q := Q) (j := i) (k := 0) (a := lwK (u i)) (b := lwN (u i)) (d := lwA (u i)) j16 (by omega) (by decide) vJ
    refine ⟨I2, ⟨fun k hk => by rw [b1 k hk]; exact rJ k hk, fun n hn => ?_⟩, ?_⟩
    · by_cases e : n = i
      · subst e
        exact ⟨b3, b4, b5, b6⟩
      · rw [b2 _ (by omega) (by omega), b2 _ (by omega) (by omega), b2 _ (by omega) (by omega), b2 _ (by omega) (by omega), oJ _ (by omega), oJ _ (by omega), oJ _ (by omega), oJ _ (by omega)]
        exact z2 n (by omega)
    · funext K
      show L_X12_say_140 E K (rr w 163) (nI t) (g + 1) (nI i) (Hw E w I1 L Q) = L_X12_say_140 E K (rr w 163) (nI t) g (nI (i + 1)) (Hw E w I2 L Q)
      rw [L_X12_say_140]
      simp (disch := omega) only [Option.bind_some, Option.map_some, Option.join, cI_r, cL_r, cV_r, xI_r, xL_r, xV_r, xI_t, xL_t, xV_t, lt_r, rtZ_0, rtZ_1, rtZ_zb, gf163_38, ga161, ix_n, em1, nI_leI, if_neg, gf163_39, m12, pk_mul, nI_add, ga162, h2, Int32.toInt32_toInt64, gf163_20, m3, pa145, eJ, o163]
      generalize hN : u i = N at *
      have i1 : (1 : Int32) = nI 1 := rfl
      have i0 : (0 : Int32) = nI 0 := rfl
      by_cases c0 : N = 0
      · subst c0
        rw [if_neg (not_not_intro (show nI 0 = 0 from rfl)), show F_X12_lays E (rr w 163) (nI i) 0 1 (-1) (Hw E w J L Q) = _ from b7, cV_r, nI_1]
      · have n0 : ¬ nI N = 0 := fun e => c0 ((nI_eq (by omega) (show 0 < 2 ^ 31 by decide)).mp e)
        rw [if_pos n0]
        by_cases c1 : 3 ≤ N
        · rw [if_pos c1]
          by_cases c2 : 15 ≤ N
          · rw [m15, if_pos (nI_le c2 (by omega))]
            by_cases c3 : 27 ≤ N
            · rw [m27, if_pos (nI_le c3 (by omega))]
              have rm : ∀ N, 27 ≤ N → N ≤ 30 → rmI (nI N - nI 27) (2 : Int32) = some (nI ((N - 27) % 2)) := by
                intro N g1 g2
                have : N = 27 ∨ N = 28 ∨ N = 29 ∨ N = 30 := by omega
                rcases this with rfl | rfl | rfl | rfl <;> decide
              have key : lwK N = 9 ∧ lwA N = -1 := by
                unfold lwK lwA
                rw [if_neg c0, if_neg (by omega), if_neg (by omega), if_neg (by omega), if_neg (by omega), if_neg (by omega), if_neg (by omega)]
                exact ⟨rfl, rfl⟩
              rw [key.1, key.2] at b7
              have J278 : ∀ q : Int32, lwN N = (2 : Int32) * q + nI ((N - 27) % 2) → J_X12_say_278 E (fun w1 h3 => L_X12_say_140 E K (rr w 163) (nI t) g w1 h3) (rr w 163) (nI t) (nI i) (nI N) (rr w 163) (nI i) 9 2 q (Hw E w J L Q) = L_X12_say_140 E K (rr w 163) (nI t) g (nI (i + 1)) (Hw E w I2 L Q) := by
                intro q eq
                unfold J_X12_say_278
                rw [m27, rm N c3 h1, Option.bind_some, o163, Option.bind_some, ← eq, b7, cV_r, nI_1]
              by_cases c4 : 29 ≤ N
              · rw [m29, if_pos (nI_le c4 (by omega))]
                refine J278 2 ?_
                unfold lwN
                rw [if_neg c0, if_neg (by omega), if_neg (by omega), if_neg (by omega)]
                rw [show (2 : Int32) * 2 = nI 4 from by decide, nI_add]
              · rw [m29, if_neg (nI_ge (show N < 29 by omega) (by decide))]
                refine J278 1 ?_
                unfold lwN
                rw [if_neg c0, if_neg (by omega), if_neg (by omega), if_pos (by omega)]
                rw [show (2 : Int32) * 1 = nI 2 from by decide, nI_add]
            · rw [m27, if_neg (nI_ge (show N < 27 by omega) (by decide))]
              have key : lwK N = 2 ∧ lwN N = 0 ∧ lwA N = nI N - nI 15 := by
                unfold lwK lwN lwA
                rw [if_neg c0, if_neg (by omega), if_neg (by omega), if_pos (by omega), if_neg c0, if_neg (by omega), if_pos (by omega), if_neg (by omega), if_neg (by omega), if_pos (by omega), nI_sub c2 (by omega)]
                exact ⟨rfl, rfl, rfl⟩
              rw [key.1, key.2.1, key.2.2] at b7
              rw [b7, cV_r, nI_1]
          · rw [m15, if_neg (nI_ge (show N < 15 by omega) (by decide))]
            have key : lwK N = 1 ∧ lwN N = 0 ∧ lwA N = nI N - nI 3 := by
              unfold lwK lwN lwA
              rw [if_neg c0, if_neg (by omega), if_pos (by omega), if_neg c0, if_neg (by omega), if_pos (by omega), if_neg (by omega), if_pos (by omega), nI_sub c1 (by omega)]
              exact ⟨rfl, rfl, rfl⟩
            rw [key.1, key.2.1, key.2.2] at b7
            rw [b7, cV_r, nI_1]
        · rw [if_neg c1]
          have key : lwK N = 8 ∧ lwN N = nI N - 1 ∧ lwA N = -1 := by
            unfold lwK lwN lwA
            rw [if_neg c0, if_pos (by omega), if_neg c0, if_pos (by omega), if_pos (by omega), i1, nI_sub (show 1 ≤ N by omega) (by omega)]
            exact ⟨rfl, rfl, rfl⟩
          rw [key.1, key.2.1, key.2.2] at b7
          rw [b7, cV_r, nI_1]
  · rintro g I1 ⟨z1, z2⟩
    have em1 : I1 161 t = nI m := by rw [z1 _ (by omega)]; exact em
    funext K
    show L_X12_say_140 E K (rr w 163) (nI t) (g + 1) (nI m) (Hw E w I1 L Q) = _
    rw [L_X12_say_140]
    simp (disch := omega) only [Option.bind_some, Option.map_some, Option.join, cI_r, cL_r, cV_r, xI_r, xL_r, xV_r, xI_t, xL_t, xV_t, lt_r, rtZ_0, rtZ_1, rtZ_zb, gf163_38, ga161, ix_n, em1, nI_leI, if_pos]
/-- the reference keeps a telling -/
theorem m_keeps {z : Nat} {x1 x2 x3 : Int32} (hG : 100000 ≤ E.2.2.1) (e5 : I 137 5 = nI z) (hz : z < 12) : ∃ I', (∀ k, k ≠ 137 → k ≠ 145 → k ≠ 163 → I' k = I k) ∧ (∀ i, i ≠ 4 → I' 163 i = I 163 i) ∧ I' 163 4 = -1 ∧ I' 137 5 = nI (z + 1) ∧ (∀ i, i ≠ 5 → ¬ (762 + 173 * z ≤ i ∧ i < 935 + 173 * z) → I' 137 i = I 137 i) ∧ I' 137 (762 + 173 * z) = x1 ∧ I' 137 (763 + 173 * z) = x2 ∧ I' 137 (764 + 173 * z) = x3 ∧ (∀ i, 3 ≤ i → i < 173 → I' 137 (762 + 173 * z + i) = I 145 i) ∧ F_X12_keeps E (rr w 163) x1 x2 x3 (Hw E w I L Q) = rtI (nI z) (Hw E w I' L Q) := by
  have mo := f_more (E := E) (w := w) (I := I) (L := L) (Q := Q) (s := 5) (by decide) e5
  unfold F_X12_keeps
  rw [o163, Option.bind_some, show F_X12_more E (rr w 163) 5 (Hw E w I L Q) = _ from mo, cI_r]
  generalize eA : up2 (up2 I 163 4 (-1)) 137 5 (nI (z + 1)) = A
  have a1 : ∀ k, k ≠ 137 → k ≠ 163 → A k = I k := fun k h1 h2 => by rw [← eA, up2_row _ _ h1, up2_row _ _ h2]
  have a2 : ∀ i, i ≠ 4 → A 163 i = I 163 i := fun i hi => by rw [← eA, up2_row _ _ (by decide), up2_i _ _ _ hi]
  have a3 : A 163 4 = -1 := by rw [← eA, up2_row _ _ (by decide), up2_s]
  have a4 : A 137 5 = nI (z + 1) := by rw [← eA, up2_s]
  have a5 : ∀ i, i ≠ 5 → A 137 i = I 137 i := fun i hi => by rw [← eA, up2_i _ _ _ hi, up2_row _ _ (by decide)]
  rw [gf163_20, Option.bind_some, pa145, show ix 0 173 = some 0 from rfl, Option.map_some, Option.bind_some, gf163_20, Option.bind_some, pa145, show ix 1 173 = some 1 from rfl, Option.map_some, Option.bind_some, gf163_20, Option.bind_some, pa145, show ix 2 173 = some 2 from rfl, Option.map_some, Option.bind_some]
  generalize eB : up2 (up2 (up2 A 145 0 x1) 145 1 x2) 145 2 x3 = B
  have b1 : ∀ k, k ≠ 145 → B k = A k := fun k hk => by rw [← eB, up2_row _ _ hk, up2_row _ _ hk, up2_row _ _ hk]
  have b2 : B 145 0 = x1 := by rw [← eB, up2_i _ _ _ (by decide), up2_i _ _ _ (by decide), up2_s]
  have b3 : B 145 1 = x2 := by rw [← eB, up2_i _ _ _ (by decide), up2_s]
  have b4 : B 145 2 = x3 := by rw [← eB, up2_s]
  have b5 : ∀ i, 3 ≤ i → B 145 i = I 145 i := fun i hi => by rw [← eB, up2_i _ _ _ (by omega), up2_i _ _ _ (by omega), up2_i _ _ _ (by omega), a1 145 (by decide) (by decide)]
  have key : ∃ I', (∀ k, k ≠ 137 → I' k = B k) ∧ (∀ i, i < 173 → I' 137 (762 + 173 * z + i) = B 145 i) ∧ (∀ i, ¬ (762 + 173 * z ≤ i ∧ i < 935 + 173 * z) → I' 137 i = B 137 i) ∧ L_X12_keeps_31 E (rr w 163) (nI z) E.2.2.1 0 (Hw E w B L Q) = rtI (nI z) (Hw E w I' L Q) := by
    refine lpK2 (σ := Nat → Nat → Int32) (Lp := fun g i s => L_X12_keeps_31 E (rr w 163) (nI z) g (nI i) (Hw E w s L Q)) (K := fun s => rtI (nI z) (Hw E w s L Q)) (Iv := fun m s => (∀ k, k ≠ 137 → s k = B k) ∧ (∀ i, i < m → s 137 (762 + 173 * z + i) = B 145 i) ∧ ∀ i, ¬ (762 + 173 * z ≤ i ∧ i < 935 + 173 * z) → s 137 i = B 137 i) (N := 173) (g := E.2.2.1) (i := 0) (s := B) ?_ ?_ ?_ (by omega) (by omega) ⟨fun _ _ => rfl, fun p hp => absurd hp (by omega), fun _ _ => rfl⟩
    · rintro I1 ⟨z1, z2, z3⟩ ee
      exact ⟨I1, z1, z2, z3, ee⟩
    · rintro g i I1 hi ⟨z1, z2, z3⟩
      have e45 : I1 145 i = B 145 i := by rw [z1 145 (by decide)]
      refine ⟨up2 I1 137 (762 + 173 * z + i) (B 145 i), ⟨fun k hk => by rw [up2_row _ _ hk]; exact z1 k hk, fun j hj => ?_, fun j hj => by rw [up2_i _ _ _ (by omega)]; exact z3 j hj⟩, ?_⟩
      · by_cases e : j = i
        · subst e; rw [up2_s]
        · rw [up2_i _ _ _ (by omega)]; exact z2 j (by omega)
      · show L_X12_keeps_31 E (rr w 163) (nI z) (g + 1) (nI i) (Hw E w I1 L Q) = _
        rw [L_X12_keeps_31]
        simp (disch := omega) only [Option.bind_some, Option.map_some, Option.join, cI_r, cL_r, cV_r, xI_r, xL_r, xV_r, xI_t, xL_t, xV_t, lt_r, rtZ_0, rtZ_1, rtZ_zb, m173, m762, pk_mul, nI_add, nI_leI, nI_1, if_neg, gf163_0, gf163_20, ga145, pa137, ix_n, e45]
    · rintro g I1 _
      show L_X12_keeps_31 E (rr w 163) (nI z) (g + 1) (nI 173) (Hw E w I1 L Q) = _
      rw [L_X12_keeps_31]
      simp (disch := omega) only [m173, nI_leI, if_pos]
  obtain ⟨M, k1, k2, k3, k4⟩ := key
  refine ⟨M, fun k h1 h2 h3 => by rw [k1 k h1, b1 k h2, a1 k h1 h3], fun i hi => by rw [k1 163 (by decide), b1 163 (by decide), a2 i hi], by rw [k1 163 (by decide), b1 163 (by decide), a3], by rw [k3 5 (by omega), b1 137 (by decide), a4], fun i h1 h2 => by rw [k3 i h2, b1 137 (by decide), a5 i h1], ?_, ?_, ?_, fun i h1 h2 => by rw [k2 i h2, b5 i h1], k4⟩
  · have := k2 0 (by decide); rw [b2] at this; exact this
  · have := k2 1 (by decide); rw [b3, show 762 + 173 * z + 1 = 763 + 173 * z by omega] at this; exact this
  · have := k2 2 (by decide); rw [b4, show 762 + 173 * z + 2 = 764 + 173 * z by omega] at this; exact this
end
