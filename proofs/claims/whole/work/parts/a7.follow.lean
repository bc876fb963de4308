/-! the class' follow: one row of words -/
section
variable {E : Ev} {w : Wo} {I : Nat → Nat → Int32} {L : Nat → Nat → Int64} {Q : Nat → Nat → Option Nat} {c : Nat → Nat} {T : Ro} {y : Nat}
theorem enc_ne {kk nn aa : Int32} (hw : WfW kk nn aa) : ¬ enc kk nn aa = 0 := by
  have bn : tn nn ≤ 41 := by
    rcases hw with ⟨_, ⟨N, rfl, _, h⟩, _⟩ | ⟨_, rfl, _⟩ | ⟨_, ⟨N, rfl, _, h⟩, _⟩ | ⟨_, rfl, _⟩ | ⟨_, ⟨N, rfl, h⟩, _⟩ | ⟨_, ⟨N, rfl, _, h⟩, _⟩
    · rw [show tn (nI N) = N from nI_clamp (by omega)]; omega
    · decide
    · rw [show tn (nI N) = N from nI_clamp (by omega)]; omega
    · decide
    · rw [show tn (nI N) = N from nI_clamp (by omega)]; omega
    · rw [show tn (nI N) = N from nI_clamp (by omega)]; omega
  have ba' : encA aa ≤ 15 := by
    have hb : aa = -1 ∨ bl aa 12 := by
      rcases hw with ⟨_, _, h⟩ | ⟨_, _, h⟩ | ⟨_, _, h⟩ | ⟨_, _, h⟩ | ⟨_, _, h⟩ | ⟨_, _, h⟩
      · exact Or.inl h
      · exact Or.inr h
      · exact Or.inl h
      · exact Or.inl h
      · exact Or.inl h
      · exact h
    unfold encA
    rcases hb with rfl | ⟨a, rfl, ha⟩
    · rw [if_pos rfl]; omega
    · rw [if_neg (m1_ne (by omega)), show tn (nI a) = a from nI_clamp (by omega)]; omega
  have bD : ∀ k n, n ≤ 41 → 1 ≤ encD k n ∧ encD k n ≤ 60 := fun k n hn => by unfold encD; split <;> omega
  have bN : ∀ k n, n ≤ 41 → encN k n ≤ 41 := fun k n hn => by unfold encN; split <;> omega
  have h1 := bD (tn kk) (tn nn) bn
  have h2 := bN (tn kk) (tn nn) bn
  intro e
  unfold enc at e
  have := (nI_eq (a := encD (tn kk) (tn nn) + 16 * encN (tn kk) (tn nn) + 512 * encA aa) (b := 0) (by omega) (by decide)).mp e
  omega
theorem c_fol58 {z j k to nf n nw : Nat} (hG : 100000 ≤ E.2.2.1) (h : WC I L Q T c y k) (hg : Gnd I L T c y k) (so : SO w to) (ht : to = 43 ∨ to = 45) (hq8 : Q 40 8 = some to) (hf : Frm w I c 47 nf n) (hz : z < 12) (hj : j < 10) (en : T (765 + 173 * z + j) = nI nw) (hn : nw ≤ 4) (hc1 : ∀ i, i < nw → I 26 (40 * z + 4 * j + i) = enc (T (775 + 173 * z + 16 * j + 4 * i)) (T (776 + 173 * z + 16 * j + 4 * i)) (T (777 + 173 * z + 16 * j + 4 * i)) ∧ WfW (T (775 + 173 * z + 16 * j + 4 * i)) (T (776 + 173 * z + 16 * j + 4 * i)) (T (777 + 173 * z + 16 * j + 4 * i))) (hc2 : nw < 4 → I 26 (40 * z + 4 * j + nw) = 0) : ∃ I' L' Q', LdF I I' L L' Q Q' (to + 1) ∧ MapY I' L' T c y ∧ StepsR I' L' Q' ∧ (∀ q, q < 256 → (bq (L' (to + 1)) q ↔ bq (L (to + 1)) q ∨ sayW T c y k z j (frX I 47 n) q)) ∧ ∀ K, L_X9_follow_58 E K (rr w 40) (nI (40 * z + 4 * j)) (nI n) E.2.2.1 0 (Hw E w I L Q) = K (Hw E w I' L' Q') := by
  have tN : tn (T (765 + 173 * z + j)) = nw := by rw [en]; exact nI_clamp (by omega)
  have okt : okTo to := by unfold okTo; omega
  refine lpK2 (ρ := (Hp → Rs) → Rs) (σ := (Nat → Nat → Int32) × (Nat → Nat → Int64) × (Nat → Nat → Option Nat)) (Lp := fun g i s => fun K => L_X9_follow_58 E K (rr w 40) (nI (40 * z + 4 * j)) (nI n) g (nI i) (Hw E w s.1 s.2.1 s.2.2)) (K := fun s => fun K => K (Hw E w s.1 s.2.1 s.2.2)) (Iv := fun i s => LdF I s.1 L s.2.1 Q s.2.2 (to + 1) ∧ MapY s.1 s.2.1 T c y ∧ StepsR s.1 s.2.1 s.2.2 ∧ ∀ q, q < 256 → (bq (s.2.1 (to + 1)) q ↔ bq (L (to + 1)) q ∨ ∃ i', i' < i ∧ wd T c y k (tn (T (775 + 173 * z + 16 * j + 4 * i'))) (tn (T (776 + 173 * z + 16 * j + 4 * i'))) (T (777 + 173 * z + 16 * j + 4 * i')) (frX I 47 n) q)) (N := nw) (g := E.2.2.1) (i := 0) (s := (I, L, Q)) ?_ ?_ ?_ (by omega) (by omega) ⟨LdF.rf, h.2.2.1, h.2.2.2.2.1, fun q hq => ⟨Or.inl, fun z => z.elim id (fun ⟨_, z, _⟩ => absurd z (by omega))⟩⟩
  · rintro ⟨I1, L1, Q1⟩ ⟨z1, z2, z3, z4⟩ ee
    dsimp only at *
    refine ⟨I1, L1, Q1, z1, z2, z3, fun q hq => ?_, fun K => congrFun ee K⟩
    rw [z4 q hq]
    unfold sayW
    rw [tN]
  · rintro g i ⟨I1, L1, Q1⟩ hi ⟨z1, z2, z3, z4⟩
    dsimp only at *
    have e26 : I1 26 = I 26 := z1.1 26 (by decide) (by decide) (by decide) (by decide)
    have q40 : Q1 40 8 = some to := by rw [z1.2.2 40 (by decide)]; exact hq8
    obtain ⟨hf1, e47⟩ := hf.mv z1
    have eX : frX I1 47 n = frX I 47 n := by unfold frX; rw [e47]
    obtain ⟨c1, c2⟩ := hc1 i hi
    obtain ⟨I2, L2, Q2, v1, v2, v3, v4, v5⟩ := c_lead (E := E) (w := w) hG (h.mv z1 z2 z3) (Gnd_mv (by omega) z1 hg) so okt (by omega) hf1 c2
    rw [eX] at v4
    refine ⟨(I2, L2, Q2), ⟨z1.tr v1, v2, v3, fun q hq => ?_⟩, ?_⟩
    · show bq (L2 (to + 1)) q ↔ _
      rw [v4 q hq, z4 q hq, or_assoc]
      refine or_congr_right ⟨?_, ?_⟩
      · rintro (⟨i', h1, h2⟩ | h)
        · exact ⟨i', by omega, h2⟩
        · exact ⟨i, by omega, h⟩
      · rintro ⟨i', h1, h2⟩
        by_cases e : i' = i
        · subst e; exact Or.inr h2
        · exact Or.inl ⟨i', by omega, h2⟩
    · funext K
      show L_X9_follow_58 E K (rr w 40) (nI (40 * z + 4 * j)) (nI n) (g + 1) (nI i) (Hw E w I1 L1 Q1) = _
      rw [L_X9_follow_58, m4, if_neg (nI_ge (show i < 4 by omega) (by decide))]
      simp (disch := omega) only [Option.bind_some, Option.map_some, Option.join, cI_r, cL_r, cV_r, xI_r, xL_r, xV_r, xI_t, xL_t, xV_t, lt_r, rtZ_0, rtZ_1, rtZ_zb, gf40_2, gf22_4, nI_add, ga26, ix_n, e26, c1, if_neg (enc_ne c2), gf40_9, gf40_8, q40, o40]
      rw [v5, cV_r, nI_1]
  · rintro g ⟨I1, L1, Q1⟩ ⟨z1, z2, z3, z4⟩
    dsimp only at *
    have e26 : I1 26 = I 26 := z1.1 26 (by decide) (by decide) (by decide) (by decide)
    funext K
    show L_X9_follow_58 E K (rr w 40) (nI (40 * z + 4 * j)) (nI n) (g + 1) (nI nw) (Hw E w I1 L1 Q1) = _
    by_cases e4 : nw = 4
    · rw [L_X9_follow_58, m4, e4, if_pos (nI_le (Nat.le_refl 4) (by decide))]
    · rw [L_X9_follow_58, m4, if_neg (nI_ge (show nw < 4 by omega) (by decide))]
      simp (disch := omega) only [Option.bind_some, Option.map_some, Option.join, cI_r, cL_r, cV_r, xI_r, xL_r, xV_r, xI_t, xL_t, xV_t, lt_r, rtZ_0, rtZ_1, rtZ_zb, gf40_2, gf22_4, nI_add, ga26, ix_n, e26, hc2 (show nw < 4 by omega), if_true]
end
