/-! odds: the reference -/
section
variable {E : Ev} {w : Wo} {I I1 I2 : Nat → Nat → Int32} {L L1 L2 : Nat → Nat → Int64} {Q Q1 Q2 : Nat → Nat → Option Nat} {c : Nat → Nat} {T : Ro} {y : Nat}
theorem Laid_k (h1 : I1 163 = I 163) (h2 : I1 142 = I 142) (h3 : L1 140 = L 140) (h4 : L1 141 = L 141) (h : Laid I L T c y) : Laid I1 L1 T c y := by
  obtain ⟨a, b, d⟩ := h
  refine ⟨by rw [h1]; exact a, by rw [h3]; exact b, ?_⟩
  unfold StdOk at *
  rw [h2, h4]; exact d
theorem m_odd16 (hG : 100000 ≤ E.2.2.1) : ∃ I', (∀ k, k ≠ 156 → I' k = I k) ∧ (∀ s, s < 240 → I' 156 s = 0) ∧ ∀ K, L_X12_oddsOn_16 E K (rr w 163) E.2.2.1 0 (Hw E w I L Q) = K (Hw E w I' L Q) := by
  refine lpK2 (ρ := (Hp → Rs) → Rs) (σ := Nat → Nat → Int32) (Lp := fun g i s => fun K => L_X12_oddsOn_16 E K (rr w 163) g (nI i) (Hw E w s L Q)) (K := fun s => fun K => K (Hw E w s L Q)) (Iv := fun i s => (∀ k, k ≠ 156 → s k = I k) ∧ ∀ p, p < i → s 156 p = 0) (N := 240) (g := E.2.2.1) (i := 0) (s := I) ?_ ?_ ?_ (by omega) (by omega) ⟨fun _ _ => rfl, fun p hp => absurd hp (by omega)⟩
  · rintro I1 ⟨z1, z2⟩ ee
    exact ⟨I1, z1, z2, fun K => congrFun ee K⟩
  · rintro g i I1 hi ⟨z1, z2⟩
    refine ⟨up2 I1 156 i 0, ⟨fun k hk => by rw [up2_row _ _ hk]; exact z1 k hk, fun p hp => ?_⟩, ?_⟩
    · by_cases e : p = i
      · subst e; rw [up2_s]
      · rw [up2_i _ _ _ e]; exact z2 p (by omega)
    · funext K
      show L_X12_oddsOn_16 E K (rr w 163) (g + 1) (nI i) (Hw E w I1 L Q) = _
      rw [L_X12_oddsOn_16]
      simp (disch := omega) only [Option.bind_some, Option.map_some, Option.join, cI_r, cL_r, cV_r, xI_r, xL_r, xV_r, xI_t, xL_t, xV_t, lt_r, rtZ_0, rtZ_1, rtZ_zb, m240, nI_leI, if_neg, gf163_31, pa156, ix_n, nI_1]
  · rintro g I1 _
    funext K
    show L_X12_oddsOn_16 E K (rr w 163) (g + 1) (nI 240) (Hw E w I1 L Q) = _
    rw [L_X12_oddsOn_16]
    simp (disch := omega) only [m240, nI_leI, if_pos]
theorem m_odd116 (hG : 100000 ≤ E.2.2.1) : ∃ I', (∀ k, k ≠ 155 → I' k = I k) ∧ (∀ s, s < 240 → I' 155 s = I 156 s) ∧ ∀ K, L_X12_oddsOn_116 E K (rr w 163) E.2.2.1 0 (Hw E w I L Q) = K (Hw E w I' L Q) := by
  refine lpK2 (ρ := (Hp → Rs) → Rs) (σ := Nat → Nat → Int32) (Lp := fun g i s => fun K => L_X12_oddsOn_116 E K (rr w 163) g (nI i) (Hw E w s L Q)) (K := fun s => fun K => K (Hw E w s L Q)) (Iv := fun i s => (∀ k, k ≠ 155 → s k = I k) ∧ ∀ p, p < i → s 155 p = I 156 p) (N := 240) (g := E.2.2.1) (i := 0) (s := I) ?_ ?_ ?_ (by omega) (by omega) ⟨fun _ _ => rfl, fun p hp => absurd hp (by omega)⟩
  · rintro I1 ⟨z1, z2⟩ ee
    exact ⟨I1, z1, z2, fun K => congrFun ee K⟩
  · rintro g i I1 hi ⟨z1, z2⟩
    have e6 : I1 156 i = I 156 i := by rw [z1 156 (by decide)]
    refine ⟨up2 I1 155 i (I 156 i), ⟨fun k hk => by rw [up2_row _ _ hk]; exact z1 k hk, fun p hp => ?_⟩, ?_⟩
    · by_cases e : p = i
      · subst e; rw [up2_s]
      · rw [up2_i _ _ _ e]; exact z2 p (by omega)
    · funext K
      show L_X12_oddsOn_116 E K (rr w 163) (g + 1) (nI i) (Hw E w I1 L Q) = _
      rw [L_X12_oddsOn_116]
      simp (disch := omega) only [Option.bind_some, Option.map_some, Option.join, cI_r, cL_r, cV_r, xI_r, xL_r, xV_r, xI_t, xL_t, xV_t, lt_r, rtZ_0, rtZ_1, rtZ_zb, m240, nI_leI, if_neg, gf163_30, gf163_31, ga156, pa155, ix_n, nI_1, e6]
  · rintro g I1 _
    funext K
    show L_X12_oddsOn_116 E K (rr w 163) (g + 1) (nI 240) (Hw E w I1 L Q) = _
    rw [L_X12_oddsOn_116]
    simp (disch := omega) only [m240, nI_leI, if_pos]
theorem m_odd41 {z j k : Nat} {R : Nat → Int32} (hG : 100000 ≤ E.2.2.1) (q1 : WfT (I 137) c) (hl : Laid I L (I 137) c y) (hk : k < c 4) (hz : z < c 5) (hj : nI j < I 137 (764 + 173 * z)) (hj2 : j < 10) (hR : ∀ s, s < 240 → I 155 s = R s) (hR2 : ∀ s, s < 240 → ¬ R s = 0 → s < 4 * c 1) (h0 : ∀ s, s < 240 → I 156 s = 0) : ∃ I' L', (∀ k, k ≠ 142 → k ≠ 156 → I' k = I k) ∧ (∀ k, ¬ Tmp k → k ≠ 151 → k ≠ 152 → L' k = L k) ∧ Laid I' L' (I 137) c y ∧ (∀ s, s < 240 → I' 156 s = oFold (fun s => sayW (I 137) c y k z j (fun q => q = s)) R 240 s) ∧ ∀ K, L_X12_oddsOn_41 E K (rr w 163) (nI z) (nI k) (nI j) E.2.2.1 0 (Hw E w I L Q) = K (Hw E w I' L' Q) := by
  have k1 : c 1 ≤ 60 := (q1.1 1 (by decide)).2
  generalize hW : (fun s => sayW (I 137) c y k z j (fun q => q = s)) = W
  refine lpK2 (ρ := (Hp → Rs) → Rs) (σ := (Nat → Nat → Int32) × (Nat → Nat → Int64)) (Lp := fun g i s => fun K => L_X12_oddsOn_41 E K (rr w 163) (nI z) (nI k) (nI j) g (nI i) (Hw E w s.1 s.2 Q)) (K := fun s => fun K => K (Hw E w s.1 s.2 Q)) (Iv := fun i s => (∀ k, k ≠ 142 → k ≠ 156 → s.1 k = I k) ∧ (∀ k, ¬ Tmp k → k ≠ 151 → k ≠ 152 → s.2 k = L k) ∧ Laid s.1 s.2 (I 137) c y ∧ ∀ s', s' < 240 → s.1 156 s' = oFold W R i s') (N := 240) (g := E.2.2.1) (i := 0) (s := (I, L)) ?_ ?_ ?_ (by omega) (by omega) ⟨fun _ _ _ => rfl, fun _ _ _ _ => rfl, hl, h0⟩
  · rintro ⟨I1, L1⟩ ⟨z1, z2, z3, z4⟩ ee
    exact ⟨I1, L1, z1, z2, z3, z4, fun K => congrFun ee K⟩
  · rintro g i ⟨I1, L1⟩ hi ⟨z1, z2, z3, z4⟩
    dsimp only at *
    have i137 : I1 137 = I 137 := z1 137 (by decide) (by decide)
    have ea : I1 155 i = R i := by rw [z1 155 (by decide) (by decide)]; exact hR i hi
    by_cases p : R i = 0
    · refine ⟨(I1, L1), ⟨z1, z2, z3, fun s' hs' => by rw [oFold_0 p]; exact z4 s' hs'⟩, ?_⟩
      funext K
      show L_X12_oddsOn_41 E K (rr w 163) (nI z) (nI k) (nI j) (g + 1) (nI i) (Hw E w I1 L1 Q) = _
      rw [L_X12_oddsOn_41, m240, if_neg (nI_ge hi (by decide)), gf163_30, Option.bind_some, ga155, ix_n hi (by decide), Option.map_some, Option.bind_some, ea, if_neg (not_not_intro p), nI_1]
    · have hi4 := hR2 i hi p
      have em : F_X12_empty E (rr w 151) 0 (Hw E w I1 L1 Q) = rtV (Hw E w I1 (rs L1 151 0 4 (fun _ => 0)) Q) := f_empty (a := 0) hG la151 (by decide)
      have pu : F_X12_put E (rr w 151) 0 (nI i) (Hw E w I1 (rs L1 151 0 4 (fun _ => 0)) Q) = rtV (Hw E w I1 (pt (rs L1 151 0 4 (fun _ => 0)) 151 0 i) Q) := f_put (a := 0) la151 (by decide) (by omega)
      have o1 : ∀ q, q < 256 → (b256 (pt (rs L1 151 0 4 (fun _ => 0)) 151 0 i 151) 0 q ↔ q = i) := fun q hq => by
        rw [pt_b (by omega) hq, rs_b hq]
        exact ⟨fun h => h.elim id (fun h => absurd h bg_0), Or.inl⟩
      have o2 : ∀ k, k ≠ 151 → pt (rs L1 151 0 4 (fun _ => 0)) 151 0 i k = L1 k := fun k hk => (pt_row hk).trans (rs_row _ _ hk)
      generalize pt (rs L1 151 0 4 (fun _ => 0)) 151 0 i = L2 at *
      have eX : mX L2 151 0 = fun q => q = i := funext fun q => propext ⟨fun h => (o1 q h.1).mp h.2, fun h => ⟨by omega, (o1 q (by omega)).mpr h⟩⟩
      obtain ⟨I3, L3, v1, v2, v3, v4, v5⟩ := m_says (E := E) (w := w) (I := I1) (L := L2) (Q := Q) (c := c) (y := y) (z := z) (j := j) (k := k) hG (by rw [i137]; exact q1) (by rw [i137]; exact Laid_k rfl rfl (o2 140 (by decide)) (o2 141 (by decide)) z3) hk hz (by rw [i137]; exact hj) hj2 (fun q hq => by rw [eX] at hq; rw [show q = i from hq]; exact hi4)
      rw [i137] at v3 v4
      rw [eX] at v4
      have hX : ∀ q, q < 256 → (b256 (L3 151) 0 q ↔ W i q) := fun q hq => by rw [v4 q hq, ← hW]
      obtain ⟨I4, u1, u2, u3⟩ := m_parted (E := E) (w := w) (I := I3) (L := L3) (Q := Q) (m := R i) hG ia156
      have e3 : I3 155 i = R i := by rw [v1 155 (by decide)]; exact ea
      refine ⟨(I4, L3), ⟨fun k a1 a2 => ?_, fun k a1 a2 a3 => ?_, ?_, fun s' hs' => ?_⟩, ?_⟩
      · show I4 k = I k
        rw [u1 k a2, v1 k a1]; exact z1 k a1 a2
      · show L3 k = L k
        rw [v2 k a1 a2 a3, o2 k a2]; exact z2 k a1 a2 a3
      · exact Laid_k (u1 163 (by decide)) (u1 142 (by decide)) rfl rfl v3
      · show I4 156 s' = _
        rw [u2 s' hs', oFold_s p]
        exact shr_c hs' (fun s hs => hX s (by omega)) (by rw [v1 156 (by decide)]; exact z4 s' hs')
      · funext K
        show L_X12_oddsOn_41 E K (rr w 163) (nI z) (nI k) (nI j) (g + 1) (nI i) (Hw E w I1 L1 Q) = _
        rw [L_X12_oddsOn_41, m240, if_neg (nI_ge hi (by decide)), gf163_30, Option.bind_some, ga155, ix_n hi (by decide), Option.map_some, Option.bind_some, ea, if_pos p, gf163_26, Option.bind_some, em, cV_r, gf163_26, Option.bind_some, pu, cV_r, o163, Option.bind_some, v5, cV_r, gf163_30, Option.bind_some, ga155, ix_n hi (by decide), Option.map_some, Option.bind_some, e3, gf163_26, Option.bind_some, gf163_31, Option.bind_some, o163, Option.bind_some, u3, cV_r, nI_1]
  · rintro g ⟨I1, L1⟩ _
    funext K
    show L_X12_oddsOn_41 E K (rr w 163) (nI z) (nI k) (nI j) (g + 1) (nI 240) (Hw E w I1 L1 Q) = _
    rw [L_X12_oddsOn_41, m240, if_pos (nI_le (Nat.le_refl 240) (by decide))]
theorem m_oddsOn {z k t j0 : Nat} {R : Nat → Int32} (hG : 100000 ≤ E.2.2.1) (q1 : WfT (I 137) c) (hl : Laid I L (I 137) c y) (hk : k < c 4) (hz : z < c 5) (ht : I 137 (764 + 173 * z) = nI t) (t10 : t ≤ 10) (hj : j0 ≤ t) (hR : ∀ s, s < 240 → I 155 s = R s) (hR2 : ∀ s, s < 240 → ¬ R s = 0 → s < 4 * c 1) : ∃ I' L', (∀ k, k ≠ 142 → k ≠ 155 → k ≠ 156 → I' k = I k) ∧ (∀ k, ¬ Tmp k → k ≠ 151 → k ≠ 152 → L' k = L k) ∧ Laid I' L' (I 137) c y ∧ (∀ s, s < 240 → I' 155 s = oSeq (I 137) c y k z j0 R (t - j0) s) ∧ F_X12_oddsOn E (rr w 163) (nI z) (nI k) (nI j0) (Hw E w I L Q) = rtV (Hw E w I' L' Q) := by
  have k5 : c 5 ≤ 12 := (q1.1 5 (by decide)).2
  unfold F_X12_oddsOn
  refine lpK2 (σ := (Nat → Nat → Int32) × (Nat → Nat → Int64)) (Lp := fun g i s => L_X12_oddsOn_3 E (rr w 163) (nI z) (nI k) g (nI (j0 + i)) (Hw E w s.1 s.2 Q)) (K := fun s => rtV (Hw E w s.1 s.2 Q)) (Iv := fun i s => (∀ k, k ≠ 142 → k ≠ 155 → k ≠ 156 → s.1 k = I k) ∧ (∀ k, ¬ Tmp k → k ≠ 151 → k ≠ 152 → s.2 k = L k) ∧ Laid s.1 s.2 (I 137) c y ∧ ∀ s', s' < 240 → s.1 155 s' = oSeq (I 137) c y k z j0 R i s') (N := t - j0) (g := E.2.2.1) (i := 0) (s := (I, L)) ?_ ?_ ?_ (by omega) (by omega) ⟨fun _ _ _ _ => rfl, fun _ _ _ _ => rfl, hl, hR⟩
  · rintro ⟨I1, L1⟩ ⟨z1, z2, z3, z4⟩ ee
    exact ⟨I1, L1, z1, z2, z3, z4, ee⟩
  · rintro g i ⟨I1, L1⟩ hi ⟨z1, z2, z3, z4⟩
    dsimp only at *
    have i137 : I1 137 = I 137 := z1 137 (by decide) (by decide) (by decide)
    have lti : nI (j0 + i) < I 137 (764 + 173 * z) := by rw [ht]; exact (nI_ltI (by omega) (by omega)).mpr (by omega)
    obtain ⟨I2, a1, a2, a3⟩ := m_odd16 (E := E) (w := w) (I := I1) (L := L1) (Q := Q) hG
    have i2 : I2 137 = I 137 := by rw [a1 137 (by decide)]; exact i137
    obtain ⟨I3, L3, b1, b2, b3, b4, b5⟩ := m_odd41 (E := E) (w := w) (I := I2) (L := L1) (Q := Q) (c := c) (y := y) (z := z) (j := j0 + i) (k := k) (R := oSeq (I 137) c y k z j0 R i) hG (by rw [i2]; exact q1) (by rw [i2]; exact Laid_k (a1 163 (by decide)) (a1 142 (by decide)) rfl rfl z3) hk hz (by rw [i2]; exact lti) (by omega) (fun s hs => by rw [a1 155 (by decide)]; exact z4 s hs) (oSeq_lt hR2 i) a2
    rw [i2] at b3 b4
    obtain ⟨I4, d1, d2, d3⟩ := m_odd116 (E := E) (w := w) (I := I3) (L := L3) (Q := Q) hG
    refine ⟨(I4, L3), ⟨fun k g1 g2 g3 => ?_, fun k g1 g2 g3 => ?_, ?_, fun s' hs' => ?_⟩, ?_⟩
    · show I4 k = I k
      rw [d1 k g2, b1 k g1 g3, a1 k g3]; exact z1 k g1 g2 g3
    · show L3 k = L k
      rw [b2 k g1 g2 g3]; exact z2 k g1 g2 g3
    · exact Laid_k (d1 163 (by decide)) (d1 142 (by decide)) rfl rfl b3
    · show I4 155 s' = _
      rw [d2 s' hs', b4 s' hs']; rfl
    · show L_X12_oddsOn_3 E (rr w 163) (nI z) (nI k) (g + 1) (nI (j0 + i)) (Hw E w I1 L1 Q) = _
      have hlt : ¬ nI t ≤ nI (j0 + i) := nI_ge (by omega) (by omega)
      rw [L_X12_oddsOn_3, o163, Option.bind_some, f_sayingsOf (by omega), cI_r, i137, ht, if_neg hlt, a3, b5, d3, nI_1]
      rfl
  · rintro g ⟨I1, L1⟩ ⟨z1, -⟩
    dsimp only at *
    have i137 : I1 137 = I 137 := z1 137 (by decide) (by decide) (by decide)
    show L_X12_oddsOn_3 E (rr w 163) (nI z) (nI k) (g + 1) (nI (j0 + (t - j0))) (Hw E w I1 L1 Q) = _
    rw [show j0 + (t - j0) = t by omega, L_X12_oddsOn_3, o163, Option.bind_some, f_sayingsOf (by omega), cI_r, i137, ht, if_pos (nI_le (Nat.le_refl t) (by omega))]
/-- at the start, all in one state -/
def stR (s0 s : Nat) : Int32 := if s = s0 then 1000000 else 0
theorem stR_lt {s0 : Nat} (h : s0 < 4 * c 1) : ∀ s, s < 240 → ¬ stR s0 s = 0 → s < 4 * c 1 := fun s _ h2 => by
  unfold stR at h2
  by_cases e : s = s0
  · omega
  · rw [if_neg e] at h2; exact absurd rfl h2
theorem m_oddsFrom {z k t s0 : Nat} (hG : 100000 ≤ E.2.2.1) (h : MW I L T c) (hy : y ≤ 200) (hk : k < c 4) (hz : z < c 5) (ht : T (764 + 173 * z) = nI t) (t10 : t ≤ 10) (hs : s0 < 4 * c 1) : ∃ I' L', MF I I' L L' ∧ MW I' L' T c ∧ Laid I' L' T c y ∧ I' 157 = I 157 ∧ (∀ s, s < 240 → I' 155 s = oSeq T c y k z 0 (stR s0) t s) ∧ F_X12_oddsFrom E (rr w 163) (nI z) (nI k) (nI s0) (nI y) (Hw E w I L Q) = rtV (Hw E w I' L' Q) := by
  obtain ⟨h1, h2, h3⟩ := h
  subst h1
  have k1 : c 1 ≤ 60 := (h2.1 1 (by decide)).2
  obtain ⟨I1, L1, d1, d2, d3, d4, d5⟩ := m_lay (E := E) (w := w) (Q := Q) hG h2 h3 hy
  have i137 : I1 137 = I 137 := d1 137 (by decide) (by decide) (by decide)
  unfold F_X12_oddsFrom
  rw [o163, Option.bind_some, d5, cV_r]
  have key : ∃ I2, (∀ k, k ≠ 155 → I2 k = I1 k) ∧ (∀ s, s < 240 → I2 155 s = stR s0 s) ∧ L_X12_oddsFrom_9 E (rr w 163) (nI z) (nI k) (nI s0) E.2.2.1 0 (Hw E w I1 L1 Q) = (isO (Hw E w I2 L1 Q) (rr w 163) 12).bind fun _ => cV (F_X12_oddsOn E (rr w 163) (nI z) (nI k) (0 : Int32) (Hw E w I2 L1 Q)) fun h47 => rtV h47 := by
    refine lpK2 (σ := Nat → Nat → Int32) (Lp := fun g i s => L_X12_oddsFrom_9 E (rr w 163) (nI z) (nI k) (nI s0) g (nI i) (Hw E w s L1 Q)) (K := fun I2 => (isO (Hw E w I2 L1 Q) (rr w 163) 12).bind fun _ => cV (F_X12_oddsOn E (rr w 163) (nI z) (nI k) (0 : Int32) (Hw E w I2 L1 Q)) fun h47 => rtV h47) (Iv := fun i s => (∀ k, k ≠ 155 → s k = I1 k) ∧ ∀ p, p < i → s 155 p = stR s0 p) (N := 240) (g := E.2.2.1) (i := 0) (s := I1) ?_ ?_ ?_ (by omega) (by omega) ⟨fun _ _ => rfl, fun p hp => absurd hp (by omega)⟩
    · rintro I2 ⟨z1, z2⟩ ee
      exact ⟨I2, z1, z2, ee⟩
    · rintro g i I2 hi ⟨z1, z2⟩
      refine ⟨up2 I2 155 i (stR s0 i), ⟨fun k hk => by rw [up2_row _ _ hk]; exact z1 k hk, fun p hp => ?_⟩, ?_⟩
      · by_cases e : p = i
        · subst e; rw [up2_s]
        · rw [up2_i _ _ _ e]; exact z2 p (by omega)
      · show L_X12_oddsFrom_9 E (rr w 163) (nI z) (nI k) (nI s0) (g + 1) (nI i) (Hw E w I2 L1 Q) = _
        rw [L_X12_oddsFrom_9, m240, if_neg (nI_ge hi (by decide)), gf163_30, Option.bind_some, pa155, pa155, ix_n hi (by decide), Option.map_some, Option.map_some, Option.bind_some, Option.bind_some, nI_1]
        unfold stR
        by_cases e : i = s0
        · rw [if_neg (not_not_intro (by rw [e])), if_pos e]
        · rw [if_pos (fun z => e ((nI_eq (by omega) (by omega)).mp z)), if_neg e]
    · rintro g I2 _
      show L_X12_oddsFrom_9 E (rr w 163) (nI z) (nI k) (nI s0) (g + 1) (nI 240) (Hw E w I2 L1 Q) = _
      rw [L_X12_oddsFrom_9, m240, if_pos (nI_le (Nat.le_refl 240) (by decide))]
  obtain ⟨I2, a1, a2, a3⟩ := key
  have i2 : I2 137 = I 137 := by rw [a1 137 (by decide)]; exact i137
  obtain ⟨I3, L3, b1, b2, b3, b4, b5⟩ := m_oddsOn (E := E) (w := w) (I := I2) (L := L1) (Q := Q) (c := c) (y := y) (z := z) (j0 := 0) (k := k) (t := t) (R := stR s0) hG (by rw [i2]; exact h2) (by rw [i2]; exact Laid_k (a1 163 (by decide)) (a1 142 (by decide)) rfl rfl d4) hk hz (by rw [i2]; exact ht) t10 (by omega) a2 (stR_lt hs)
  rw [i2] at b3 b4
  refine ⟨I3, L3, ⟨fun k hk => ?_, fun i hi => ?_, fun k hk => ?_⟩, ⟨?_, h2, Or.inr ⟨y, hy, b3⟩⟩, b3, ?_, b4, ?_⟩
  · rw [b1 k (by omega) (by omega) (by omega), a1 k (by omega)]; exact d1 k (by omega) (by omega) (by omega)
  · rw [b1 163 (by omega) (by omega) (by omega), a1 163 (by omega)]; exact d2 i hi
  · rw [b2 k (by unfold Tmp; omega) (by omega) (by omega)]; exact d3 k (by omega)
  · rw [b1 137 (by omega) (by omega) (by omega)]; exact i2
  · rw [b1 157 (by omega) (by omega) (by omega), a1 157 (by omega)]; exact d1 157 (by omega) (by omega) (by omega)
  · rw [a3, o163, Option.bind_some, show F_X12_oddsOn E (rr w 163) (nI z) (nI k) 0 (Hw E w I2 L1 Q) = _ from b5, cV_r]
/-- the sum of those odds that lie at a place -/
noncomputable def smP (R : Nat → Int32) (P : Nat → Prop) : Nat → Int32
  | 0 => 0
  | n + 1 => @ite _ (P n) (Classical.propDecidable _) (smP R P n + R n) (smP R P n)
theorem smP_t {R : Nat → Int32} {P : Nat → Prop} {n : Nat} (h : P n) : smP R P (n + 1) = smP R P n + R n := by rw [smP, if_pos h]
theorem smP_f {R : Nat → Int32} {P : Nat → Prop} {n : Nat} (h : ¬ P n) : smP R P (n + 1) = smP R P n := by rw [smP, if_neg h]
theorem m_shareAt {p : Nat} {R : Nat → Int32} (hG : 100000 ≤ E.2.2.1) (q1 : WfT (I 137) c) (hR : ∀ s, s < 240 → I 155 s = R s) : F_X12_shareAt E (rr w 163) (nI p) (Hw E w I L Q) = rtI (smP R (fun s => spl (I 137) s = nI p) (4 * c 1)) (Hw E w I L Q) := by
  have k1 : c 1 ≤ 60 := (q1.1 1 (by decide)).2
  have e1 := (q1.1 1 (by decide)).1
  generalize hP : (fun s => spl (I 137) s = nI p) = P
  unfold F_X12_shareAt
  refine lpI (σ := Unit) (Lp := fun g i _ => L_X12_shareAt_4 E (rr w 163) (nI p) g (smP R P i) (nI i) (Hw E w I L Q)) (Inv := fun _ _ => True) (N := 4 * c 1) ?_ ?_ E.2.2.1 0 () (by omega) (by omega) trivial
  · intro g i _ hi _
    refine ⟨(), trivial, ?_⟩
    show L_X12_shareAt_4 E (rr w 163) (nI p) (g + 1) (smP R P i) (nI i) (Hw E w I L Q) = L_X12_shareAt_4 E (rr w 163) (nI p) g (smP R P (i + 1)) (nI (i + 1)) (Hw E w I L Q)
    rw [L_X12_shareAt_4]
    simp (disch := omega) only [Option.bind_some, Option.map_some, Option.join, cI_r, cL_r, cV_r, xI_r, xL_r, xV_r, xI_t, xL_t, xV_t, lt_r, rtZ_0, rtZ_1, rtZ_zb, m4, pk_mul, nI_leI, nI_1, if_neg, gf163_0, ga137, show ix 1 2988 = some 1 from rfl, e1, o163, f_placeOf, gf163_30, ga155, ix_n, hR, Int32.add_zero]
    have hPi : P i ↔ spl (I 137) i = nI p := by rw [← hP]
    by_cases c1 : P i
    · rw [if_neg (not_not_intro (hPi.mp c1)), smP_t c1]
    · rw [if_pos (fun z => c1 (hPi.mpr z)), smP_f c1]
  · intro g _ _
    show L_X12_shareAt_4 E (rr w 163) (nI p) (g + 1) (smP R P (4 * c 1)) (nI (4 * c 1)) (Hw E w I L Q) = _
    rw [L_X12_shareAt_4]
    simp (disch := omega) only [Option.bind_some, Option.map_some, Option.join, cI_r, cL_r, cV_r, xI_r, xL_r, xV_r, xI_t, xL_t, xV_t, lt_r, rtZ_0, rtZ_1, rtZ_zb, m4, pk_mul, nI_leI, if_pos, gf163_0, ga137, show ix 1 2988 = some 1 from rfl, e1]
theorem c_partsAt {p a : Nat} {R : Nat → Int32} (hG : 100000 ≤ E.2.2.1) (q1 : WfT T c) (q2 : LandR I T c) (ha : a = 55 ∨ a = 56) (hq : Q 54 1 = some a) (hR : ∀ s, s < 240 → I a s = R s) : F_X4_partsAt E (rr w 54) (nI p) (Hw E w I L Q) = rtI (smP R (fun s => spl T s = nI p) (4 * c 1)) (Hw E w I L Q) := by
  have k1 : c 1 ≤ 60 := (q1.1 1 (by decide)).2
  have k0 : c 0 ≤ 40 := (q1.1 0 (by decide)).2
  have e1 : I 0 3 = nI (c 1) := q2.2.1.1.trans (q1.1 1 (by decide)).1
  have ia : IA w a 240 := by
    rcases ha with e | e
    · rw [e]; exact ia55
    · rw [e]; exact ia56
  generalize hP : (fun s => spl T s = nI p) = P
  unfold F_X4_partsAt
  refine lpI (σ := Unit) (Lp := fun g i _ => L_X4_partsAt_4 E (rr w 54) (nI p) g (smP R P i) (nI i) (Hw E w I L Q)) (Inv := fun _ _ => True) (N := 4 * c 1) ?_ ?_ E.2.2.1 0 () (by omega) (by omega) trivial
  · intro g i _ hi _
    refine ⟨(), trivial, ?_⟩
    obtain ⟨p0, ep, hp0, e7⟩ := spl_n q1 q2 hi
    show L_X4_partsAt_4 E (rr w 54) (nI p) (g + 1) (smP R P i) (nI i) (Hw E w I L Q) = L_X4_partsAt_4 E (rr w 54) (nI p) g (smP R P (i + 1)) (nI (i + 1)) (Hw E w I L Q)
    rw [L_X4_partsAt_4]
    simp (disch := omega) only [Option.bind_some, Option.map_some, Option.join, cI_r, cL_r, cV_r, xI_r, xL_r, xV_r, xI_t, xL_t, xV_t, lt_r, rtZ_0, rtZ_1, rtZ_zb, m4, pk_mul, nI_leI, nI_1, if_neg, gf54_0, gf40_0, gf32_0, gf0_3, e1, gf0_8, ga7, ix_n, e7, gf54_1, hq, ia.ga, hR]
    have hPi : P i ↔ nI p0 = nI p := by rw [← hP, ← ep]
    by_cases c1 : P i
    · rw [if_neg (not_not_intro (hPi.mp c1)), smP_t c1]
    · rw [if_pos (fun z => c1 (hPi.mpr z)), smP_f c1]
  · intro g _ _
    show L_X4_partsAt_4 E (rr w 54) (nI p) (g + 1) (smP R P (4 * c 1)) (nI (4 * c 1)) (Hw E w I L Q) = _
    rw [L_X4_partsAt_4]
    simp (disch := omega) only [Option.bind_some, Option.map_some, Option.join, cI_r, cL_r, cV_r, xI_r, xL_r, xV_r, xI_t, xL_t, xV_t, lt_r, rtZ_0, rtZ_1, rtZ_zb, m4, pk_mul, nI_leI, if_pos, gf54_0, gf40_0, gf32_0, gf0_3, e1]
theorem c_start {s0 : Nat} (hG : 100000 ≤ E.2.2.1) (ho : OddsR Q) (hs : s0 < 240) : ∃ I' a b, ((a = 55 ∧ b = 56) ∨ (a = 56 ∧ b = 55)) ∧ Q 54 1 = some a ∧ Q 54 2 = some b ∧ (∀ k, k ≠ 55 → k ≠ 56 → I' k = I k) ∧ (∀ s, s < 240 → I' a s = stR s0 s) ∧ F_X4_start E (rr w 54) (nI s0) (Hw E w I L Q) = rtV (Hw E w I' L Q) := by
  have hab : ∃ a b, ((a = 55 ∧ b = 56) ∨ (a = 56 ∧ b = 55)) ∧ Q 54 1 = some a ∧ Q 54 2 = some b := by
    rcases ho with ⟨e1, e2⟩ | ⟨e1, e2⟩
    · exact ⟨55, 56, Or.inl ⟨rfl, rfl⟩, e1, e2⟩
    · exact ⟨56, 55, Or.inr ⟨rfl, rfl⟩, e1, e2⟩
  obtain ⟨a, b, hab, e1, e2⟩ := hab
  have ia : IA w a 240 := by
    rcases hab with e | e
    · rw [e.1]; exact ia55
    · rw [e.1]; exact ia56
  have fl := f_fillI (E := E) (w := w) (I := I) (L := L) (Q := Q) (v := 0) hG ia
  refine ⟨up2 (rs I a 0 240 (fun _ => 0)) a s0 1000000, a, b, hab, e1, e2, fun k h1 h2 => ?_, fun s hs' => ?_, ?_⟩
  · rw [up2_row _ _ (by omega), rs_row _ _ (by omega)]
  · unfold stR
    by_cases e : s = s0
    · rw [if_pos e, e, up2_s]
    · rw [if_neg e, up2_i _ _ _ e, rs_in _ _ (by omega) (by omega)]
  · unfold F_X4_start
    rw [gf54_1, e1, Option.map_some, Option.bind_some, fl, cV_r, gf54_1, e1, Option.map_some, Option.bind_some, ia.pa, ix_n hs (by decide), Option.map_some, Option.bind_some]
end
