/-! the reference's words: far -/
section
variable {E : Ev} {w : Wo} {I : Nat → Nat → Int32} {L : Nat → Nat → Int64} {Q : Nat → Nat → Option Nat} {c : Nat → Nat} {y : Nat}
theorem m_far3 {K : Hp → Rs} (hG : 100000 ≤ E.2.2.1) : L_X12_far_3 E K (rr w 163) E.2.2.1 0 (Hw E w I L Q) = K (Hw E w I (rs L 149 0 164 (fun _ => 0)) Q) := by
  refine lpI (σ := Nat → Nat → Int64) (Lp := fun g i s => L_X12_far_3 E K (rr w 163) g (nI i) (Hw E w I s Q)) (Inv := fun i s => s = rs L 149 0 i (fun _ => 0)) (N := 164) ?_ ?_ E.2.2.1 0 L (by omega) (by omega) (rs_0 L 149 0 _).symm
  · intro g i s hi es
    subst es
    refine ⟨_, rfl, ?_⟩
    have := rs_s L 149 0 i (fun _ => 0)
    rw [Nat.zero_add] at this
    show L_X12_far_3 E K (rr w 163) (g + 1) (nI i) _ = _
    rw [L_X12_far_3]
    simp (disch := omega) only [Option.bind_some, Option.map_some, Option.join, cI_r, cL_r, cV_r, xI_r, xL_r, xV_r, xI_t, xL_t, xV_t, lt_r, rtZ_0, rtZ_1, rtZ_zb, m2, m3, m4, m5, m6, m7, m8, m9, m10, m11, m12, m13, m14, m15, m16, m17, m18, m19, m20, m21, m22, m23, m24, m25, m26, m27, m28, m29, m30, m31, m32, m40, m41, m60, m63, m64, m90, m99, m100, m120, m127, m164, m173, m200, m240, m255, m450, m480, m650, m722, m762, m960, m1000000, m2838, m2988, m4095, pk_mul, nI_add, nI_1, nI_leI, nI_ltI, nI_eq, ix_n, gf163_24, an149, show Int32.ofNat 164 = nI 164 from rfl, if_neg, la149.pa, this]
  · intro g s es
    subst es
    show L_X12_far_3 E K (rr w 163) (g + 1) (nI 164) _ = _
    rw [L_X12_far_3]
    simp (disch := omega) only [Option.bind_some, Option.map_some, Option.join, cI_r, cL_r, cV_r, xI_r, xL_r, xV_r, xI_t, xL_t, xV_t, lt_r, rtZ_0, rtZ_1, rtZ_zb, m2, m3, m4, m5, m6, m7, m8, m9, m10, m11, m12, m13, m14, m15, m16, m17, m18, m19, m20, m21, m22, m23, m24, m25, m26, m27, m28, m29, m30, m31, m32, m40, m41, m60, m63, m64, m90, m99, m100, m120, m127, m164, m173, m200, m240, m255, m450, m480, m650, m722, m762, m960, m1000000, m2838, m2988, m4095, pk_mul, nI_add, nI_1, nI_leI, nI_ltI, nI_eq, ix_n, gf163_24, an149, show Int32.ofNat 164 = nI 164 from rfl, if_pos]
theorem m_far54 {K : Hp → Rs} (hG : 100000 ≤ E.2.2.1) : L_X12_far_54 E K (rr w 163) E.2.2.1 0 (Hw E w I L Q) = K (Hw E w I (rs L 150 0 164 (fun _ => 0)) Q) := by
  refine lpI (σ := Nat → Nat → Int64) (Lp := fun g i s => L_X12_far_54 E K (rr w 163) g (nI i) (Hw E w I s Q)) (Inv := fun i s => s = rs L 150 0 i (fun _ => 0)) (N := 164) ?_ ?_ E.2.2.1 0 L (by omega) (by omega) (rs_0 L 150 0 _).symm
  · intro g i s hi es
    subst es
    refine ⟨_, rfl, ?_⟩
    have := rs_s L 150 0 i (fun _ => 0)
    rw [Nat.zero_add] at this
    show L_X12_far_54 E K (rr w 163) (g + 1) (nI i) _ = _
    rw [L_X12_far_54]
    simp (disch := omega) only [Option.bind_some, Option.map_some, Option.join, cI_r, cL_r, cV_r, xI_r, xL_r, xV_r, xI_t, xL_t, xV_t, lt_r, rtZ_0, rtZ_1, rtZ_zb, m2, m3, m4, m5, m6, m7, m8, m9, m10, m11, m12, m13, m14, m15, m16, m17, m18, m19, m20, m21, m22, m23, m24, m25, m26, m27, m28, m29, m30, m31, m32, m40, m41, m60, m63, m64, m90, m99, m100, m120, m127, m164, m173, m200, m240, m255, m450, m480, m650, m722, m762, m960, m1000000, m2838, m2988, m4095, pk_mul, nI_add, nI_1, nI_leI, nI_ltI, nI_eq, ix_n, gf163_25, an150, show Int32.ofNat 164 = nI 164 from rfl, if_neg, la150.pa, this]
  · intro g s es
    subst es
    show L_X12_far_54 E K (rr w 163) (g + 1) (nI 164) _ = _
    rw [L_X12_far_54]
    simp (disch := omega) only [Option.bind_some, Option.map_some, Option.join, cI_r, cL_r, cV_r, xI_r, xL_r, xV_r, xI_t, xL_t, xV_t, lt_r, rtZ_0, rtZ_1, rtZ_zb, m2, m3, m4, m5, m6, m7, m8, m9, m10, m11, m12, m13, m14, m15, m16, m17, m18, m19, m20, m21, m22, m23, m24, m25, m26, m27, m28, m29, m30, m31, m32, m40, m41, m60, m63, m64, m90, m99, m100, m120, m127, m164, m173, m200, m240, m255, m450, m480, m650, m722, m762, m960, m1000000, m2838, m2988, m4095, pk_mul, nI_add, nI_1, nI_leI, nI_ltI, nI_eq, ix_n, gf163_25, an150, show Int32.ofNat 164 = nI 164 from rfl, if_pos]
theorem m_nth21 {K : Hp → Rs} (hG : 100000 ≤ E.2.2.1) : L_X12_nth_21 E K (rr w 163) E.2.2.1 0 (Hw E w I L Q) = K (Hw E w I (rs L 149 0 164 (fun _ => 0)) Q) := by
  refine lpI (σ := Nat → Nat → Int64) (Lp := fun g i s => L_X12_nth_21 E K (rr w 163) g (nI i) (Hw E w I s Q)) (Inv := fun i s => s = rs L 149 0 i (fun _ => 0)) (N := 164) ?_ ?_ E.2.2.1 0 L (by omega) (by omega) (rs_0 L 149 0 _).symm
  · intro g i s hi es
    subst es
    refine ⟨_, rfl, ?_⟩
    have := rs_s L 149 0 i (fun _ => 0)
    rw [Nat.zero_add] at this
    show L_X12_nth_21 E K (rr w 163) (g + 1) (nI i) _ = _
    rw [L_X12_nth_21]
    simp (disch := omega) only [Option.bind_some, Option.map_some, Option.join, cI_r, cL_r, cV_r, xI_r, xL_r, xV_r, xI_t, xL_t, xV_t, lt_r, rtZ_0, rtZ_1, rtZ_zb, m2, m3, m4, m5, m6, m7, m8, m9, m10, m11, m12, m13, m14, m15, m16, m17, m18, m19, m20, m21, m22, m23, m24, m25, m26, m27, m28, m29, m30, m31, m32, m40, m41, m60, m63, m64, m90, m99, m100, m120, m127, m164, m173, m200, m240, m255, m450, m480, m650, m722, m762, m960, m1000000, m2838, m2988, m4095, pk_mul, nI_add, nI_1, nI_leI, nI_ltI, nI_eq, ix_n, gf163_24, an149, show Int32.ofNat 164 = nI 164 from rfl, if_neg, la149.pa, this]
  · intro g s es
    subst es
    show L_X12_nth_21 E K (rr w 163) (g + 1) (nI 164) _ = _
    rw [L_X12_nth_21]
    simp (disch := omega) only [Option.bind_some, Option.map_some, Option.join, cI_r, cL_r, cV_r, xI_r, xL_r, xV_r, xI_t, xL_t, xV_t, lt_r, rtZ_0, rtZ_1, rtZ_zb, m2, m3, m4, m5, m6, m7, m8, m9, m10, m11, m12, m13, m14, m15, m16, m17, m18, m19, m20, m21, m22, m23, m24, m25, m26, m27, m28, m29, m30, m31, m32, m40, m41, m60, m63, m64, m90, m99, m100, m120, m127, m164, m173, m200, m240, m255, m450, m480, m650, m722, m762, m960, m1000000, m2838, m2988, m4095, pk_mul, nI_add, nI_1, nI_leI, nI_ltI, nI_eq, ix_n, gf163_24, an149, show Int32.ofNat 164 = nI 164 from rfl, if_pos]
theorem m_nth74 {K : Hp → Rs} (hG : 100000 ≤ E.2.2.1) : L_X12_nth_74 E K (rr w 163) E.2.2.1 0 (Hw E w I L Q) = K (Hw E w I (rs L 150 0 164 (fun _ => 0)) Q) := by
  refine lpI (σ := Nat → Nat → Int64) (Lp := fun g i s => L_X12_nth_74 E K (rr w 163) g (nI i) (Hw E w I s Q)) (Inv := fun i s => s = rs L 150 0 i (fun _ => 0)) (N := 164) ?_ ?_ E.2.2.1 0 L (by omega) (by omega) (rs_0 L 150 0 _).symm
  · intro g i s hi es
    subst es
    refine ⟨_, rfl, ?_⟩
    have := rs_s L 150 0 i (fun _ => 0)
    rw [Nat.zero_add] at this
    show L_X12_nth_74 E K (rr w 163) (g + 1) (nI i) _ = _
    rw [L_X12_nth_74]
    simp (disch := omega) only [Option.bind_some, Option.map_some, Option.join, cI_r, cL_r, cV_r, xI_r, xL_r, xV_r, xI_t, xL_t, xV_t, lt_r, rtZ_0, rtZ_1, rtZ_zb, m2, m3, m4, m5, m6, m7, m8, m9, m10, m11, m12, m13, m14, m15, m16, m17, m18, m19, m20, m21, m22, m23, m24, m25, m26, m27, m28, m29, m30, m31, m32, m40, m41, m60, m63, m64, m90, m99, m100, m120, m127, m164, m173, m200, m240, m255, m450, m480, m650, m722, m762, m960, m1000000, m2838, m2988, m4095, pk_mul, nI_add, nI_1, nI_leI, nI_ltI, nI_eq, ix_n, gf163_25, an150, show Int32.ofNat 164 = nI 164 from rfl, if_neg, la150.pa, this]
  · intro g s es
    subst es
    show L_X12_nth_74 E K (rr w 163) (g + 1) (nI 164) _ = _
    rw [L_X12_nth_74]
    simp (disch := omega) only [Option.bind_some, Option.map_some, Option.join, cI_r, cL_r, cV_r, xI_r, xL_r, xV_r, xI_t, xL_t, xV_t, lt_r, rtZ_0, rtZ_1, rtZ_zb, m2, m3, m4, m5, m6, m7, m8, m9, m10, m11, m12, m13, m14, m15, m16, m17, m18, m19, m20, m21, m22, m23, m24, m25, m26, m27, m28, m29, m30, m31, m32, m40, m41, m60, m63, m64, m90, m99, m100, m120, m127, m164, m173, m200, m240, m255, m450, m480, m650, m722, m762, m960, m1000000, m2838, m2988, m4095, pk_mul, nI_add, nI_1, nI_leI, nI_ltI, nI_eq, ix_n, gf163_25, an150, show Int32.ofNat 164 = nI 164 from rfl, if_pos]
theorem m_far160 {K : Hp → Rs} (hG : 100000 ≤ E.2.2.1) : L_X12_far_160 E K (rr w 163) E.2.2.1 0 (Hw E w I L Q) = K (Hw E w I (rs L 149 0 164 (fun i => L 150 i)) Q) := by
  refine lpI (σ := Nat → Nat → Int64) (Lp := fun g i s => L_X12_far_160 E K (rr w 163) g (nI i) (Hw E w I s Q)) (Inv := fun i s => s = rs L 149 0 i (fun i => L 150 i)) (N := 164) ?_ ?_ E.2.2.1 0 L (by omega) (by omega) (rs_0 L 149 0 _).symm
  · intro g i s hi es
    subst es
    refine ⟨_, rfl, ?_⟩
    have := rs_s L 149 0 i (fun i => L 150 i)
    rw [Nat.zero_add] at this
    have r5 : rs L 149 0 i (fun i => L 150 i) 150 = L 150 := rs_row _ _ (by decide)
    show L_X12_far_160 E K (rr w 163) (g + 1) (nI i) _ = _
    rw [L_X12_far_160]
    simp (disch := omega) only [Option.bind_some, Option.map_some, Option.join, cI_r, cL_r, cV_r, xI_r, xL_r, xV_r, xI_t, xL_t, xV_t, lt_r, rtZ_0, rtZ_1, rtZ_zb, m2, m3, m4, m5, m6, m7, m8, m9, m10, m11, m12, m13, m14, m15, m16, m17, m18, m19, m20, m21, m22, m23, m24, m25, m26, m27, m28, m29, m30, m31, m32, m40, m41, m60, m63, m64, m90, m99, m100, m120, m127, m164, m173, m200, m240, m255, m450, m480, m650, m722, m762, m960, m1000000, m2838, m2988, m4095, pk_mul, nI_add, nI_1, nI_leI, nI_ltI, nI_eq, ix_n, gf163_25, gf163_24, an150, show Int32.ofNat 164 = nI 164 from rfl, if_neg, ga150, la149.pa, r5, this]
  · intro g s es
    subst es
    show L_X12_far_160 E K (rr w 163) (g + 1) (nI 164) _ = _
    rw [L_X12_far_160]
    simp (disch := omega) only [Option.bind_some, Option.map_some, Option.join, cI_r, cL_r, cV_r, xI_r, xL_r, xV_r, xI_t, xL_t, xV_t, lt_r, rtZ_0, rtZ_1, rtZ_zb, m2, m3, m4, m5, m6, m7, m8, m9, m10, m11, m12, m13, m14, m15, m16, m17, m18, m19, m20, m21, m22, m23, m24, m25, m26, m27, m28, m29, m30, m31, m32, m40, m41, m60, m63, m64, m90, m99, m100, m120, m127, m164, m173, m200, m240, m255, m450, m480, m650, m722, m762, m960, m1000000, m2838, m2988, m4095, pk_mul, nI_add, nI_1, nI_leI, nI_ltI, nI_eq, ix_n, gf163_25, an150, show Int32.ofNat 164 = nI 164 from rfl, if_pos]
theorem m_nth296 {K : Hp → Rs} (hG : 100000 ≤ E.2.2.1) : L_X12_nth_296 E K (rr w 163) E.2.2.1 0 (Hw E w I L Q) = K (Hw E w I (rs L 149 0 164 (fun i => L 150 i)) Q) := by
  refine lpI (σ := Nat → Nat → Int64) (Lp := fun g i s => L_X12_nth_296 E K (rr w 163) g (nI i) (Hw E w I s Q)) (Inv := fun i s => s = rs L 149 0 i (fun i => L 150 i)) (N := 164) ?_ ?_ E.2.2.1 0 L (by omega) (by omega) (rs_0 L 149 0 _).symm
  · intro g i s hi es
    subst es
    refine ⟨_, rfl, ?_⟩
    have := rs_s L 149 0 i (fun i => L 150 i)
    rw [Nat.zero_add] at this
    have r5 : rs L 149 0 i (fun i => L 150 i) 150 = L 150 := rs_row _ _ (by decide)
    show L_X12_nth_296 E K (rr w 163) (g + 1) (nI i) _ = _
    rw [L_X12_nth_296]
    simp (disch := omega) only [Option.bind_some, Option.map_some, Option.join, cI_r, cL_r, cV_r, xI_r, xL_r, xV_r, xI_t, xL_t, xV_t, lt_r, rtZ_0, rtZ_1, rtZ_zb, m2, m3, m4, m5, m6, m7, m8, m9, m10, m11, m12, m13, m14, m15, m16, m17, m18, m19, m20, m21, m22, m23, m24, m25, m26, m27, m28, m29, m30, m31, m32, m40, m41, m60, m63, m64, m90, m99, m100, m120, m127, m164, m173, m200, m240, m255, m450, m480, m650, m722, m762, m960, m1000000, m2838, m2988, m4095, pk_mul, nI_add, nI_1, nI_leI, nI_ltI, nI_eq, ix_n, gf163_25, gf163_24, an150, show Int32.ofNat 164 = nI 164 from rfl, if_neg, ga150, la149.pa, r5, this]
  · intro g s es
    subst es
    show L_X12_nth_296 E K (rr w 163) (g + 1) (nI 164) _ = _
    rw [L_X12_nth_296]
    simp (disch := omega) only [Option.bind_some, Option.map_some, Option.join, cI_r, cL_r, cV_r, xI_r, xL_r, xV_r, xI_t, xL_t, xV_t, lt_r, rtZ_0, rtZ_1, rtZ_zb, m2, m3, m4, m5, m6, m7, m8, m9, m10, m11, m12, m13, m14, m15, m16, m17, m18, m19, m20, m21, m22, m23, m24, m25, m26, m27, m28, m29, m30, m31, m32, m40, m41, m60, m63, m64, m90, m99, m100, m120, m127, m164, m173, m200, m240, m255, m450, m480, m650, m722, m762, m960, m1000000, m2838, m2988, m4095, pk_mul, nI_add, nI_1, nI_leI, nI_ltI, nI_eq, ix_n, gf163_25, an150, show Int32.ofNat 164 = nI 164 from rfl, if_pos]
theorem rs164 {g : Nat → Int64} {k l q : Nat} (hl : l ≤ 40) (hq : q < 256) : b256 (rs L k 0 164 g k) (4 * l) q ↔ b256 g (4 * l) q := by
  unfold b256; rw [rs_in _ _ (by omega) (by omega), Nat.sub_zero]
theorem m_gof18 {l0 M : Nat} (hG : 100000 ≤ E.2.2.1) (q1 : WfT (I 137) c) (hM : M ≤ 40) (hl : l0 ≤ 40) (hA : ∀ q, q < 256 → b256 (L 147) 0 q → q < 4 * c 1) : ∃ L', (∀ k, k ≠ 150 → L' k = L k) ∧ (∀ l, l ≤ 40 → ∀ q, q < 256 → (b256 (L' 150) (4 * l) q ↔ b256 (L 150) (4 * l) q ∨ (q % 2 = 0 ∧ b256 (L 147) 0 q ∧ l = l0 + wln (I 137) (q / 2) ∧ l ≤ M))) ∧ L_X12_goOnFar_18 E (rr w 163) (nI l0) (nI M) E.2.2.1 0 (Hw E w I L Q) = rtV (Hw E w I L' Q) := by
  have k1 : c 1 ≤ 60 := (q1.1 1 (by decide)).2
  have c0 : nI 0 = 0 := rfl
  refine lpK2 (σ := Nat → Nat → Int64) (Lp := fun g i s => L_X12_goOnFar_18 E (rr w 163) (nI l0) (nI M) g (nI (2 * i)) (Hw E w I s Q)) (K := fun s => rtV (Hw E w I s Q)) (Iv := fun i s => (∀ k, k ≠ 150 → s k = L k) ∧ ∀ l, l ≤ 40 → ∀ q, q < 256 → (b256 (s 150) (4 * l) q ↔ b256 (L 150) (4 * l) q ∨ (q < 2 * i ∧ q % 2 = 0 ∧ b256 (L 147) 0 q ∧ l = l0 + wln (I 137) (q / 2) ∧ l ≤ M))) (N := 120) (g := E.2.2.1) (i := 0) (s := L) ?_ ?_ ?_ (by omega) (by omega) ⟨fun _ _ => rfl, fun l hl q hq => ⟨Or.inl, fun z => z.elim id (fun z => absurd z.1 (by omega))⟩⟩
  · rintro s ⟨z1, z2⟩ ee
    refine ⟨s, z1, fun l hl q hq => ?_, ee⟩
    rw [z2 l hl q hq]
    exact or_congr_right ⟨fun z => z.2, fun z => ⟨by have := hA q hq z.2.1; omega, z⟩⟩
  · rintro g i s hi ⟨z1, z2⟩
    have hh := f_has (E := E) (w := w) (I := I) (L := s) (Q := Q) (k := 147) (a := 0) (s := 2 * i) la147 (by decide) (by omega)
    rw [c0, z1 147 (by decide)] at hh
    have no : ¬ (b256 (L 147) 0 (2 * i) ∧ l0 + wln (I 137) i ≤ M) → ∀ l, l ≤ 40 → ∀ q, q < 256 → (b256 (s 150) (4 * l) q ↔ b256 (L 150) (4 * l) q ∨ (q < 2 * (i + 1) ∧ q % 2 = 0 ∧ b256 (L 147) 0 q ∧ l = l0 + wln (I 137) (q / 2) ∧ l ≤ M)) := fun h l hl q hq => by
      rw [z2 l hl q hq]
      refine or_congr_right ⟨fun z => ⟨by omega, z.2⟩, fun ⟨h1, h2, h3, h4, h5⟩ => ⟨?_, h2, h3, h4, h5⟩⟩
      by_cases e : q = 2 * i
      · subst e
        rw [show 2 * i / 2 = i by omega] at h4
        exact absurd ⟨h3, by omega⟩ h
      · omega
    by_cases ph : b256 (L 147) 0 (2 * i)
    · have il := hA (2 * i) (by omega) ph
      obtain ⟨e1, e2, e3⟩ := wln_n (T := I 137) (j := i) q1 (by omega)
      have wy : F_X12_wayOf E (rr w 163) (nI (2 * i / 4)) (nI 3) (Hw E w I s Q) = rtI (nI (wln (I 137) i)) (Hw E w I s Q) := by
        rw [f_wayOf (k := 3) (by omega) (by decide), show 90 + 6 * (2 * i / 4) + 3 = 93 + 6 * (i / 2) by omega, e1]
      generalize hw : wln (I 137) i = wl at *
      by_cases pM : l0 + wl ≤ M
      · have pu := f_put (E := E) (w := w) (I := I) (L := s) (Q := Q) (k := 150) (a := 4 * (l0 + wl)) (s := 2 * i) la150 (by omega) (by omega)
        refine ⟨pt s 150 (4 * (l0 + wl)) (2 * i), ⟨fun k hk => (pt_row hk).trans (z1 k hk), fun l hl q hq => ?_⟩, ?_⟩
        · by_cases el : l = l0 + wl
          · subst el
            rw [pt_b (by omega) hq, z2 _ hl q hq]
            constructor
            · rintro (rfl | h | h)
              · exact Or.inr ⟨by omega, by omega, ph, by rw [show 2 * i / 2 = i by omega, hw], pM⟩
              · exact Or.inl h
              · exact Or.inr ⟨by omega, h.2⟩
            · rintro (h | h)
              · exact Or.inr (Or.inl h)
              · by_cases e : q = 2 * i
                · exact Or.inl e
                · exact Or.inr (Or.inr ⟨by omega, h.2⟩)
          · rw [pt_b2 (by omega) hq (by omega), z2 l hl q hq]
            refine or_congr_right ⟨fun z => ⟨by omega, z.2⟩, fun ⟨h1, h2, h3, h4, h5⟩ => ⟨?_, h2, h3, h4, h5⟩⟩
            by_cases e : q = 2 * i
            · subst e
              rw [show 2 * i / 2 = i by omega, hw] at h4
              exact absurd h4 el
            · omega
        · show L_X12_goOnFar_18 E (rr w 163) (nI l0) (nI M) (g + 1) (nI (2 * i)) (Hw E w I s Q) = _
          rw [L_X12_goOnFar_18, m240, if_neg (nI_ge (show 2 * i < 240 by omega) (by decide)), gf163_22, Option.bind_some, hh, cI_r, zi_t ph, m4, dv4 (by omega), Option.bind_some, o163, Option.bind_some, m3, wy, cI_r, nI_add, if_neg (fun z => by have := (nI_ltI (by omega) (by omega)).mp z; omega), gf163_25, Option.bind_some, Option.bind_some, wy, cI_r, nI_add, pk_mul, pu, cV_r, m2, nI_add, show 2 * i + 2 = 2 * (i + 1) by omega, o163, Option.bind_some]
      · refine ⟨s, ⟨z1, no (fun z => pM z.2)⟩, ?_⟩
        show L_X12_goOnFar_18 E (rr w 163) (nI l0) (nI M) (g + 1) (nI (2 * i)) (Hw E w I s Q) = _
        rw [L_X12_goOnFar_18, m240, if_neg (nI_ge (show 2 * i < 240 by omega) (by decide)), gf163_22, Option.bind_some, hh, cI_r, zi_t ph, m4, dv4 (by omega), Option.bind_some, o163, Option.bind_some, m3, wy, cI_r, nI_add, if_pos ((nI_ltI (by omega) (by omega)).mpr (by omega)), m2, nI_add, show 2 * i + 2 = 2 * (i + 1) by omega]
    · refine ⟨s, ⟨z1, no (fun z => ph z.1)⟩, ?_⟩
      show L_X12_goOnFar_18 E (rr w 163) (nI l0) (nI M) (g + 1) (nI (2 * i)) (Hw E w I s Q) = _
      rw [L_X12_goOnFar_18, m240, if_neg (nI_ge (show 2 * i < 240 by omega) (by decide)), gf163_22, Option.bind_some, hh, cI_r, zi_f ph, m2, nI_add, show 2 * i + 2 = 2 * (i + 1) by omega]
  · rintro g s _
    show L_X12_goOnFar_18 E (rr w 163) (nI l0) (nI M) (g + 1) (nI 240) (Hw E w I s Q) = _
    rw [L_X12_goOnFar_18, m240, if_pos (nI_le (Nat.le_refl 240) (by decide))]
theorem ON_lt {T : Ro} {X : Nat → Prop} {q : Nat} (z : ONs T c y X q) : q < 4 * c 1 := by
  obtain ⟨z1, s, z2, z3, z4⟩ := z
  have := z4.1.1
  omega
theorem m_goOnFar {l0 M : Nat} (hG : 100000 ≤ E.2.2.1) (q1 : WfT (I 137) c) (hld : LaidOk (L 140) (I 137) c y) (hM : M ≤ 40) (hl : l0 ≤ 40) : ∃ L', (∀ k, k ≠ 147 → k ≠ 150 → L' k = L k) ∧ (∀ l, l ≤ 40 → ∀ q, q < 256 → (b256 (L' 150) (4 * l) q ↔ b256 (L 150) (4 * l) q ∨ (ONs (I 137) c y (mX L 149 (4 * l0)) q ∧ l = l0 + wln (I 137) (q / 2) ∧ l ≤ M))) ∧ F_X12_goOnFar E (rr w 163) (nI l0) (nI M) (Hw E w I L Q) = rtV (Hw E w I L' Q) := by
  have k1 : c 1 ≤ 60 := (q1.1 1 (by decide)).2
  obtain ⟨L1, d1, d2, d3⟩ := m_goOn (E := E) (w := w) (I := I) (L := L) (Q := Q) (y := y) (k := 149) (n := 164) (a := 4 * l0) hG la149 (by omega) (by decide) hld k1
  obtain ⟨L2, f1, f2, f3⟩ := m_gof18 (E := E) (w := w) (I := I) (L := L1) (Q := Q) (c := c) (l0 := l0) (M := M) hG q1 hM hl (fun q hq z => ON_lt ((d2 q hq).mp z))
  refine ⟨L2, fun k h1 h2 => (f1 k h2).trans (d1 k h1), fun l hl q hq => ?_, ?_⟩
  · rw [f2 l hl q hq, d1 150 (by decide)]
    exact or_congr_right ⟨fun ⟨a1, a2, a3⟩ => ⟨(d2 q hq).mp a2, a3⟩, fun ⟨a1, a2⟩ => ⟨a1.1, (d2 q hq).mpr a1, a2⟩⟩
  · unfold F_X12_goOnFar
    rw [gf163_24, Option.bind_some, gf163_22, Option.bind_some, o163, Option.bind_some, m4, pk_mul, d3, cV_r, f3]
theorem m_far81 {N : Nat} {Z : Nat → Nat → Prop} (hG : 100000 ≤ E.2.2.1) (q1 : WfT (I 137) c) (hld : LaidOk (L 140) (I 137) c y) (hN : 1 ≤ N) (hN2 : N ≤ 20) (h5 : ∀ l, l ≤ 40 → ∀ q, q < 256 → ¬ b256 (L 150) (4 * l) q) (hZ : ∀ s l, Z s l → s < 4 * c 1) (h4 : ∀ l, l ≤ 40 → ∀ q, q < 256 → (b256 (L 149) (4 * l) q ↔ Z q l)) : ∃ L', (∀ k, k ≠ 147 → k ≠ 150 → L' k = L k) ∧ (∀ l, l ≤ 40 → ∀ q, q < 256 → (b256 (L' 150) (4 * l) q ↔ nxZ (I 137) c y (lnF N) Z q l)) ∧ ∀ K, L_X12_far_81 E K (rr w 163) (nI N) E.2.2.1 0 (Hw E w I L Q) = K (Hw E w I L' Q) := by
  have k1 : c 1 ≤ 60 := (q1.1 1 (by decide)).2
  have ln0 : ¬ lnF N = 0 := fun z => z64.mp z 0 (by decide) ((bs_m1 (by omega) (by decide)).mpr (by omega))
  have lnb : ∀ l, b64 (lnF N) l ↔ l ≤ 2 * N := fun l => by
    constructor
    · intro z; have := (bs_m1 (by omega) (b64_lt z)).mp z; omega
    · intro z; exact (bs_m1 (by omega) (by omega)).mpr (by omega)
  refine lpK2 (ρ := (Hp → Rs) → Rs) (σ := Nat → Nat → Int64) (Lp := fun g i s => fun K => L_X12_far_81 E K (rr w 163) (nI N) g (nI i) (Hw E w I s Q)) (K := fun s => fun K => K (Hw E w I s Q)) (Iv := fun i s => (∀ k, k ≠ 147 → k ≠ 150 → s k = L k) ∧ ∀ l, l ≤ 40 → ∀ q, q < 256 → (b256 (s 150) (4 * l) q ↔ ∃ l0, l0 < i ∧ ONs (I 137) c y (mX L 149 (4 * l0)) q ∧ l = l0 + wln (I 137) (q / 2) ∧ l ≤ 2 * N)) (N := 2 * N) (g := E.2.2.1) (i := 0) (s := L) ?_ ?_ ?_ (by omega) (by omega) ⟨fun _ _ _ => rfl, fun l hl q hq => ⟨fun z => absurd z (h5 l hl q hq), fun ⟨l0, z, _⟩ => absurd z (by omega)⟩⟩
  · rintro s ⟨z1, z2⟩ ee
    refine ⟨s, z1, fun l hl q hq => ?_, fun K => congrFun ee K⟩
    rw [z2 l hl q hq]
    have mv : ∀ l0, mvB (lnF N) (wln (I 137) (q / 2)) l0 l ↔ l = l0 + wln (I 137) (q / 2) ∧ b64 (lnF N) l := fun l0 => by unfold mvB; rw [if_neg ln0]
    unfold nxZ
    constructor
    · rintro ⟨l0, a1, a2, a3, a4⟩
      have := ON_lt a2
      obtain ⟨b1, s0, b2, b3, b4⟩ := a2
      exact ⟨b1, by omega, s0, l0, (h4 l0 (by omega) s0 (by omega)).mp b3.2, b4, (mv l0).mpr ⟨a3, (lnb l).mpr a4⟩⟩
    · rintro ⟨a1, a2, s0, l0, a3, a4, a56⟩
      obtain ⟨a5, a6⟩ := (mv l0).mp a56
      have b1 := hZ s0 l0 a3
      have b2 := (wln_n (T := I 137) (j := q / 2) q1 a4.1.1).2
      have b3 := (lnb l).mp a6
      exact ⟨l0, by omega, ⟨a1, s0, b1, ⟨by omega, (h4 l0 (by omega) s0 (by omega)).mpr a3⟩, a4⟩, a5, b3⟩
  · rintro g i s hi ⟨z1, z2⟩
    have e49 : s 149 = L 149 := z1 149 (by decide) (by decide)
    have inn := f_isNone (E := E) (w := w) (I := I) (L := s) (Q := Q) (k := 149) (a := 4 * i) la149 (by omega)
    rw [e49] at inn
    have emX : mX s 149 (4 * i) = mX L 149 (4 * i) := by unfold mX; rw [e49]
    by_cases pe : ∀ q, q < 256 → ¬ b256 (L 149) (4 * i) q
    · refine ⟨s, ⟨z1, fun l hl q hq => ?_⟩, ?_⟩
      · rw [z2 l hl q hq]
        refine ⟨fun ⟨l0, a1, a2⟩ => ⟨l0, by omega, a2⟩, fun ⟨l0, a1, a2, a3⟩ => ⟨l0, ?_, a2, a3⟩⟩
        by_cases e : l0 = i
        · subst e
          obtain ⟨_, s0, b2, b3, _⟩ := a2
          exact absurd b3.2 (pe s0 b3.1)
        · omega
      · funext K
        show L_X12_far_81 E K (rr w 163) (nI N) (g + 1) (nI i) (Hw E w I s Q) = _
        rw [L_X12_far_81, m2, pk_mul, if_neg (nI_ge hi (by omega)), gf163_24, Option.bind_some, m4, pk_mul, inn, cI_r, zi_t pe, nI_1]
    · obtain ⟨s1, d1, d2, d3⟩ := m_goOnFar (E := E) (w := w) (I := I) (L := s) (Q := Q) (c := c) (y := y) (l0 := i) (M := 2 * N) hG q1 (by rw [z1 140 (by decide) (by decide)]; exact hld) (by omega) (by omega)
      refine ⟨s1, ⟨fun k h1 h2 => (d1 k h1 h2).trans (z1 k h1 h2), fun l hl q hq => ?_⟩, ?_⟩
      · rw [d2 l hl q hq, z2 l hl q hq, emX]
        constructor
        · rintro (⟨l0, a1, a2⟩ | a)
          · exact ⟨l0, by omega, a2⟩
          · exact ⟨i, by omega, a⟩
        · rintro ⟨l0, a1, a2⟩
          by_cases e : l0 = i
          · subst e; exact Or.inr a2
          · exact Or.inl ⟨l0, by omega, a2⟩
      · funext K
        show L_X12_far_81 E K (rr w 163) (nI N) (g + 1) (nI i) (Hw E w I s Q) = _
        rw [L_X12_far_81, m2, pk_mul, if_neg (nI_ge hi (by omega)), gf163_24, Option.bind_some, m4, pk_mul, inn, cI_r, zi_f pe, o163, Option.bind_some, d3, cV_r, nI_1]
  · rintro g s _
    funext K
    show L_X12_far_81 E K (rr w 163) (nI N) (g + 1) (nI (2 * N)) (Hw E w I s Q) = _
    rw [L_X12_far_81, m2, pk_mul, if_pos (nI_le (Nat.le_refl _) (by omega))]
theorem m_far128 {N kt nt at0 : Nat} (hG : 100000 ≤ E.2.2.1) (hk : LA w kt nt) (ha : at0 + 4 ≤ nt) (hne : kt ≠ 150) (hN : 1 ≤ N) (hN2 : N ≤ 20) : ∃ L', (∀ k, k ≠ kt → L' k = L k) ∧ (∀ j, j < at0 ∨ at0 + 4 ≤ j → L' kt j = L kt j) ∧ (∀ q, q < 256 → (b256 (L' kt) at0 q ↔ b256 (L kt) at0 q ∨ ∃ l, b256 (L 150) (4 * l) q ∧ (N + 1) / 2 ≤ l ∧ l ≤ 2 * N)) ∧ ∀ K, L_X12_far_128 E K (rr w 163) (nI N) (rr w kt) (nI at0) E.2.2.1 (nI ((N + 1) / 2)) (Hw E w I L Q) = K (Hw E w I L' Q) := by
  refine lpK2 (ρ := (Hp → Rs) → Rs) (σ := Nat → Nat → Int64) (Lp := fun g i s => fun K => L_X12_far_128 E K (rr w 163) (nI N) (rr w kt) (nI at0) g (nI i) (Hw E w I s Q)) (K := fun s => fun K => K (Hw E w I s Q)) (Iv := fun i s => (∀ k, k ≠ kt → s k = L k) ∧ (∀ j, j < at0 ∨ at0 + 4 ≤ j → s kt j = L kt j) ∧ (N + 1) / 2 ≤ i ∧ ∀ q, q < 256 → (b256 (s kt) at0 q ↔ b256 (L kt) at0 q ∨ ∃ l, b256 (L 150) (4 * l) q ∧ (N + 1) / 2 ≤ l ∧ l < i)) (N := 2 * N + 1) (g := E.2.2.1) (i := (N + 1) / 2) (s := L) ?_ ?_ ?_ (by omega) (by omega) ⟨fun _ _ => rfl, fun _ _ => rfl, Nat.le_refl _, fun q hq => ⟨Or.inl, fun z => z.elim id (fun ⟨l, _, a1, a2⟩ => absurd a1 (by omega))⟩⟩
  · rintro s ⟨z1, z2, hi0, z3⟩ ee
    refine ⟨s, z1, z2, fun q hq => ?_, fun K => congrFun ee K⟩
    rw [z3 q hq]
    exact or_congr_right (exists_congr fun l => and_congr_right fun _ => and_congr_right fun _ => by omega)
  · rintro g i s hi ⟨z1, z2, hi0, z3⟩
    have jn := f_join (E := E) (w := w) (I := I) (L := s) (Q := Q) (k := kt) (a := at0) (k2 := 150) (a2 := 4 * i) hG hk ha la150 (by omega) (Or.inl (Ne.symm hne))
    refine ⟨rs s kt at0 4 (fun j => s kt (at0 + j) ||| s 150 (4 * i + j)), ⟨fun k hk => (rs_row _ _ hk).trans (z1 k hk), fun j hj => (rs_out _ _ (by omega)).trans (z2 j hj), by omega, fun q hq => ?_⟩, ?_⟩
    · by_cases hi1 : (N + 1) / 2 ≤ i
      · rw [rs_b hq, bg_or]
        have e3 : bg (fun j => s kt (at0 + j)) q ↔ b256 (s kt) at0 q := Iff.rfl
        have e4 : bg (fun j => s 150 (4 * i + j)) q ↔ b256 (L 150) (4 * i) q := by rw [z1 150 (Ne.symm hne)]; exact Iff.rfl
        rw [e3, e4, z3 q hq, or_assoc]
        refine or_congr_right ⟨?_, ?_⟩
        · rintro (⟨l, a1, a2, a3⟩ | a)
          · exact ⟨l, a1, a2, by omega⟩
          · exact ⟨i, a, hi0, by omega⟩
        · rintro ⟨l, a1, a2, a3⟩
          by_cases e : l = i
          · subst e; exact Or.inr a1
          · exact Or.inl ⟨l, a1, a2, by omega⟩
      · exact absurd hi0 hi1
    · funext K
      show L_X12_far_128 E K (rr w 163) (nI N) (rr w kt) (nI at0) (g + 1) (nI i) (Hw E w I s Q) = _
      rw [L_X12_far_128, m2, pk_mul, if_neg (fun z => by have := (nI_ltI (by omega) (by omega)).mp z; omega), gf163_25, Option.bind_some, m4, pk_mul, jn, cV_r, nI_1]
  · rintro g s _
    funext K
    show L_X12_far_128 E K (rr w 163) (nI N) (rr w kt) (nI at0) (g + 1) (nI (2 * N + 1)) (Hw E w I s Q) = _
    rw [L_X12_far_128, m2, pk_mul, if_pos ((nI_ltI (by omega) (by omega)).mpr (by omega))]
end
