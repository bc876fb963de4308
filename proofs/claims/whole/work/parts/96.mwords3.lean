/-! the reference's words: over, see, back, sides -/
section
variable {E : Ev} {w : Wo} {I : Nat → Nat → Int32} {L : Nat → Nat → Int64} {Q : Nat → Nat → Option Nat} {c : Nat → Nat} {y : Nat}
theorem m_ov64 {a : Nat} (hG : 100000 ≤ E.2.2.1) (ha : a + 4 ≤ 384) (K : Hp → Rs) : ((∃ q, q < 256 ∧ b256 (L 146) 0 q ∧ b256 (L 141) a q) → L_X12_isOver_64 E K (rr w 163) (nI a) E.2.2.1 0 (Hw E w I L Q) = rtI 1 (Hw E w I L Q)) ∧ ((¬ ∃ q, q < 256 ∧ b256 (L 146) 0 q ∧ b256 (L 141) a q) → L_X12_isOver_64 E K (rr w 163) (nI a) E.2.2.1 0 (Hw E w I L Q) = K (Hw E w I L Q)) := by
  have key : (∃ q, q < 256 ∧ b256 (L 146) 0 q ∧ b256 (L 141) a q) ↔ ∃ i, i < 4 ∧ ¬ (L 146 i &&& L 141 (a + i)) = 0 := by
    constructor
    · rintro ⟨q, h1, h2, h3⟩
      refine ⟨q / 64, by omega, fun z => z64.mp z (q % 64) (by omega) (b64_and.mpr ⟨?_, h3⟩)⟩
      unfold b256 at h2; rw [Nat.zero_add] at h2; exact h2
    · rintro ⟨i, h1, h2⟩
      by_cases e : ∃ j, j < 64 ∧ b64 (L 146 i &&& L 141 (a + i)) j
      · obtain ⟨j, h3, h4⟩ := e
        refine ⟨64 * i + j, by omega, ?_, ?_⟩
        · unfold b256; rw [show 0 + (64 * i + j) / 64 = i by omega, show (64 * i + j) % 64 = j by omega]; exact (b64_and.mp h4).1
        · unfold b256; rw [show (64 * i + j) / 64 = i by omega, show (64 * i + j) % 64 = j by omega]; exact (b64_and.mp h4).2
      · exact absurd (z64.mpr fun j hj z => e ⟨j, hj, z⟩) h2
  have st : ∀ g i, i < 4 → L_X12_isOver_64 E K (rr w 163) (nI a) (g + 1) (nI i) (Hw E w I L Q) = if (L 146 i &&& L 141 (a + i)) = 0 then L_X12_isOver_64 E K (rr w 163) (nI a) g (nI i + 1) (Hw E w I L Q) else rtI 1 (Hw E w I L Q) := fun g i hi => by
    rw [L_X12_isOver_64]
    simp (disch := omega) only [Option.bind_some, Option.map_some, Option.join, cI_r, cL_r, cV_r, xI_r, xL_r, xV_r, xI_t, xL_t, xV_t, lt_r, rtZ_0, rtZ_1, rtZ_zb, m4, nI_leI, if_neg, gf163_21, ga146, ix_n, gf163_6, ga141, nI_add]
  have s3 : ∀ g, L_X12_isOver_64 E K (rr w 163) (nI a) (g + 1) (nI 4) (Hw E w I L Q) = K (Hw E w I L Q) := fun g => by
    rw [L_X12_isOver_64]
    simp (disch := omega) only [m4, nI_leI, if_pos]
  constructor
  · intro hp
    obtain ⟨i0, hi0, hc0⟩ := key.mp hp
    refine srch (Lp := fun g i => L_X12_isOver_64 E K (rr w 163) (nI a) g i (Hw E w I L Q)) (N := 4) (c := fun i => ¬ (L 146 i &&& L 141 (a + i)) = 0) (R := fun _ => rtI 1 (Hw E w I L Q)) (Z := K (Hw E w I L Q)) ?_ ?_ ?_ ?_ ?_ _ (by omega)
    · intro g i hi _ hc
      rw [st g i hi, if_neg hc]
    · intro g i hi _ hc
      rw [st g i hi, if_pos (Classical.not_not.mp hc)]
    · intro g _; exact s3 g
    · intro i hi _ hc; rfl
    · intro hn; exact absurd hc0 (hn i0 hi0)
  · intro hp
    refine srch (Lp := fun g i => L_X12_isOver_64 E K (rr w 163) (nI a) g i (Hw E w I L Q)) (N := 4) (c := fun i => ¬ (L 146 i &&& L 141 (a + i)) = 0) (R := fun _ => rtI 1 (Hw E w I L Q)) (Z := K (Hw E w I L Q)) ?_ ?_ ?_ ?_ ?_ _ (by omega)
    · intro g i hi _ hc
      rw [st g i hi, if_neg hc]
    · intro g i hi _ hc
      rw [st g i hi, if_pos (Classical.not_not.mp hc)]
    · intro g _; exact s3 g
    · intro i hi _ hc; exact absurd (key.mpr ⟨i, hi, hc⟩) hp
    · intro hn; rfl
theorem m_isOver {k n s0 : Nat} (hG : 100000 ≤ E.2.2.1) (q1 : WfT (I 137) c) (hl : Laid I L (I 137) c y) (hk : k < c 4) (hn : n < 12) (hs : s0 < 256) : ∃ I' L', (∀ k, k ≠ 142 → I' k = I k) ∧ (∀ k, ¬ Tmp k → L' k = L k) ∧ Laid I' L' (I 137) c y ∧ F_X12_isOver E (rr w 163) (nI n) (nI k) (nI s0) (Hw E w I L Q) = rtI (zb (ovr (I 137) c y (stS (I 137) c y k n) 3 s0)) (Hw E w I' L' Q) := by
  have k1 : c 1 ≤ 60 := (q1.1 1 (by decide)).2
  have k4 : c 4 ≤ 8 := (q1.1 4 (by decide)).2
  have c0 : nI 0 = 0 := rfl
  obtain ⟨I1, L1, s1, s2, s3, s4, s5⟩ := m_standing (E := E) (w := w) (Q := Q) hG q1 hl hk hn
  have i137 : I1 137 = I 137 := s1 137 (by decide)
  have em : F_X12_empty E (rr w 146) 0 (Hw E w I1 L1 Q) = rtV (Hw E w I1 (rs L1 146 0 4 (fun _ => 0)) Q) := f_empty (a := 0) hG la146 (by decide)
  have pu : F_X12_put E (rr w 146) 0 (nI s0) (Hw E w I1 (rs L1 146 0 4 (fun _ => 0)) Q) = rtV (Hw E w I1 (pt (rs L1 146 0 4 (fun _ => 0)) 146 0 s0) Q) := f_put (a := 0) la146 (by decide) hs
  have onl : ∀ X q, q < 256 → ONs (I 137) c y X q → q < 4 * c 1 := fun X q hq z => by
    obtain ⟨z1, s, z2, z3, z4⟩ := z
    have := z4.1.1
    omega
  unfold F_X12_isOver
  rw [o163, Option.bind_some, s5, cI_r, gf163_21, Option.bind_some, em, cV_r, gf163_21, Option.bind_some, pu, cV_r]
  have ha : 4 * (12 * k + n) + 4 ≤ 384 := by omega
  generalize 4 * (12 * k + n) = a at *
  have ff := lpE (ρ := Rs) (σ := Nat → Nat → Int64) (Lp := fun g i s => L_X12_isOver_28 E (rr w 163) (nI a) g (nI i) (Hw E w I1 s Q)) (Post := fun r => ∃ L', (∀ k, k ≠ 146 → k ≠ 147 → L' k = L1 k) ∧ r = rtI (zb (ovr (I 137) c y (stS (I 137) c y k n) 3 s0)) (Hw E w I1 L' Q)) (Iv := fun i s => (∀ k, k ≠ 146 → k ≠ 147 → s k = L1 k) ∧ (∀ q, q < 256 → (b256 (s 146) 0 q ↔ onN (I 137) c y (fun s' => s' = s0) i q)) ∧ ¬ ovr (I 137) c y (stS (I 137) c y k n) i s0) (N := 3) ?_ ?_ E.2.2.1 0 (pt (rs L1 146 0 4 (fun _ => 0)) 146 0 s0) (by omega) (by omega) ⟨fun k' h1 _ => (pt_row h1).trans (rs_row _ _ h1), fun q hq => by rw [pt_b hs hq, rs_b hq]; exact ⟨fun z => z.elim id (fun z => absurd z bg_0), fun z => Or.inl z⟩, fun ⟨j, z, _⟩ => absurd z (by omega)⟩
  · obtain ⟨L', r1, r2⟩ := ff
    refine ⟨I1, L', s1, fun k' hk' => ?_, Laid_mv (fun _ _ => rfl) rfl (r1 140 (by decide) (by decide)) (r1 141 (by decide) (by decide)) s3, r2⟩
    have : ¬ (k' = 141 ∨ (146 ≤ k' ∧ k' ≤ 150)) := hk'
    rw [r1 k' (by omega) (by omega), s2 k' (by omega)]
  · rintro g i s hi ⟨z1, z2, z3⟩
    have ld : LaidOk (s 140) (I1 137) c y := by rw [z1 140 (by decide) (by decide), i137]; exact s3.2.1
    obtain ⟨t1, d1, d2, d3⟩ := m_goOn (E := E) (w := w) (I := I1) (L := s) (Q := Q) (y := y) (a := 0) hG la146 (by decide) (by decide) ld k1
    rw [c0] at d3
    rw [i137] at d2
    have cp2 := f_copy (E := E) (w := w) (I := I1) (L := t1) (Q := Q) (k := 146) (a := 0) (a2 := 0) hG la146 (by decide) la147 (by decide) (by decide)
    rw [c0] at cp2
    generalize ht2 : rs t1 146 0 4 (fun i => t1 147 (0 + i)) = t2 at cp2
    have y2 : ∀ q, q < 256 → (b256 (t2 146) 0 q ↔ onN (I 137) c y (fun s' => s' = s0) (i + 1) q) := fun q hq => by
      rw [← ht2, rs_b hq]
      have : bg (fun i => t1 147 (0 + i)) q ↔ b256 (t1 147) 0 q := Iff.rfl
      rw [this, d2 q hq]
      exact ONs_c fun s' hs' => ⟨fun z => (z2 s' (by omega)).mp z.2, fun z => ⟨by omega, (z2 s' (by omega)).mpr z⟩⟩
    have y1 : ∀ k, k ≠ 146 → k ≠ 147 → t2 k = L1 k := fun k' h1 h2 => by rw [← ht2, rs_row _ _ h1, d1 k' h2, z1 k' h1 h2]
    have y41 : ∀ q, q < 256 → (b256 (t2 141) a q ↔ q < 4 * c 1 ∧ stS (I 137) c y k n q) := fun q hq => by rw [y1 141 (by decide) (by decide)]; exact s4 q hq
    have key : (∃ q, q < 256 ∧ b256 (t2 146) 0 q ∧ b256 (t2 141) a q) ↔ ∃ q, onN (I 137) c y (fun s' => s' = s0) (i + 1) q ∧ stS (I 137) c y k n q := by
      constructor
      · rintro ⟨q, h1, h2, h3⟩
        exact ⟨q, (y2 q h1).mp h2, ((y41 q h1).mp h3).2⟩
      · rintro ⟨q, h2, h3⟩
        have hq : q < 256 := by
          obtain ⟨w1, s, w2, w3, w4⟩ := h2
          have := w4.1.1
          omega
        exact ⟨q, hq, (y2 q hq).mpr h2, (y41 q hq).mpr ⟨onl _ q hq h2, h3⟩⟩
    have st : L_X12_isOver_28 E (rr w 163) (nI a) (g + 1) (nI i) (Hw E w I1 s Q) = L_X12_isOver_64 E (fun h2 => L_X12_isOver_28 E (rr w 163) (nI a) g (nI (i + 1)) h2) (rr w 163) (nI a) E.2.2.1 0 (Hw E w I1 t2 Q) := by
      rw [L_X12_isOver_28, m3, if_neg (nI_ge hi (by omega)), gf163_21, Option.bind_some, gf163_22, Option.bind_some, o163, Option.bind_some, d3, cV_r, gf163_21, Option.bind_some, gf163_22, Option.bind_some, cp2, cV_r, nI_1]
    have ov := m_ov64 (E := E) (w := w) (I := I1) (L := t2) (Q := Q) hG ha (fun h2 => L_X12_isOver_28 E (rr w 163) (nI a) g (nI (i + 1)) h2)
    by_cases pe : ∃ q, onN (I 137) c y (fun s' => s' = s0) (i + 1) q ∧ stS (I 137) c y k n q
    · right
      refine ⟨t2, y1, ?_⟩
      show L_X12_isOver_28 E (rr w 163) (nI a) (g + 1) (nI i) (Hw E w I1 s Q) = _
      rw [st, ov.1 (key.mpr pe), zb_t (show ovr (I 137) c y (stS (I 137) c y k n) 3 s0 from ⟨i, hi, pe⟩)]
    · left
      refine ⟨t2, ⟨y1, y2, fun ⟨j, h1, h2⟩ => ?_⟩, ?_⟩
      · by_cases e : j = i
        · subst e; exact pe h2
        · exact z3 ⟨j, by omega, h2⟩
      · show L_X12_isOver_28 E (rr w 163) (nI a) (g + 1) (nI i) (Hw E w I1 s Q) = _
        rw [st, ov.2 (fun z => pe (key.mp z))]
  · rintro g s ⟨z1, z2, z3⟩
    refine ⟨s, z1, ?_⟩
    show L_X12_isOver_28 E (rr w 163) (nI a) (g + 1) (nI 3) (Hw E w I1 s Q) = _
    rw [L_X12_isOver_28, m3, if_pos (nI_le (Nat.le_refl 3) (by omega)), zb_f z3]; rfl
theorem m_put {kt nt at0 s : Nat} {I1 : Nat → Nat → Int32} {L1 : Nat → Nat → Int64} {T : Ro} (hk : LA w kt nt) (ha : at0 + 4 ≤ nt) (ht : ¬ Tmp kt ∧ kt ≠ 140) (hs : s < 256) (f : MdF I I1 L L1 kt at0) (hl : Laid I1 L1 T c y) : MdF I I1 L (pt L1 kt at0 s) kt at0 ∧ Laid I1 (pt L1 kt at0 s) T c y ∧ F_X12_put E (rr w kt) (nI at0) (nI s) (Hw E w I1 L1 Q) = rtV (Hw E w I1 (pt L1 kt at0 s) Q) := by
  have n1 : kt ≠ 141 := fun z => ht.1 (Or.inl z)
  exact ⟨f.tr ⟨fun _ _ => rfl, fun k _ hk => pt_row hk, fun j hj => pt_out hs hj⟩, Laid_mv (fun _ _ => rfl) rfl (pt_row (Ne.symm ht.2)) (pt_row (Ne.symm n1)) hl, f_put hk ha hs⟩
/-- a loop over the states of a set, that puts some -/
theorem m_129 {k n kf nf af kt nt at0 : Nat} {kd : Int32} {C : Nat → Prop} (hG : 100000 ≤ E.2.2.1) (q1 : WfT (I 137) c) (hl : Laid I L (I 137) c y) (hk : k < c 4) (hn : n < 12) (hm : MT w kf nf af kt nt at0) (hX : ∀ q, mX L kf af q → q < 4 * c 1) (hkd : (kd = 4 ∧ C = seS (I 137) c y k n) ∨ (kd = 5 ∧ C = ovr (I 137) c y (stS (I 137) c y k n) 3)) : MdP E w c y I L Q kt at0 (fun q => mX L kf af q ∧ C q) (L_X12_word_129 E (rr w 163) kd (nI n) (nI k) (rr w kf) (nI af) (rr w kt) (nI at0) E.2.2.1 0 (Hw E w I L Q)) := by
  have k0 : c 0 ≤ 40 := (q1.1 0 (by decide)).2
  have k1 : c 1 ≤ 60 := (q1.1 1 (by decide)).2
  have hm0 := hm
  obtain ⟨g1, g2, g3, g4, g5, g6, g7⟩ := hm
  refine lpK2 (σ := (Nat → Nat → Int32) × (Nat → Nat → Int64)) (Lp := fun g i s => L_X12_word_129 E (rr w 163) kd (nI n) (nI k) (rr w kf) (nI af) (rr w kt) (nI at0) g (nI i) (Hw E w s.1 s.2 Q)) (K := fun s => rtV (Hw E w s.1 s.2 Q)) (Iv := fun i s => MdF I s.1 L s.2 kt at0 ∧ Laid s.1 s.2 (I 137) c y ∧ ∀ q, q < 256 → (b256 (s.2 kt) at0 q ↔ b256 (L kt) at0 q ∨ (q < i ∧ mX L kf af q ∧ C q))) (N := 240) (g := E.2.2.1) (i := 0) (s := (I, L)) ?_ ?_ ?_ (by omega) (by omega) ⟨MdF.tmp g6.1 (fun _ _ => rfl) (fun _ _ => rfl), hl, fun q hq => ⟨Or.inl, fun z => z.elim id (fun z => absurd z.1 (by omega))⟩⟩
  · rintro ⟨I1, L1⟩ ⟨z1, z2, z3⟩ ee
    dsimp only at *
    refine ⟨I1, L1, z1, z2, fun q hq => ?_, ee⟩
    rw [z3 q hq]
    exact or_congr_right ⟨fun z => z.2, fun z => ⟨by have := hX q z.1; omega, z⟩⟩
  · rintro g i ⟨I1, L1⟩ hi ⟨z1, z2, z3⟩
    dsimp only at *
    have i137 : I1 137 = I 137 := z1.1 137 (by decide)
    have q1' : WfT (I1 137) c := by rw [i137]; exact q1
    have hh := f_has (E := E) (w := w) (I := I1) (L := L1) (Q := Q) (s := i) g1 g2 (by omega)
    rw [zb_c (mX_f hm0 z1 (show i < 256 by omega))] at hh
    by_cases ph : b256 (L kf) af i
    · have il := hX i ⟨by omega, ph⟩
      -- after the test
      have step : ∃ I2 L2, MdF I I2 L L2 kt at0 ∧ Laid I2 L2 (I 137) c y ∧ (L2 kt = L1 kt) ∧ L_X12_word_129 E (rr w 163) kd (nI n) (nI k) (rr w kf) (nI af) (rr w kt) (nI at0) (g + 1) (nI i) (Hw E w I1 L1 Q) = if zb (C i) = 0 then L_X12_word_129 E (rr w 163) kd (nI n) (nI k) (rr w kf) (nI af) (rr w kt) (nI at0) g (nI (i + 1)) (Hw E w I2 L2 Q) else cV (F_X12_put E (rr w kt) (nI at0) (nI i) (Hw E w I2 L2 Q)) fun h => L_X12_word_129 E (rr w 163) kd (nI n) (nI k) (rr w kf) (nI af) (rr w kt) (nI at0) g (nI (i + 1)) h := by
        rcases hkd with ⟨rfl, rfl⟩ | ⟨rfl, rfl⟩
        · have b := ast_b q1.2.2.1 (show i / 2 / 2 < c 1 by omega)
          have : ∃ p', spl (I 137) i = nI p' ∧ p' < c 0 := by
            unfold spl; split
            · exact b.2
            · exact b.1
          obtain ⟨p, h1, h2⟩ := this
          have sn := m_isSeenAt (E := E) (w := w) (I := I1) (L := L1) (Q := Q) (p := p) (y := y) hG q1' hk hn
          have e : senK (I1 137) c y (knd (I1 137) k n) p ↔ seS (I 137) c y k n i := by
            rw [i137]
            refine ⟨fun z => ⟨p, by omega, h1, z⟩, fun ⟨p', w1, w2, w3⟩ => ?_⟩
            have : p = p' := (nI_eq (by omega) (by omega)).mp (by rw [← h1, w2])
            subst this; exact w3
          rw [zb_c e] at sn
          refine ⟨I1, L1, z1, z2, rfl, ?_⟩
          rw [L_X12_word_129, m240, if_neg (nI_ge hi (by decide)), hh, cI_r, zi_t ph, if_neg (not_not_intro rfl), o163, Option.bind_some, f_placeOf hi, cI_r, gf163_4, Option.bind_some, z2.1, i137, h1, o163, Option.bind_some, sn, cI_r, nI_1]
        · obtain ⟨I2, L2, w1, w2, w3, w4⟩ := m_isOver (E := E) (w := w) (I := I1) (L := L1) (Q := Q) (y := y) (s0 := i) hG q1' (by rw [i137]; exact z2) hk hn (by omega)
          rw [i137] at w3 w4
          refine ⟨I2, L2, z1.tr (MdF.tmp g6.1 w1 w2), w3, w2 kt g6.1, ?_⟩
          rw [L_X12_word_129, m240, if_neg (nI_ge hi (by decide)), hh, cI_r, zi_t ph, if_pos (by decide), o163, Option.bind_some, w4, cI_r, nI_1]
      obtain ⟨I2, L2, w1, w2, w3, w4⟩ := step
      by_cases pc : C i
      · obtain ⟨p1, p2, p3⟩ := m_put (E := E) (w := w) (Q := Q) (s := i) g3 g4 g6 (by omega) w1 w2
        refine ⟨(I2, pt L2 kt at0 i), ⟨p1, p2, fun q hq => ?_⟩, ?_⟩
        · show b256 (pt L2 kt at0 i kt) at0 q ↔ _
          rw [pt_b (by omega) hq, w3, z3 q hq]
          constructor
          · rintro (rfl | h | h)
            · exact Or.inr ⟨by omega, ⟨hq, ph⟩, pc⟩
            · exact Or.inl h
            · exact Or.inr ⟨by omega, h.2⟩
          · rintro (h | h)
            · exact Or.inr (Or.inl h)
            · by_cases e : q = i
              · exact Or.inl e
              · exact Or.inr (Or.inr ⟨by omega, h.2⟩)
        · show L_X12_word_129 E (rr w 163) kd (nI n) (nI k) (rr w kf) (nI af) (rr w kt) (nI at0) (g + 1) (nI i) (Hw E w I1 L1 Q) = _
          rw [w4, zi_t pc, p3, cV_r]
      · refine ⟨(I2, L2), ⟨w1, w2, fun q hq => ?_⟩, ?_⟩
        · show b256 (L2 kt) at0 q ↔ _
          rw [w3, z3 q hq]
          refine or_congr_right ⟨fun h => ⟨by omega, h.2⟩, fun h => ⟨?_, h.2⟩⟩
          by_cases e : q = i
          · subst e; exact absurd h.2.2 pc
          · omega
        · show L_X12_word_129 E (rr w 163) kd (nI n) (nI k) (rr w kf) (nI af) (rr w kt) (nI at0) (g + 1) (nI i) (Hw E w I1 L1 Q) = _
          rw [w4, zi_f pc]
    · refine ⟨(I1, L1), ⟨z1, z2, fun q hq => ?_⟩, ?_⟩
      · show b256 (L1 kt) at0 q ↔ _
        rw [z3 q hq]
        refine or_congr_right ⟨fun h => ⟨by omega, h.2⟩, fun h => ⟨?_, h.2⟩⟩
        by_cases e : q = i
        · subst e; exact absurd h.2.1.2 ph
        · omega
      · show L_X12_word_129 E (rr w 163) kd (nI n) (nI k) (rr w kf) (nI af) (rr w kt) (nI at0) (g + 1) (nI i) (Hw E w I1 L1 Q) = _
        rw [L_X12_word_129, m240, if_neg (nI_ge hi (by decide)), hh, cI_r, zi_f ph, nI_1]
  · rintro g ⟨I1, L1⟩ _
    show L_X12_word_129 E (rr w 163) kd (nI n) (nI k) (rr w kf) (nI af) (rr w kt) (nI at0) (g + 1) (nI 240) (Hw E w I1 L1 Q) = _
    rw [L_X12_word_129, m240, if_pos (nI_le (Nat.le_refl 240) (by decide))]
end
