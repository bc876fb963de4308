/-! the reference's words: back, sides -/
section
variable {E : Ev} {w : Wo} {I : Nat → Nat → Int32} {L : Nat → Nat → Int64} {Q : Nat → Nat → Option Nat} {c : Nat → Nat} {y : Nat}
theorem m_224 {kf nf af kt nt at0 : Nat} (hG : 100000 ≤ E.2.2.1) (q1 : WfT (I 137) c) (hl : Laid I L (I 137) c y) (hm : MT w kf nf af kt nt at0) (hX : ∀ q, mX L kf af q → q < 4 * c 1) : MdP E w c y I L Q kt at0 (wBack (I 137) c y (mX L kf af)) (L_X12_word_224 E (rr w 163) (rr w kf) (nI af) (rr w kt) (nI at0) E.2.2.1 0 (Hw E w I L Q)) := by
  have k1 : c 1 ≤ 60 := (q1.1 1 (by decide)).2
  have hm0 := hm
  obtain ⟨g1, g2, g3, g4, g5, g6, g7⟩ := hm
  refine lpK2 (σ := Nat → Nat → Int64) (Lp := fun g i s => L_X12_word_224 E (rr w 163) (rr w kf) (nI af) (rr w kt) (nI at0) g (nI (2 * i)) (Hw E w I s Q)) (K := fun s => rtV (Hw E w I s Q)) (Iv := fun i s => MdF I I L s kt at0 ∧ Laid I s (I 137) c y ∧ ∀ q, q < 256 → (b256 (s kt) at0 q ↔ b256 (L kt) at0 q ∨ ∃ s0, s0 < 2 * i ∧ mX L kf af s0 ∧ s0 % 2 = 0 ∧ thr0 (I 137) c y (s0 / 4) ∧ q = 2 * (s0 / 2 ^^^ 1))) (N := 120) (g := E.2.2.1) (i := 0) (s := L) ?_ ?_ ?_ (by omega) (by omega) ⟨MdF.tmp g6.1 (fun _ _ => rfl) (fun _ _ => rfl), hl, fun q hq => ⟨Or.inl, fun z => z.elim id (fun ⟨s0, z, _⟩ => absurd z (by omega))⟩⟩
  · rintro L1 ⟨z1, z2, z3⟩ ee
    refine ⟨I, L1, z1, z2, fun q hq => ?_, ee⟩
    rw [z3 q hq]
    refine or_congr_right ⟨fun ⟨s0, _, z⟩ => ⟨s0, z⟩, fun ⟨s0, z⟩ => ⟨s0, by have := hX s0 z.1; omega, z⟩⟩
  · rintro g i L1 hi ⟨z1, z2, z3⟩
    have hh := f_has (E := E) (w := w) (I := I) (L := L1) (Q := Q) (s := 2 * i) g1 g2 (by omega)
    rw [zb_c (mX_f hm0 z1 (show 2 * i < 256 by omega))] at hh
    have no : ¬ (mX L kf af (2 * i) ∧ thr0 (I 137) c y (2 * i / 4)) → ∀ q, q < 256 → (b256 (L1 kt) at0 q ↔ b256 (L kt) at0 q ∨ ∃ s0, s0 < 2 * (i + 1) ∧ mX L kf af s0 ∧ s0 % 2 = 0 ∧ thr0 (I 137) c y (s0 / 4) ∧ q = 2 * (s0 / 2 ^^^ 1)) := fun h q hq => by
      rw [z3 q hq]
      refine or_congr_right ⟨fun ⟨s0, h1, h2⟩ => ⟨s0, by omega, h2⟩, fun ⟨s0, h1, h2, h3, h4, h5⟩ => ⟨s0, ?_, h2, h3, h4, h5⟩⟩
      by_cases e : s0 = 2 * i
      · subst e; exact absurd ⟨h2, h4⟩ h
      · omega
    by_cases ph : b256 (L kf) af (2 * i)
    · have il := hX (2 * i) ⟨by omega, ph⟩
      have th := f_isThereM (E := E) (w := w) (I := I) (L := L1) (Q := Q) (x := nI y) (v := 2 * i / 4) (by omega)
      have et : (I 137 (94 + 6 * (2 * i / 4)) ≤ nI y ∧ nI y ≤ I 137 (95 + 6 * (2 * i / 4))) ↔ thr0 (I 137) c y (2 * i / 4) := ⟨fun z => ⟨by omega, z⟩, fun z => z.2⟩
      rw [zb_c et] at th
      have xb : i ^^^ 1 < 120 := by rw [xo_1]; split <;> omega
      obtain ⟨p1, p2, p3⟩ := m_put (E := E) (w := w) (Q := Q) (s := 2 * (i ^^^ 1)) g3 g4 g6 (by omega) z1 z2
      have st : L_X12_word_224 E (rr w 163) (rr w kf) (nI af) (rr w kt) (nI at0) (g + 1) (nI (2 * i)) (Hw E w I L1 Q) = if zb (thr0 (I 137) c y (2 * i / 4)) = 0 then L_X12_word_224 E (rr w 163) (rr w kf) (nI af) (rr w kt) (nI at0) g (nI (2 * (i + 1))) (Hw E w I L1 Q) else L_X12_word_224 E (rr w 163) (rr w kf) (nI af) (rr w kt) (nI at0) g (nI (2 * (i + 1))) (Hw E w I (pt L1 kt at0 (2 * (i ^^^ 1))) Q) := by
        rw [L_X12_word_224, m240, if_neg (nI_ge (show 2 * i < 240 by omega) (by decide)), hh, cI_r, zi_t ph, m4, dv4 (by omega), Option.bind_some, gf163_4, Option.bind_some, z2.1, o163, Option.bind_some, th, cI_r, m2, dv2 (by omega), Option.bind_some, show 2 * i / 2 = i by omega, xo1 i hi, pk_mul, p3, cV_r, nI_add, show 2 * i + 2 = 2 * (i + 1) by omega]
      by_cases pt1 : thr0 (I 137) c y (2 * i / 4)
      · refine ⟨pt L1 kt at0 (2 * (i ^^^ 1)), ⟨p1, p2, fun q hq => ?_⟩, by show L_X12_word_224 E (rr w 163) (rr w kf) (nI af) (rr w kt) (nI at0) (g + 1) (nI (2 * i)) (Hw E w I L1 Q) = _; rw [st, zi_t pt1]⟩
        rw [pt_b (by omega) hq, z3 q hq]
        constructor
        · rintro (h | h | ⟨s0, h1, h2⟩)
          · exact Or.inr ⟨2 * i, by omega, ⟨by omega, ph⟩, by omega, pt1, by rw [show 2 * i / 2 = i by omega]; exact h⟩
          · exact Or.inl h
          · exact Or.inr ⟨s0, by omega, h2⟩
        · rintro (h | ⟨s0, h1, h2, h3, h4, h5⟩)
          · exact Or.inr (Or.inl h)
          · by_cases e : s0 = 2 * i
            · subst e; rw [show 2 * i / 2 = i by omega] at h5; exact Or.inl h5
            · exact Or.inr (Or.inr ⟨s0, by omega, h2, h3, h4, h5⟩)
      · exact ⟨L1, ⟨z1, z2, no (fun z => pt1 z.2)⟩, by show L_X12_word_224 E (rr w 163) (rr w kf) (nI af) (rr w kt) (nI at0) (g + 1) (nI (2 * i)) (Hw E w I L1 Q) = _; rw [st, zi_f pt1]⟩
    · refine ⟨L1, ⟨z1, z2, no (fun z => ph z.1.2)⟩, ?_⟩
      show L_X12_word_224 E (rr w 163) (rr w kf) (nI af) (rr w kt) (nI at0) (g + 1) (nI (2 * i)) (Hw E w I L1 Q) = _
      rw [L_X12_word_224, m240, if_neg (nI_ge (show 2 * i < 240 by omega) (by decide)), hh, cI_r, zi_f ph, m2, nI_add, show 2 * i + 2 = 2 * (i + 1) by omega]
  · rintro g L1 _
    show L_X12_word_224 E (rr w 163) (rr w kf) (nI af) (rr w kt) (nI at0) (g + 1) (nI 240) (Hw E w I L1 Q) = _
    rw [L_X12_word_224, m240, if_pos (nI_le (Nat.le_refl 240) (by decide))]
theorem m_sideOf {k n : Nat} (q1 : WfT (I 137) c) (hk : k < c 4) (hn : n < 2) : F_X12_sideOf E (rr w 163) (nI n) (nI k) (Hw E w I L Q) = rtI (nI (sdW (I 137) k n)) (Hw E w I L Q) := by
  have k4 : c 4 ≤ 8 := (q1.1 4 (by decide)).2
  unfold F_X12_sideOf sdW
  rw [m722, m5, m2]
  simp (disch := omega) only [Option.bind_some, Option.map_some, Option.join, cI_r, cL_r, cV_r, xI_r, xL_r, xV_r, xI_t, xL_t, xV_t, lt_r, rtZ_0, rtZ_1, rtZ_zb, pk_mul, nI_add, show 722 + 5 * k + 2 = 724 + 5 * k by omega, gf163_0, ga137, ix_n]
  by_cases e : I 137 (724 + 5 * k) = 1
  · rw [if_neg (not_not_intro e), if_pos e]
    have : n = 0 ∨ n = 1 := by omega
    rcases this with rfl | rfl <;> rfl
  · rw [if_pos e, if_neg e]
theorem m_286 {k n kf nf af kt nt at0 : Nat} (hG : 100000 ≤ E.2.2.1) (q1 : WfT (I 137) c) (hl : Laid I L (I 137) c y) (hk : k < c 4) (hn : n < 2) (hm : MT w kf nf af kt nt at0) : MdP E w c y I L Q kt at0 (wSide (I 137) c y (sdW (I 137) k n) (mX L kf af)) (L_X12_word_286 E (rr w 163) (nI n) (nI k) (rr w kf) (nI af) (rr w kt) (nI at0) E.2.2.1 0 (Hw E w I L Q)) := by
  have k1 : c 1 ≤ 60 := (q1.1 1 (by decide)).2
  have hm0 := hm
  obtain ⟨g1, g2, g3, g4, g5, g6, g7⟩ := hm
  have sdl : sdW (I 137) k n < 2 := by unfold sdW; split <;> omega
  have so : ∀ L1, F_X12_sideOf E (rr w 163) (nI n) (nI k) (Hw E w I L1 Q) = rtI (nI (sdW (I 137) k n)) (Hw E w I L1 Q) := fun L1 => m_sideOf q1 hk hn
  generalize sdW (I 137) k n = sd at *
  refine lpK2 (σ := Nat → Nat → Int64) (Lp := fun g i s => L_X12_word_286 E (rr w 163) (nI n) (nI k) (rr w kf) (nI af) (rr w kt) (nI at0) g (nI i) (Hw E w I s Q)) (K := fun s => rtV (Hw E w I s Q)) (Iv := fun i s => MdF I I L s kt at0 ∧ Laid I s (I 137) c y ∧ ∀ q, q < 256 → (b256 (s kt) at0 q ↔ b256 (L kt) at0 q ∨ ∃ s0, s0 < i ∧ b256 (L kf) af s0 ∧ b256 (L 140) (960 * (1 + sd) + 4 * s0) q)) (N := 240) (g := E.2.2.1) (i := 0) (s := L) ?_ ?_ ?_ (by omega) (by omega) ⟨MdF.tmp g6.1 (fun _ _ => rfl) (fun _ _ => rfl), hl, fun q hq => ⟨Or.inl, fun z => z.elim id (fun ⟨s0, z, _⟩ => absurd z (by omega))⟩⟩
  · rintro L1 ⟨z1, z2, z3⟩ ee
    refine ⟨I, L1, z1, z2, fun q hq => ?_, ee⟩
    rw [z3 q hq]
    refine or_congr_right ⟨?_, ?_⟩
    · rintro ⟨s0, h1, h2, h3⟩
      have := (((hl.2.1 s0 h1 q hq).2 sd sdl).1).mp h3
      exact ⟨this.1, s0, this.2.1, ⟨by omega, h2⟩, this.2.2⟩
    · rintro ⟨h1, s0, h2, h3, h4⟩
      exact ⟨s0, by omega, h3.2, (((hl.2.1 s0 (by omega) q hq).2 sd sdl).1).mpr ⟨h1, h2, h4⟩⟩
  · rintro g i L1 hi ⟨z1, z2, z3⟩
    have hh := f_has (E := E) (w := w) (I := I) (L := L1) (Q := Q) (s := i) g1 g2 (by omega)
    rw [zb_c (mX_f hm0 z1 (show i < 256 by omega))] at hh
    by_cases ph : b256 (L kf) af i
    · have e140 : L1 140 = L 140 := z1.2.1 140 (by unfold Tmp; omega) (Ne.symm g6.2)
      have ea : 4 * (240 * (1 + sd) + i) = 960 * (1 + sd) + 4 * i := by omega
      obtain ⟨I2, L2, r1, r2, r3, r4⟩ := m_jn (E := E) (w := w) (I := I) (L := L1) (Q := Q) (c := c) (y := y) (I1 := I) (L1 := L1) (W := fun q => b256 (L 140) (960 * (1 + sd) + 4 * i) q) hG g3 g4 g6 la140 (a2 := 4 * (240 * (1 + sd) + i)) (by omega) (Or.inl (Ne.symm g6.2)) (MdF.tmp g6.1 (fun _ _ => rfl) (fun _ _ => rfl)) (fun q hq => Iff.rfl) z2 (fun q hq => by rw [e140, ea])
      have jn := f_join (E := E) (w := w) (I := I) (L := L1) (Q := Q) (k := kt) (a := at0) (k2 := 140) (a2 := 4 * (240 * (1 + sd) + i)) hG g3 g4 la140 (by omega) (Or.inl (Ne.symm g6.2))
      refine ⟨rs L1 kt at0 4 (fun j => L1 kt (at0 + j) ||| L1 140 (4 * (240 * (1 + sd) + i) + j)), ⟨z1.tr ⟨fun _ _ => rfl, fun k _ hk => rs_row _ _ hk, fun j hj => rs_out _ _ (by omega)⟩, Laid_mv (fun _ _ => rfl) rfl (rs_row _ _ (Ne.symm g6.2)) (rs_row _ _ (Ne.symm (fun z => g6.1 (Or.inl z)))) z2, fun q hq => ?_⟩, ?_⟩
      · rw [rs_b hq, bg_or]
        have e3 : bg (fun j => L1 kt (at0 + j)) q ↔ b256 (L1 kt) at0 q := Iff.rfl
        have e4 : bg (fun j => L1 140 (4 * (240 * (1 + sd) + i) + j)) q ↔ b256 (L 140) (960 * (1 + sd) + 4 * i) q := by rw [e140, ea]; exact Iff.rfl
        rw [e3, e4, z3 q hq]
        constructor
        · rintro ((h | ⟨s0, h1, h2⟩) | h)
          · exact Or.inl h
          · exact Or.inr ⟨s0, by omega, h2⟩
          · exact Or.inr ⟨i, by omega, ph, h⟩
        · rintro (h | ⟨s0, h1, h2, h3⟩)
          · exact Or.inl (Or.inl h)
          · by_cases e : s0 = i
            · subst e; exact Or.inr h3
            · exact Or.inl (Or.inr ⟨s0, by omega, h2, h3⟩)
      · show L_X12_word_286 E (rr w 163) (nI n) (nI k) (rr w kf) (nI af) (rr w kt) (nI at0) (g + 1) (nI i) (Hw E w I L1 Q) = _
        rw [L_X12_word_286, m240, if_neg (nI_ge hi (by decide)), hh, cI_r, zi_t ph, gf163_5, Option.bind_some, o163, Option.bind_some, so L1, cI_r, f_sideAt1, cI_r, jn, cV_r, nI_1]
    · refine ⟨L1, ⟨z1, z2, fun q hq => ?_⟩, ?_⟩
      · rw [z3 q hq]
        refine or_congr_right ⟨fun ⟨s0, h1, h2⟩ => ⟨s0, by omega, h2⟩, fun ⟨s0, h1, h2, h3⟩ => ⟨s0, ?_, h2, h3⟩⟩
        by_cases e : s0 = i
        · subst e; exact absurd h2 ph
        · omega
      · show L_X12_word_286 E (rr w 163) (nI n) (nI k) (rr w kf) (nI af) (rr w kt) (nI at0) (g + 1) (nI i) (Hw E w I L1 Q) = _
        rw [L_X12_word_286, m240, if_neg (nI_ge hi (by decide)), hh, cI_r, zi_f ph, nI_1]
  · rintro g L1 _
    show L_X12_word_286 E (rr w 163) (nI n) (nI k) (rr w kf) (nI af) (rr w kt) (nI at0) (g + 1) (nI 240) (Hw E w I L1 Q) = _
    rw [L_X12_word_286, m240, if_pos (nI_le (Nat.le_refl 240) (by decide))]
end
