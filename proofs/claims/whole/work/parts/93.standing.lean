/-! the reference: the states that stand with a name -/
section
variable {E : Ev} {w : Wo} {I : Nat → Nat → Int32} {L : Nat → Nat → Int64} {Q : Nat → Nat → Option Nat} {c : Nat → Nat} {y : Nat}
theorem la141 : LA w 141 384 := ⟨lv_of (by decide), rfl, by decide⟩
theorem la146 : LA w 146 4 := ⟨lv_of (by decide), rfl, by decide⟩
theorem la147 : LA w 147 4 := ⟨lv_of (by decide), rfl, by decide⟩
theorem la148 : LA w 148 4 := ⟨lv_of (by decide), rfl, by decide⟩
theorem la149 : LA w 149 164 := ⟨lv_of (by decide), rfl, by decide⟩
theorem la150 : LA w 150 164 := ⟨lv_of (by decide), rfl, by decide⟩
theorem la151 : LA w 151 4 := ⟨lv_of (by decide), rfl, by decide⟩
theorem la152 : LA w 152 4 := ⟨lv_of (by decide), rfl, by decide⟩
theorem m_st72 {u p : Nat} (hG : 100000 ≤ E.2.2.1) (q1 : WfT (I 137) c) (hu : u < 96) (hp : p < 64) : ∃ L', (∀ k, k ≠ 141 → L' k = L k) ∧ (∀ i, i < 4 * u ∨ 4 * u + 4 ≤ i → L' 141 i = L 141 i) ∧ (∀ q, q < 256 → (b256 (L' 141) (4 * u) q ↔ b256 (L 141) (4 * u) q ∨ (q < 4 * c 1 ∧ spl (I 137) q = nI p))) ∧ ∀ K, L_X12_standing_72 E K (rr w 163) (nI u) (nI p) E.2.2.1 0 (Hw E w I L Q) = K (Hw E w I L' Q) := by
  have k1 : c 1 ≤ 60 := (q1.1 1 (by decide)).2
  have e1 := (q1.1 1 (by decide)).1
  refine lpK2 (ρ := (Hp → Rs) → Rs) (σ := Nat → Nat → Int64) (Lp := fun g i s => fun K => L_X12_standing_72 E K (rr w 163) (nI u) (nI p) g (nI i) (Hw E w I s Q)) (K := fun s => fun K => K (Hw E w I s Q)) (Iv := fun i s => (∀ k, k ≠ 141 → s k = L k) ∧ (∀ j, j < 4 * u ∨ 4 * u + 4 ≤ j → s 141 j = L 141 j) ∧ ∀ q, q < 256 → (b256 (s 141) (4 * u) q ↔ b256 (L 141) (4 * u) q ∨ (q < i ∧ spl (I 137) q = nI p))) (N := 4 * c 1) (g := E.2.2.1) (i := 0) (s := L) ?_ ?_ ?_ (by omega) (by omega) ⟨fun _ _ => rfl, fun _ _ => rfl, fun q hq => ⟨Or.inl, fun z => z.elim id (fun z => absurd z.1 (by omega))⟩⟩
  · rintro s' ⟨z1, z2, z3⟩ ee
    exact ⟨s', z1, z2, z3, fun K => congrFun ee K⟩
  · rintro g i s hi ⟨z1, z2, z3⟩
    have pq : F_X12_put E (rr w 141) (nI (4 * u)) (nI i) (Hw E w I s Q) = rtV (Hw E w I (pt s 141 (4 * u) i) Q) := f_put la141 (by omega) (by omega)
    have st : ∀ K, L_X12_standing_72 E K (rr w 163) (nI u) (nI p) (g + 1) (nI i) (Hw E w I s Q) = if ¬ spl (I 137) i = nI p then L_X12_standing_72 E K (rr w 163) (nI u) (nI p) g (nI (i + 1)) (Hw E w I s Q) else L_X12_standing_72 E K (rr w 163) (nI u) (nI p) g (nI (i + 1)) (Hw E w I (pt s 141 (4 * u) i) Q) := fun K => by
      rw [L_X12_standing_72]
      simp (disch := omega) only [Option.bind_some, Option.map_some, Option.join, cI_r, cL_r, cV_r, xI_r, xL_r, xV_r, xI_t, xL_t, xV_t, lt_r, rtZ_0, rtZ_1, rtZ_zb, m4, pk_mul, gf163_0, ga137, show ix 1 2988 = some 1 from rfl, e1, nI_leI, if_neg, o163, f_placeOf, gf163_6, pq, nI_1]
    by_cases p1 : spl (I 137) i = nI p
    · refine ⟨pt s 141 (4 * u) i, ⟨fun k hk => (pt_row hk).trans (z1 k hk), fun j hj => (pt_out (by omega) hj).trans (z2 j hj), fun q hq => ?_⟩, by funext K; show L_X12_standing_72 E K (rr w 163) (nI u) (nI p) (g + 1) (nI i) (Hw E w I s Q) = _; rw [st, if_neg (not_not_intro p1)]⟩
      rw [pt_b (by omega) hq, z3 q hq]
      constructor
      · rintro (rfl | h | h)
        · exact Or.inr ⟨by omega, p1⟩
        · exact Or.inl h
        · exact Or.inr ⟨by omega, h.2⟩
      · rintro (h | h)
        · exact Or.inr (Or.inl h)
        · by_cases e : q = i
          · exact Or.inl e
          · exact Or.inr (Or.inr ⟨by omega, h.2⟩)
    · refine ⟨s, ⟨z1, z2, fun q hq => ?_⟩, by funext K; show L_X12_standing_72 E K (rr w 163) (nI u) (nI p) (g + 1) (nI i) (Hw E w I s Q) = _; rw [st, if_pos p1]⟩
      rw [z3 q hq]
      refine or_congr_right ⟨fun h => ⟨by omega, h.2⟩, fun h => ⟨?_, h.2⟩⟩
      by_cases e : q = i
      · subst e; exact absurd h.2 p1
      · omega
  · rintro g s _
    funext K
    show L_X12_standing_72 E K (rr w 163) (nI u) (nI p) (g + 1) (nI (4 * c 1)) (Hw E w I s Q) = _
    rw [L_X12_standing_72]
    simp (disch := omega) only [Option.bind_some, Option.map_some, Option.join, cI_r, cL_r, cV_r, xI_r, xL_r, xV_r, xI_t, xL_t, xV_t, lt_r, rtZ_0, rtZ_1, rtZ_zb, m4, pk_mul, gf163_0, ga137, show ix 1 2988 = some 1 from rfl, e1, nI_leI, if_pos]
theorem m_standing {k n : Nat} (hG : 100000 ≤ E.2.2.1) (q1 : WfT (I 137) c) (hl : Laid I L (I 137) c y) (hk : k < c 4) (hn : n < 12) : ∃ I' L', (∀ k', k' ≠ 142 → I' k' = I k') ∧ (∀ k', k' ≠ 141 → L' k' = L k') ∧ Laid I' L' (I 137) c y ∧ (∀ q, q < 256 → (b256 (L' 141) (4 * (12 * k + n)) q ↔ q < 4 * c 1 ∧ stS (I 137) c y k n q)) ∧ F_X12_standing E (rr w 163) (nI k) (nI n) (Hw E w I L Q) = rtI (nI (4 * (12 * k + n))) (Hw E w I' L' Q) := by
  have k0 : c 0 ≤ 40 := (q1.1 0 (by decide)).2
  have e0 := (q1.1 0 (by decide)).1
  have k1 : c 1 ≤ 60 := (q1.1 1 (by decide)).2
  have k4 : c 4 ≤ 8 := (q1.1 4 (by decide)).2
  have hsp : ∀ q, (q < 4 * c 1 ∧ ∃ p, p < c 0 ∧ spl (I 137) q = nI p ∧ stdA (I 137) c y k n p) ↔ q < 4 * c 1 ∧ stS (I 137) c y k n q := fun q => by
    refine and_congr_right fun hq => ⟨fun ⟨p, h1, h2⟩ => ⟨p, by omega, h2⟩, fun ⟨p, h1, h2, h3⟩ => ⟨p, ?_, h2, h3⟩⟩
    have b := ast_b q1.2.2.1 (show q / 2 / 2 < c 1 by omega)
    have : ∃ p', spl (I 137) q = nI p' ∧ p' < c 0 := by
      unfold spl; split
      · exact b.2
      · exact b.1
    obtain ⟨p', g1, g2⟩ := this
    have : p' = p := (nI_eq (by omega) (by omega)).mp (by rw [← g1, h2])
    omega
  unfold F_X12_standing
  have hu : 12 * k + n < 96 := by omega
  simp (disch := omega) only [Option.bind_some, Option.map_some, Option.join, cI_r, cL_r, cV_r, xI_r, xL_r, xV_r, xI_t, xL_t, xV_t, lt_r, rtZ_0, rtZ_1, rtZ_zb, m12, pk_mul, nI_add, gf163_7, ga142, ix_n]
  generalize hue : 12 * k + n = u at *
  rcases hl.2.2 k (by omega) n hn with h0 | ⟨h0, h1⟩
  · rw [hue] at h0
    rw [h0, if_pos rfl]
    have em : F_X12_empty E (rr w 141) (nI (4 * u)) (Hw E w (up2 I 142 u 1) L Q) = rtV (Hw E w (up2 I 142 u 1) (rs L 141 (4 * u) 4 (fun _ => 0)) Q) := f_empty hG la141 (by omega)
    simp (disch := omega) only [Option.bind_some, Option.map_some, Option.join, cI_r, cL_r, cV_r, xI_r, xL_r, xV_r, xI_t, xL_t, xV_t, lt_r, rtZ_0, rtZ_1, rtZ_zb, pa142, ix_n, show vp_nar .boolean (1 : Int32) = 1 from rfl, gf163_6, m4, pk_mul, em]
    have r137 : up2 I 142 u 1 137 = I 137 := up2_row I _ (by decide)
    have r163 : up2 I 142 u 1 163 = I 163 := up2_row I _ (by decide)
    have q1' : WfT (up2 I 142 u 1 137) c := by rw [r137]; exact q1
    refine lpK2 (σ := Nat → Nat → Int64) (Lp := fun g i s => L_X12_standing_40 E (rr w 163) (nI k) (nI n) (nI u) g (nI i) (Hw E w (up2 I 142 u 1) s Q)) (K := fun s => rtI (nI (4 * u)) (Hw E w (up2 I 142 u 1) s Q)) (Iv := fun i s => (∀ k, k ≠ 141 → s k = L k) ∧ (∀ j, j < 4 * u ∨ 4 * u + 4 ≤ j → s 141 j = L 141 j) ∧ ∀ q, q < 256 → (b256 (s 141) (4 * u) q ↔ q < 4 * c 1 ∧ ∃ p, p < i ∧ spl (I 137) q = nI p ∧ stdA (I 137) c y k n p)) (N := c 0) (g := E.2.2.1) (i := 0) (s := rs L 141 (4 * u) 4 (fun _ => 0)) ?_ ?_ ?_ (by omega) (by omega) ⟨fun k' hk' => rs_row _ _ hk', fun j hj => rs_out _ _ (by omega), fun q hq => by rw [rs_b hq]; exact ⟨fun z => absurd z bg_0, fun ⟨_, p, z, _⟩ => absurd z (by omega)⟩⟩
    · rintro s' ⟨z1, z2, z3⟩ ee
      refine ⟨up2 I 142 u 1, s', fun k' hk' => up2_row I _ hk', z1, ⟨by rw [r163]; exact hl.1, by rw [z1 140 (by decide)]; exact hl.2.1, ?_⟩, fun q hq => (z3 q hq).trans (hsp q), ee⟩
      intro k' hk' n' hn'
      by_cases e : 12 * k' + n' = u
      · have ek : k' = k := by omega
        have en : n' = n := by omega
        subst ek; subst en
        rw [e]
        exact Or.inr ⟨by unfold up2; rw [if_pos ⟨rfl, rfl⟩], z3⟩
      · rw [show up2 I 142 u 1 142 (12 * k' + n') = I 142 (12 * k' + n') from up2_i I 142 _ e]
        rcases hl.2.2 k' hk' n' hn' with h | ⟨h, h'⟩
        · exact Or.inl h
        · refine Or.inr ⟨h, fun q hq => ?_⟩
          rw [← h' q hq]
          unfold b256
          rw [z2 _ (by omega)]
    · rintro g i s hi ⟨z1, z2, z3⟩
      obtain ⟨s', d1, d2, d3, d4⟩ := m_st72 (E := E) (w := w) (I := up2 I 142 u 1) (L := s) (Q := Q) (u := u) (p := i) hG q1' hu (by omega)
      have hy4 : up2 I 142 u 1 163 4 = nI y := by rw [r163]; exact hl.1
      have sa := m_standsAt (E := E) (w := w) (I := up2 I 142 u 1) (L := s) (Q := Q) (p := i) (y := y) hG q1' hk hn
      have st : L_X12_standing_40 E (rr w 163) (nI k) (nI n) (nI u) (g + 1) (nI i) (Hw E w (up2 I 142 u 1) s Q) = if ¬ zb (stdA (up2 I 142 u 1 137) c y k n i) = 0 then L_X12_standing_40 E (rr w 163) (nI k) (nI n) (nI u) g (nI (i + 1)) (Hw E w (up2 I 142 u 1) s' Q) else L_X12_standing_40 E (rr w 163) (nI k) (nI n) (nI u) g (nI (i + 1)) (Hw E w (up2 I 142 u 1) s Q) := by
        rw [L_X12_standing_40]
        simp (disch := omega) only [Option.bind_some, Option.map_some, Option.join, cI_r, cL_r, cV_r, xI_r, xL_r, xV_r, xI_t, xL_t, xV_t, lt_r, rtZ_0, rtZ_1, rtZ_zb, gf163_0, ga137, show ix 0 2988 = some 0 from rfl, r137, e0, nI_leI, if_neg, gf163_4, hy4, o163]
        rw [sa, cI_r, d4, nI_1, r137]
      rw [r137] at st d3
      by_cases p1 : stdA (I 137) c y k n i
      · refine ⟨s', ⟨fun k hk => (d1 k hk).trans (z1 k hk), fun j hj => (d2 j hj).trans (z2 j hj), fun q hq => ?_⟩, by show L_X12_standing_40 E (rr w 163) (nI k) (nI n) (nI u) (g + 1) (nI i) (Hw E w (up2 I 142 u 1) s Q) = _; rw [st, zn_t p1]⟩
        rw [d3 q hq, z3 q hq]
        constructor
        · rintro (⟨h1, p, h2, h3⟩ | ⟨h1, h2⟩)
          · exact ⟨h1, p, by omega, h3⟩
          · exact ⟨h1, i, by omega, h2, p1⟩
        · rintro ⟨h1, p, h2, h3, h4⟩
          by_cases e : p = i
          · subst e; exact Or.inr ⟨h1, h3⟩
          · exact Or.inl ⟨h1, p, by omega, h3, h4⟩
      · refine ⟨s, ⟨z1, z2, fun q hq => ?_⟩, by show L_X12_standing_40 E (rr w 163) (nI k) (nI n) (nI u) (g + 1) (nI i) (Hw E w (up2 I 142 u 1) s Q) = _; rw [st, zn_f p1]⟩
        rw [z3 q hq]
        refine and_congr_right fun _ => ⟨fun ⟨p, h1, h2⟩ => ⟨p, by omega, h2⟩, fun ⟨p, h1, h2, h3⟩ => ⟨p, ?_, h2, h3⟩⟩
        by_cases e : p = i
        · subst e; exact absurd h3 p1
        · omega
    · rintro g s _
      show L_X12_standing_40 E (rr w 163) (nI k) (nI n) (nI u) (g + 1) (nI (c 0)) (Hw E w (up2 I 142 u 1) s Q) = _
      rw [L_X12_standing_40]
      simp (disch := omega) only [Option.bind_some, Option.map_some, Option.join, cI_r, cL_r, cV_r, xI_r, xL_r, xV_r, xI_t, xL_t, xV_t, lt_r, rtZ_0, rtZ_1, rtZ_zb, gf163_0, ga137, show ix 0 2988 = some 0 from rfl, r137, e0, nI_leI, if_pos, m4, pk_mul]
  · rw [hue] at h0 h1
    rw [h0, if_neg (by decide), m4, pk_mul]
    exact ⟨I, L, fun _ _ => rfl, fun _ _ => rfl, hl, fun q hq => (h1 q hq).trans (hsp q), rfl⟩
end
