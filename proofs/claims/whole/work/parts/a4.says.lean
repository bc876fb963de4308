/-! the reference's saying, one row of words -/
def sayW (T : Ro) (c : Nat → Nat) (y k z j : Nat) (X : Nat → Prop) (q : Nat) : Prop := ∃ i, i < tn (T (765 + 173 * z + j)) ∧ wd T c y k (tn (T (775 + 173 * z + 16 * j + 4 * i))) (tn (T (776 + 173 * z + 16 * j + 4 * i))) (T (777 + 173 * z + 16 * j + 4 * i)) X q
section
variable {E : Ev} {w : Wo} {I : Nat → Nat → Int32} {L : Nat → Nat → Int64} {Q : Nat → Nat → Option Nat} {c : Nat → Nat} {y : Nat}
theorem m_says {z j k : Nat} (hG : 100000 ≤ E.2.2.1) (q1 : WfT (I 137) c) (hl : Laid I L (I 137) c y) (hk : k < c 4) (hz : z < c 5) (hj : nI j < I 137 (764 + 173 * z)) (hj2 : j < 10) (hX : ∀ q, mX L 151 0 q → q < 4 * c 1) : ∃ I' L', (∀ k, k ≠ 142 → I' k = I k) ∧ (∀ k, ¬ Tmp k → k ≠ 151 → k ≠ 152 → L' k = L k) ∧ Laid I' L' (I 137) c y ∧ (∀ q, q < 256 → (b256 (L' 151) 0 q ↔ sayW (I 137) c y k z j (mX L 151 0) q)) ∧ F_X12_says E (rr w 163) (nI z) (nI j) (nI k) (Hw E w I L Q) = rtV (Hw E w I' L' Q) := by
  have k5 : c 5 ≤ 12 := (q1.1 5 (by decide)).2
  have c0 : nI 0 = 0 := rfl
  obtain ⟨⟨n, en, hn1, hn2⟩, hW⟩ := (q1.2.2.2.2.2.2.1 z hz).2.2.2 j hj hj2
  have tN : tn (I 137 (765 + 173 * z + j)) = n := by rw [en]; exact nI_clamp (by omega)
  have nT : ∀ k, Tmp k → k ≠ 151 ∧ k ≠ 152 ∧ k ≠ 140 := fun k h => by unfold Tmp at h; omega
  have n51 : ¬ Tmp 151 := by unfold Tmp; omega
  have n52 : ¬ Tmp 152 := by unfold Tmp; omega
  have hm : MT w 151 4 0 152 4 0 := ⟨la151, by decide, la152, by decide, ⟨n51, by decide⟩, ⟨n52, by decide⟩, Or.inl (by decide)⟩
  have em : F_X12_empty E (rr w 152) 0 (Hw E w I L Q) = rtV (Hw E w I (rs L 152 0 4 (fun _ => 0)) Q) := f_empty (a := 0) hG la152 (by decide)
  have o1 : ∀ q, q < 256 → ¬ b256 (rs L 152 0 4 (fun _ => 0) 152) 0 q := fun q hq => by rw [rs_b hq]; exact bg_0
  have o2 : ∀ k, k ≠ 152 → rs L 152 0 4 (fun _ => 0) k = L k := fun k hk => rs_row _ _ hk
  unfold F_X12_says
  rw [gf163_27, Option.bind_some, em, cV_r, lt_r, m762, m173, pk_mul, nI_add]
  generalize rs L 152 0 4 (fun _ => 0) = L0 at *
  have la0 : Laid I L0 (I 137) c y := Laid_mv (fun _ _ => rfl) rfl (o2 140 (by decide)) (o2 141 (by decide)) hl
  have eX0 : mX L0 151 0 = mX L 151 0 := by unfold mX; rw [o2 151 (by decide)]
  refine lpK2 (ρ := (Hp → Rs) → Rs) (σ := (Nat → Nat → Int32) × (Nat → Nat → Int64)) (Lp := fun g i s => fun K => L_X12_says_22 E K (rr w 163) (nI j) (nI k) (nI (762 + 173 * z)) g (nI i) (Hw E w s.1 s.2 Q)) (K := fun s => fun K => K (Hw E w s.1 s.2 Q)) (Iv := fun i s => MdF I s.1 L0 s.2 152 0 ∧ Laid s.1 s.2 (I 137) c y ∧ ∀ q, q < 256 → (b256 (s.2 152) 0 q ↔ ∃ i', i' < i ∧ wd (I 137) c y k (tn (I 137 (775 + 173 * z + 16 * j + 4 * i'))) (tn (I 137 (776 + 173 * z + 16 * j + 4 * i'))) (I 137 (777 + 173 * z + 16 * j + 4 * i')) (mX L 151 0) q)) (N := n) (g := E.2.2.1) (i := 0) (s := (I, L0)) ?_ ?_ ?_ (by omega) (by omega) ⟨MdF.tmp n52 (fun _ _ => rfl) (fun _ _ => rfl), la0, fun q hq => ⟨fun z => absurd z (o1 q hq), fun ⟨_, z, _⟩ => absurd z (by omega)⟩⟩
  · rintro ⟨I1, L1⟩ ⟨z1, z2, z3⟩ ee
    dsimp only at *
    have cp := f_copy (E := E) (w := w) (I := I1) (L := L1) (Q := Q) (k := 151) (a := 0) (a2 := 0) hG la151 (by decide) la152 (by decide) (by decide)
    rw [c0] at cp
    refine ⟨I1, rs L1 151 0 4 (fun i => L1 152 (0 + i)), z1.1, fun k h1 h2 h3 => ?_, Laid_mv (fun _ _ => rfl) rfl (rs_row _ _ (by decide)) (rs_row _ _ (by decide)) z2, fun q hq => ?_, ?_⟩
    · rw [rs_row _ _ h2, z1.2.1 k h1 h3, o2 k h3]
    · rw [rs_b hq]
      have : bg (fun i => L1 152 (0 + i)) q ↔ b256 (L1 152) 0 q := Iff.rfl
      rw [this, z3 q hq]
      unfold sayW
      rw [tN]
    · have e2 := congrFun ee (fun h4 => (gfR h4 (rr w 163) 12 26).bind fun v96 => (gfR h4 (rr w 163) 12 27).bind fun v101 => cV (F_X12_copy E v96 (0 : Int32) v101 (0 : Int32) h4) fun h105 => rtV h105)
      dsimp only at e2
      rw [c0] at e2
      rw [e2, gf163_26, Option.bind_some, gf163_27, Option.bind_some, cp, cV_r]
  · rintro g i ⟨I1, L1⟩ hi ⟨z1, z2, z3⟩
    dsimp only at *
    have i137 : I1 137 = I 137 := z1.1 137 (by decide)
    have e51 : L1 151 = L 151 := (z1.2.1 151 n51 (by decide)).trans (o2 151 (by decide))
    have eX : mX L1 151 0 = mX L 151 0 := by unfold mX; rw [e51]
    have hw := hW i (by omega) (by rw [en]; exact (nI_ltI (by omega) (by omega)).mpr hi)
    have mw := m_word (E := E) (w := w) (I := I1) (L := L1) (Q := Q) (c := c) (y := y) (k := k) hG (by rw [i137]; exact q1) (by rw [i137]; exact z2) hk hm (by rw [eX]; exact hX) hw
    obtain ⟨I2, L2, v1, v2, v3, v4⟩ := mw
    rw [i137, eX] at v3
    rw [i137] at v2
    rw [c0] at v4
    refine ⟨(I2, L2), ⟨z1.tr v1, v2, fun q hq => ?_⟩, ?_⟩
    · show b256 (L2 152) 0 q ↔ _
      rw [v3 q hq, z3 q hq]
      constructor
      · rintro (⟨i', h1, h2⟩ | h)
        · exact ⟨i', by omega, h2⟩
        · exact ⟨i, by omega, h⟩
      · rintro ⟨i', h1, h2⟩
        by_cases e : i' = i
        · subst e; exact Or.inr h2
        · exact Or.inl ⟨i', by omega, h2⟩
    · funext K
      show L_X12_says_22 E K (rr w 163) (nI j) (nI k) (nI (762 + 173 * z)) (g + 1) (nI i) (Hw E w I1 L1 Q) = _
      have wa : ∀ h : Hp, F_X12_wordAt E (nI j) (nI i) h = rtI (nI (13 + 16 * j + 4 * i)) h := fun h => by
        unfold F_X12_wordAt
        simp (disch := omega) only [m2, m3, m4, m5, m6, m7, m8, m9, m10, m11, m12, m13, m14, m15, m16, m17, m18, m19, m20, m21, m22, m23, m24, m25, m26, m27, m28, m29, m30, m31, m32, m40, m41, m60, m63, m64, m90, m99, m100, m120, m127, m164, m173, m200, m240, m255, m450, m480, m650, m722, m762, m960, m1000000, m2838, m2988, m4095, pk_mul, nI_add, nI_1, nI_leI, nI_ltI, nI_eq, ix_n]
        try rfl
      rw [L_X12_says_22, m3]
      simp (disch := omega) only [Option.bind_some, Option.map_some, Option.join, cI_r, cL_r, cV_r, xI_r, xL_r, xV_r, xI_t, xL_t, xV_t, lt_r, rtZ_0, rtZ_1, rtZ_zb, nI_add, gf163_0, ga137, ix_n, i137, show 762 + 173 * z + 3 + j = 765 + 173 * z + j by omega, en, nI_leI, if_neg, wa]
      rw [m2]
      simp (disch := omega) only [Option.bind_some, Option.map_some, Option.join, cI_r, cL_r, cV_r, xI_r, xL_r, xV_r, xI_t, xL_t, xV_t, lt_r, rtZ_0, rtZ_1, rtZ_zb, nI_add, nI_1, gf163_0, ga137, ix_n, i137, show 762 + 173 * z + (13 + 16 * j + 4 * i) = 775 + 173 * z + 16 * j + 4 * i by omega, show 775 + 173 * z + 16 * j + 4 * i + 1 = 776 + 173 * z + 16 * j + 4 * i by omega, show 775 + 173 * z + 16 * j + 4 * i + 2 = 777 + 173 * z + 16 * j + 4 * i by omega, gf163_26, gf163_27, o163]
      rw [v4, cV_r]
  · rintro g ⟨I1, L1⟩ ⟨z1, z2, z3⟩
    dsimp only at *
    have i137 : I1 137 = I 137 := z1.1 137 (by decide)
    funext K
    show L_X12_says_22 E K (rr w 163) (nI j) (nI k) (nI (762 + 173 * z)) (g + 1) (nI n) (Hw E w I1 L1 Q) = _
    rw [L_X12_says_22, m3]
    simp (disch := omega) only [Option.bind_some, Option.map_some, Option.join, cI_r, cL_r, cV_r, xI_r, xL_r, xV_r, xI_t, xL_t, xV_t, lt_r, rtZ_0, rtZ_1, rtZ_zb, nI_add, gf163_0, ga137, ix_n, i137, show 762 + 173 * z + 3 + j = 765 + 173 * z + j by omega, en, nI_leI, if_pos]
end
