/-! the reference's map: layOne, lay -/
section
variable {E : Ev} {w : Wo} {I : Nat → Nat → Int32} {L : Nat → Nat → Int64} {Q : Nat → Nat → Option Nat} {c : Nat → Nat} {x : Int32}
def newS (T : Ro) (c : Nat → Nat) (y s i m q : Nat) : Prop := ∃ a, a < i ∧ isOt T c (thr0 T c y) s a ∧ q = 2 * a ∧ ∃ sd, sd < 2 ∧ sid T s a = sd ∧ (m = 240 * (1 + sd) + s ∨ (m = 240 * (3 + sd) + s ∧ ¬ isPt T a))
theorem newS_no {T : Ro} {y s i m q : Nat} (h : ¬ isOt T c (thr0 T c y) s i ∨ ¬ sid T s i < 2) : newS T c y s (i + 1) m q ↔ newS T c y s i m q := by
  constructor
  · rintro ⟨a, h1, h2, h3, sd, h4, h5, h6⟩
    by_cases e : a = i
    · subst e
      rcases h with h | h
      · exact absurd h2 h
      · exact absurd (by omega) h
    · exact ⟨a, by omega, h2, h3, sd, h4, h5, h6⟩
  · rintro ⟨a, h1, h2⟩; exact ⟨a, by omega, h2⟩
theorem newS_yes {T : Ro} {y s i m q sd : Nat} (h : isOt T c (thr0 T c y) s i) (hs : sid T s i = sd) (hsd : sd < 2) : newS T c y s (i + 1) m q ↔ newS T c y s i m q ∨ (q = 2 * i ∧ (m = 240 * (1 + sd) + s ∨ (m = 240 * (3 + sd) + s ∧ ¬ isPt T i))) := by
  constructor
  · rintro ⟨a, h1, h2, h3, sd', h4, h5, h6⟩
    by_cases e : a = i
    · subst e
      rw [hs] at h5; subst h5
      exact Or.inr ⟨h3, h6⟩
    · exact Or.inl ⟨a, by omega, h2, h3, sd', h4, h5, h6⟩
  · rintro (⟨a, h1, h2⟩ | ⟨h1, h2⟩)
    · exact ⟨a, by omega, h2⟩
    · exact ⟨i, by omega, h, h1, sd, hsd, hs, h2⟩
theorem i32_0 {a : Int32} : a = 0 ↔ a.toInt = 0 := by rw [← Int32.toInt_inj]; rfl
theorem i32_le0 {a : Int32} : a ≤ 0 ↔ a.toInt ≤ 0 := by rw [Int32.le_iff_toInt_le]; rfl
theorem m_lay5 {s y : Nat} {K : Int32 → Hp → Rs} (hG : 100000 ≤ E.2.2.1) (q1 : WfT (I 137) c) (hs : s < 4 * c 1) : ∃ I' L', (∀ k, k ≠ 143 → I' k = I k) ∧ (∀ k, k ≠ 140 → L' k = L k) ∧ (∀ a, a < 2 * c 1 → isOt (I 137) c (thr0 (I 137) c y) s a → I' 143 (cntP (isOt (I 137) c (thr0 (I 137) c y) s) a) = nI a) ∧ (∀ m q, q < 256 → (bm (L' 140) m q ↔ bm (L 140) m q ∨ newS (I 137) c y s (2 * c 1) m q)) ∧ L_X12_layOne_5 E K (rr w 163) (nI s) (nI y) E.2.2.1 0 0 (Hw E w I L Q) = K (nI (cntP (isOt (I 137) c (thr0 (I 137) c y) s) (2 * c 1))) (Hw E w I' L' Q) := by
  have k1 : c 1 ≤ 60 := (q1.1 1 (by decide)).2
  have e1 := (q1.1 1 (by decide)).1
  generalize hP : isOt (I 137) c (thr0 (I 137) c y) s = P
  have hPa : ∀ a, isOt (I 137) c (thr0 (I 137) c y) s a ↔ P a := fun a => by rw [hP]
  refine lpK2 (σ := (Nat → Nat → Int32) × (Nat → Nat → Int64)) (Lp := fun g i t => L_X12_layOne_5 E K (rr w 163) (nI s) (nI y) g (nI (cntP P i)) (nI i) (Hw E w t.1 t.2 Q)) (K := fun t => K (nI (cntP P (2 * c 1))) (Hw E w t.1 t.2 Q)) (Iv := fun i t => (∀ k, k ≠ 143 → t.1 k = I k) ∧ (∀ k, k ≠ 140 → t.2 k = L k) ∧ (∀ a, a < i → P a → t.1 143 (cntP P a) = nI a) ∧ (∀ m q, q < 256 → (bm (t.2 140) m q ↔ bm (L 140) m q ∨ newS (I 137) c y s i m q))) (N := 2 * c 1) (g := E.2.2.1) (i := 0) (s := (I, L)) ?_ ?_ ?_ (by omega) (by omega) ⟨fun _ _ => rfl, fun _ _ => rfl, fun a ha => absurd ha (by omega), fun m q hq => ⟨Or.inl, fun h => h.elim id (fun ⟨a, ha, _⟩ => absurd ha (by omega))⟩⟩
  · rintro ⟨I', L'⟩ ⟨z1, z2, z3, z4⟩ ee
    exact ⟨I', L', z1, z2, z3, z4, ee⟩
  · rintro g i ⟨I1, L1⟩ hi ⟨z1, z2, z3, z4⟩
    have hT : I1 137 = I 137 := z1 137 (by decide)
    have q1' : WfT (I1 137) c := by rw [hT]; exact q1
    have e1' : I1 137 1 = nI (c 1) := by rw [hT]; exact e1
    have fo := f_isOut (E := E) (w := w) (L := L1) (Q := Q) (y := y) q1' hs hi
    rw [hT, hP] at fo
    generalize eI2 : up2 I1 143 (cntP P i) (nI i) = I2
    have hT2 : I2 137 = I 137 := by rw [← eI2, up2_row _ _ (by decide), hT]
    have fc := f_cross (E := E) (w := w) (L := L1) (Q := Q) (I := I2) (by rw [hT2]; exact q1) hs hi
    rw [hT2] at fc
    have cl : cntP P i < 120 := Nat.lt_of_le_of_lt (cntP_le i) (by omega)
    have hcr := crI_v q1 hs hi
    have step : L_X12_layOne_5 E K (rr w 163) (nI s) (nI y) (g + 1) (nI (cntP P i)) (nI i) (Hw E w I1 L1 Q) = if ¬ zb (P i) = 0 then (if ¬ crI (I 137) s i = 0 then (if crI (I 137) s i ≤ 0 then J_X12_layOne_74 E (fun w1 w2 h4 => L_X12_layOne_5 E K (rr w 163) (nI s) (nI y) g w1 w2 h4) (rr w 163) (nI s) (nI y) (nI (cntP P i + 1)) (nI i) (crI (I 137) s i) (rr w 140) 1 (Hw E w I2 L1 Q) else J_X12_layOne_74 E (fun w1 w2 h4 => L_X12_layOne_5 E K (rr w 163) (nI s) (nI y) g w1 w2 h4) (rr w 163) (nI s) (nI y) (nI (cntP P i + 1)) (nI i) (crI (I 137) s i) (rr w 140) 0 (Hw E w I2 L1 Q)) else L_X12_layOne_5 E K (rr w 163) (nI s) (nI y) g (nI (cntP P i + 1)) (nI (i + 1)) (Hw E w I2 L1 Q)) else L_X12_layOne_5 E K (rr w 163) (nI s) (nI y) g (nI (cntP P i)) (nI (i + 1)) (Hw E w I1 L1 Q) := by
      rw [L_X12_layOne_5]
      simp (disch := omega) only [Option.bind_some, Option.map_some, Option.join, cI_r, cL_r, cV_r, xI_r, xL_r, xV_r, xI_t, xL_t, xV_t, lt_r, rtZ_0, rtZ_1, rtZ_zb, m2, m3, m4, m5, m6, m7, m8, m9, m10, m11, m12, m13, m14, m15, m16, m17, m18, m19, m20, m21, m22, m23, m24, m25, m26, m27, m28, m29, m30, m31, m32, m40, m41, m60, m63, m64, m90, m99, m100, m120, m127, m164, m173, m200, m240, m255, m450, m480, m650, m722, m762, m960, m1000000, m2838, m2988, m4095, pk_mul, nI_add, nI_1, nI_leI, nI_ltI, nI_eq, ix_n, gf163_0, ga137, show ix 1 2988 = some 1 from rfl, e1', if_neg, o163, fo, gf163_8, pa143, eI2, fc, gf163_5]
    have f2 : ∀ k, k ≠ 143 → I2 k = I k := fun k hk => by rw [← eI2, up2_row _ _ hk]; exact z1 k hk
    have f3 : P i → ∀ a, a < i + 1 → P a → I2 143 (cntP P a) = nI a := fun p a ha pa => by
      by_cases e : a = i
      · subst e; rw [← eI2, up2_s]
      · rw [← eI2, up2_i _ _ _ (fun z => e (cnt_inj pa p z))]; exact z3 a (by omega) pa
    by_cases p : P i
    · have p' := (hPa i).mpr p
      by_cases c0 : crI (I 137) s i = 0
      · refine ⟨(I2, L1), ⟨f2, z2, f3 p, fun m q hq => ?_⟩, ?_⟩
        · rw [newS_no (Or.inr (by unfold sid; rw [← hcr, i32_0.mp c0]; decide))]; exact z4 m q hq
        · show L_X12_layOne_5 E K (rr w 163) (nI s) (nI y) (g + 1) (nI (cntP P i)) (nI i) (Hw E w I1 L1 Q) = _
          rw [step, zn_t p, if_neg (not_not_intro c0), cntP_t p]
      · by_cases c1 : crI (I 137) s i ≤ 0
        · have hneg : crs (I 137) s i < 0 := by have h1 := i32_le0.mp c1; have h2 : ¬ crs (I 137) s i = 0 := fun z => c0 (i32_0.mpr (hcr.trans z)); rw [hcr] at h1; omega
          have hsd : sid (I 137) s i = 1 := by unfold sid; rw [if_neg (by omega), if_pos hneg]
          obtain ⟨L2, g1, g2, g3⟩ := m_lay74 (E := E) (w := w) (I := I2) (L := L1) (Q := Q) (s := s) (a := i) (sd := 1) (y2 := nI y) (y3 := nI (cntP P i + 1)) (cr := crI (I 137) s i) (K := fun w1 w2 h4 => L_X12_layOne_5 E K (rr w 163) (nI s) (nI y) g w1 w2 h4) (by rw [hT2]; exact q1) hs hi (by decide) ⟨fun _ => rfl, fun _ => c1⟩
          refine ⟨(I2, L2), ⟨f2, fun k hk => (g1 k hk).trans (z2 k hk), f3 p, fun m q hq => ?_⟩, ?_⟩
          · rw [hT2] at g2
            show bm (L2 140) m q ↔ _
            rw [g2 m q hq, z4 m q hq, newS_yes p' hsd (by decide), or_assoc]
          · show L_X12_layOne_5 E K (rr w 163) (nI s) (nI y) (g + 1) (nI (cntP P i)) (nI i) (Hw E w I1 L1 Q) = _
            rw [step, zn_t p, if_pos c0, if_pos c1, cntP_t p]; exact g3
        · have hpos : 0 < crs (I 137) s i := by have h1 : ¬ crs (I 137) s i ≤ 0 := fun z => c1 (i32_le0.mpr (by rw [hcr]; exact z)); omega
          have hsd : sid (I 137) s i = 0 := by unfold sid; rw [if_pos hpos]
          obtain ⟨L2, g1, g2, g3⟩ := m_lay74 (E := E) (w := w) (I := I2) (L := L1) (Q := Q) (s := s) (a := i) (sd := 0) (y2 := nI y) (y3 := nI (cntP P i + 1)) (cr := crI (I 137) s i) (K := fun w1 w2 h4 => L_X12_layOne_5 E K (rr w 163) (nI s) (nI y) g w1 w2 h4) (by rw [hT2]; exact q1) hs hi (by decide) ⟨fun z => absurd z c1, fun z => absurd z (by decide)⟩
          refine ⟨(I2, L2), ⟨f2, fun k hk => (g1 k hk).trans (z2 k hk), f3 p, fun m q hq => ?_⟩, ?_⟩
          · rw [hT2] at g2
            show bm (L2 140) m q ↔ _
            rw [g2 m q hq, z4 m q hq, newS_yes p' hsd (by decide), or_assoc]
          · show L_X12_layOne_5 E K (rr w 163) (nI s) (nI y) (g + 1) (nI (cntP P i)) (nI i) (Hw E w I1 L1 Q) = _
            rw [step, zn_t p, if_pos c0, if_neg c1, cntP_t p]; exact g3
    · refine ⟨(I1, L1), ⟨z1, z2, fun a ha pa => ?_, fun m q hq => ?_⟩, ?_⟩
      · by_cases e : a = i
        · subst e; exact absurd pa p
        · exact z3 a (by omega) pa
      · rw [newS_no (Or.inl (fun z => p ((hPa i).mp z)))]; exact z4 m q hq
      · show L_X12_layOne_5 E K (rr w 163) (nI s) (nI y) (g + 1) (nI (cntP P i)) (nI i) (Hw E w I1 L1 Q) = _
        rw [step, zn_f p, cntP_f p]
  · rintro g ⟨I1, L1⟩ ⟨z1, z2, z3, z4⟩
    have hT : I1 137 = I 137 := z1 137 (by decide)
    have e1' : I1 137 1 = nI (c 1) := by rw [hT]; exact e1
    show L_X12_layOne_5 E K (rr w 163) (nI s) (nI y) (g + 1) (nI (cntP P (2 * c 1))) (nI (2 * c 1)) (Hw E w I1 L1 Q) = _
    rw [L_X12_layOne_5]
    simp (disch := omega) only [Option.bind_some, Option.map_some, Option.join, cI_r, cL_r, cV_r, xI_r, xL_r, xV_r, xI_t, xL_t, xV_t, lt_r, rtZ_0, rtZ_1, rtZ_zb, m2, m3, m4, m5, m6, m7, m8, m9, m10, m11, m12, m13, m14, m15, m16, m17, m18, m19, m20, m21, m22, m23, m24, m25, m26, m27, m28, m29, m30, m31, m32, m40, m41, m60, m63, m64, m90, m99, m100, m120, m127, m164, m173, m200, m240, m255, m450, m480, m650, m722, m762, m960, m1000000, m2838, m2988, m4095, pk_mul, nI_add, nI_1, nI_leI, nI_ltI, nI_eq, ix_n, gf163_0, ga137, show ix 1 2988 = some 1 from rfl, e1', if_pos]
def lsT (T : Ro) (s a b : Nat) : Prop := dts T s b * szs T a ≤ dts T s a * szs T b
theorem m_lay146 {s n i : Nat} {e : Nat → Nat} {K : Int32 → Hp → Rs} (hG : 100000 ≤ E.2.2.1) (q1 : WfT (I 137) c) (hs : s < 4 * c 1) (hn : n ≤ 120) (hi : i < n) (he : ∀ j, j < n → e j < 2 * c 1 ∧ I 143 j = nI (e j)) : L_X12_layOne_146 E K (rr w 163) (nI s) (nI n) (nI i) E.2.2.1 1 0 (Hw E w I L Q) = K (zb (∀ j, j < n → lsT (I 137) s (e i) (e j))) (Hw E w I L Q) := by
  refine lpE (σ := Int32) (Lp := fun g k t => L_X12_layOne_146 E K (rr w 163) (nI s) (nI n) (nI i) g t (nI k) (Hw E w I L Q)) (Iv := fun k t => t = zb (∀ j, j < k → lsT (I 137) s (e i) (e j))) (Post := fun r => r = _) (N := n) ?_ ?_ E.2.2.1 0 1 (by omega) (by omega) (zb_t (fun j hj => absurd hj (by omega))).symm
  · intro g k t hk et
    subst et
    by_cases p : ∀ j, j < k → lsT (I 137) s (e i) (e j)
    · left
      refine ⟨zb (∀ j, j < k + 1 → lsT (I 137) s (e i) (e j)), rfl, ?_⟩
      show L_X12_layOne_146 E K (rr w 163) (nI s) (nI n) (nI i) (g + 1) (zb _) (nI k) (Hw E w I L Q) = _
      rw [L_X12_layOne_146]
      simp (disch := omega) only [Option.bind_some, Option.map_some, Option.join, cI_r, cL_r, cV_r, xI_r, xL_r, xV_r, xI_t, xL_t, xV_t, lt_r, rtZ_0, rtZ_1, rtZ_zb, m2, m3, m4, m5, m6, m7, m8, m9, m10, m11, m12, m13, m14, m15, m16, m17, m18, m19, m20, m21, m22, m23, m24, m25, m26, m27, m28, m29, m30, m31, m32, m40, m41, m60, m63, m64, m90, m99, m100, m120, m127, m164, m173, m200, m240, m255, m450, m480, m650, m722, m762, m960, m1000000, m2838, m2988, m4095, pk_mul, nI_add, nI_1, nI_leI, nI_ltI, nI_eq, ix_n, if_neg, zi_t p, gf163_8, ga143, (he k hk).2, (he i hi).2, o163, f_less q1 hs (he k hk).1 (he i hi).1]
      by_cases p2 : lsT (I 137) s (e i) (e k)
      · rw [zn_f (show ¬ ¬ (dts (I 137) s (e k) * szs (I 137) (e i) ≤ dts (I 137) s (e i) * szs (I 137) (e k)) from not_not_intro p2), zb_t (fun j hj => by
          by_cases ej : j = k
          · subst ej; exact p2
          · exact p j (by omega))]
      · rw [zn_t (show ¬ (dts (I 137) s (e k) * szs (I 137) (e i) ≤ dts (I 137) s (e i) * szs (I 137) (e k)) from p2), zb_f (fun z => p2 (z k (by omega)))]
    · right
      show L_X12_layOne_146 E K (rr w 163) (nI s) (nI n) (nI i) (g + 1) (zb _) (nI k) (Hw E w I L Q) = _
      rw [L_X12_layOne_146]
      simp (disch := omega) only [Option.bind_some, Option.map_some, Option.join, cI_r, cL_r, cV_r, xI_r, xL_r, xV_r, xI_t, xL_t, xV_t, lt_r, rtZ_0, rtZ_1, rtZ_zb, m2, m3, m4, m5, m6, m7, m8, m9, m10, m11, m12, m13, m14, m15, m16, m17, m18, m19, m20, m21, m22, m23, m24, m25, m26, m27, m28, m29, m30, m31, m32, m40, m41, m60, m63, m64, m90, m99, m100, m120, m127, m164, m173, m200, m240, m255, m450, m480, m650, m722, m762, m960, m1000000, m2838, m2988, m4095, pk_mul, nI_add, nI_1, nI_leI, nI_ltI, nI_eq, ix_n, if_neg]
      rw [zi_f p, zb_f p, zb_f (fun z => p (fun j hj => z j (by omega)))]
  · intro g t et
    subst et
    show L_X12_layOne_146 E K (rr w 163) (nI s) (nI n) (nI i) (g + 1) _ (nI n) (Hw E w I L Q) = _
    rw [L_X12_layOne_146]
    simp (disch := omega) only [m2, m3, m4, m5, m6, m7, m8, m9, m10, m11, m12, m13, m14, m15, m16, m17, m18, m19, m20, m21, m22, m23, m24, m25, m26, m27, m28, m29, m30, m31, m32, m40, m41, m60, m63, m64, m90, m99, m100, m120, m127, m164, m173, m200, m240, m255, m450, m480, m650, m722, m762, m960, m1000000, m2838, m2988, m4095, pk_mul, nI_add, nI_1, nI_leI, nI_ltI, nI_eq, ix_n, if_pos]
theorem m_lay134 {s n : Nat} {e : Nat → Nat} (hG : 100000 ≤ E.2.2.1) (q1 : WfT (I 137) c) (hs : s < 4 * c 1) (hn : n ≤ 120) (he : ∀ j, j < n → e j < 2 * c 1 ∧ I 143 j = nI (e j)) : ∃ L', (∀ k, k ≠ 140 → L' k = L k) ∧ (∀ m q, q < 256 → (bm (L' 140) m q ↔ bm (L 140) m q ∨ (m = s ∧ ∃ i, i < n ∧ q = 2 * e i ∧ ∀ j, j < n → lsT (I 137) s (e i) (e j)))) ∧ L_X12_layOne_134 E (rr w 163) (nI s) (nI n) E.2.2.1 0 (Hw E w I L Q) = rtV (Hw E w I L' Q) := by
  have k1 : c 1 ≤ 60 := (q1.1 1 (by decide)).2
  refine lpK2 (σ := Nat → Nat → Int64) (Lp := fun g i t => L_X12_layOne_134 E (rr w 163) (nI s) (nI n) g (nI i) (Hw E w I t Q)) (K := fun t => rtV (Hw E w I t Q)) (Iv := fun k t => (∀ k, k ≠ 140 → t k = L k) ∧ (∀ m q, q < 256 → (bm (t 140) m q ↔ bm (L 140) m q ∨ (m = s ∧ ∃ i, i < k ∧ q = 2 * e i ∧ ∀ j, j < n → lsT (I 137) s (e i) (e j))))) (N := n) (g := E.2.2.1) (i := 0) (s := L) ?_ ?_ ?_ (by omega) (by omega) ⟨fun _ _ => rfl, fun m q hq => ⟨Or.inl, fun h => h.elim id (fun ⟨_, a, ha, _⟩ => absurd ha (by omega))⟩⟩
  · rintro L' ⟨z2, z4⟩ ee
    exact ⟨L', z2, z4, ee⟩
  · intro g i L1 hi ⟨z2, z4⟩
    have step : L_X12_layOne_134 E (rr w 163) (nI s) (nI n) (g + 1) (nI i) (Hw E w I L1 Q) = if zb (∀ j, j < n → lsT (I 137) s (e i) (e j)) = 0 then L_X12_layOne_134 E (rr w 163) (nI s) (nI n) g (nI (i + 1)) (Hw E w I L1 Q) else L_X12_layOne_134 E (rr w 163) (nI s) (nI n) g (nI (i + 1)) (Hw E w I (pt L1 140 (4 * s) (2 * e i)) Q) := by
      have h1 := (he i hi).1
      rw [L_X12_layOne_134]
      simp (disch := omega) only [Option.bind_some, Option.map_some, Option.join, cI_r, cL_r, cV_r, xI_r, xL_r, xV_r, xI_t, xL_t, xV_t, lt_r, rtZ_0, rtZ_1, rtZ_zb, m2, m3, m4, m5, m6, m7, m8, m9, m10, m11, m12, m13, m14, m15, m16, m17, m18, m19, m20, m21, m22, m23, m24, m25, m26, m27, m28, m29, m30, m31, m32, m40, m41, m60, m63, m64, m90, m99, m100, m120, m127, m164, m173, m200, m240, m255, m450, m480, m650, m722, m762, m960, m1000000, m2838, m2988, m4095, pk_mul, nI_add, nI_1, nI_leI, nI_ltI, nI_eq, ix_n, if_neg]
      rw [m_lay146 hG q1 hs hn hi he]
      unfold J_X12_layOne_192
      simp (disch := omega) only [Option.bind_some, Option.map_some, Option.join, cI_r, cL_r, cV_r, xI_r, xL_r, xV_r, xI_t, xL_t, xV_t, lt_r, rtZ_0, rtZ_1, rtZ_zb, m2, m3, m4, m5, m6, m7, m8, m9, m10, m11, m12, m13, m14, m15, m16, m17, m18, m19, m20, m21, m22, m23, m24, m25, m26, m27, m28, m29, m30, m31, m32, m40, m41, m60, m63, m64, m90, m99, m100, m120, m127, m164, m173, m200, m240, m255, m450, m480, m650, m722, m762, m960, m1000000, m2838, m2988, m4095, pk_mul, nI_add, nI_1, nI_leI, nI_ltI, nI_eq, ix_n, gf163_5, gf163_8, ga143, (he i hi).2, Int32.zero_add, f_put la140]
    by_cases p : ∀ j, j < n → lsT (I 137) s (e i) (e j)
    · refine ⟨pt L1 140 (4 * s) (2 * e i), ⟨fun k hk => (pt_row hk).trans (z2 k hk), fun m q hq => ?_⟩, ?_⟩
      · have h1 := (he i hi).1
        rw [pt_m (by omega) hq, z4 m q hq]
        constructor
        · rintro (⟨h1, h2⟩ | h | ⟨h1, j, h2, h3⟩)
          · exact Or.inr ⟨h1, i, by omega, h2, p⟩
          · exact Or.inl h
          · exact Or.inr ⟨h1, j, by omega, h3⟩
        · rintro (h | ⟨h0, j, h2, h3⟩)
          · exact Or.inr (Or.inl h)
          · by_cases ej : j = i
            · subst ej; exact Or.inl ⟨h0, h3.1⟩
            · exact Or.inr (Or.inr ⟨h0, j, by omega, h3⟩)
      · show L_X12_layOne_134 E (rr w 163) (nI s) (nI n) (g + 1) (nI i) (Hw E w I L1 Q) = _
        rw [step, zi_t p]
    · refine ⟨L1, ⟨z2, fun m q hq => ?_⟩, ?_⟩
      · rw [z4 m q hq]
        constructor
        · rintro (h | ⟨h1, j, h2, h3⟩)
          · exact Or.inl h
          · exact Or.inr ⟨h1, j, by omega, h3⟩
        · rintro (h | ⟨h1, j, h2, h3⟩)
          · exact Or.inl h
          · by_cases ej : j = i
            · subst ej; exact absurd h3.2 p
            · exact Or.inr ⟨h1, j, by omega, h3⟩
      · show L_X12_layOne_134 E (rr w 163) (nI s) (nI n) (g + 1) (nI i) (Hw E w I L1 Q) = _
        rw [step, zi_f p]
  · intro g L1 _
    show L_X12_layOne_134 E (rr w 163) (nI s) (nI n) (g + 1) (nI n) (Hw E w I L1 Q) = _
    rw [L_X12_layOne_134]
    simp (disch := omega) only [m2, m3, m4, m5, m6, m7, m8, m9, m10, m11, m12, m13, m14, m15, m16, m17, m18, m19, m20, m21, m22, m23, m24, m25, m26, m27, m28, m29, m30, m31, m32, m40, m41, m60, m63, m64, m90, m99, m100, m120, m127, m164, m173, m200, m240, m255, m450, m480, m650, m722, m762, m960, m1000000, m2838, m2988, m4095, pk_mul, nI_add, nI_1, nI_leI, nI_ltI, nI_eq, ix_n, if_pos]
/-- the reference's map, laid for the first n states -/
def LaidTo (G : Nat → Int64) (T : Ro) (c : Nat → Nat) (y n : Nat) : Prop := ∀ s, s < 240 → ∀ q, q < 256 → (bm G s q ↔ q % 2 = 0 ∧ s < n ∧ isOn T c (thr0 T c y) s (q / 2)) ∧ ∀ sd, sd < 2 → (bm G (240 * (1 + sd) + s) q ↔ q % 2 = 0 ∧ s < n ∧ isOt T c (thr0 T c y) s (q / 2) ∧ sid T s (q / 2) = sd) ∧ (bm G (240 * (3 + sd) + s) q ↔ q % 2 = 0 ∧ s < n ∧ isOt T c (thr0 T c y) s (q / 2) ∧ sid T s (q / 2) = sd ∧ ¬ isPt T (q / 2))
theorem LaidTo_ok {G : Nat → Int64} {T : Ro} {y : Nat} (h : LaidTo G T c y (4 * c 1)) : LaidOk G T c y := by
  intro s hs q hq
  have z := h s hs q hq
  refine ⟨z.1, fun sd hsd => ?_⟩
  have z2 := z.2 sd hsd
  have e1 : 960 * (1 + sd) + 4 * s = 4 * (240 * (1 + sd) + s) := by omega
  have e2 : 960 * (3 + sd) + 4 * s = 4 * (240 * (3 + sd) + s) := by omega
  rw [e1, e2, show q / 4 = q / 2 / 2 by omega]
  exact z2
theorem m_layOne {s y : Nat} (hG : 100000 ≤ E.2.2.1) (q1 : WfT (I 137) c) (hs : s < 4 * c 1) (hl : LaidTo (L 140) (I 137) c y s) : ∃ I' L', (∀ k, k ≠ 143 → I' k = I k) ∧ (∀ k, k ≠ 140 → L' k = L k) ∧ LaidTo (L' 140) (I 137) c y (s + 1) ∧ F_X12_layOne E (rr w 163) (nI s) (nI y) (Hw E w I L Q) = rtV (Hw E w I' L' Q) := by
  have k1 : c 1 ≤ 60 := (q1.1 1 (by decide)).2
  unfold F_X12_layOne
  obtain ⟨I1, L1, a1, a2, a3, a4, a5⟩ := m_lay5 (E := E) (w := w) (I := I) (L := L) (Q := Q) (y := y) (K := fun w1 h4 => L_X12_layOne_134 E (rr w 163) (nI s) w1 E.2.2.1 (0 : Int32) h4) hG q1 hs
  rw [a5]
  have hT : I1 137 = I 137 := a1 137 (by decide)
  generalize hP : isOt (I 137) c (thr0 (I 137) c y) s = P at *
  have hn : cntP P (2 * c 1) ≤ 120 := Nat.le_trans (cntP_le _) (by omega)
  have hx : ∀ j, ∃ a, j < cntP P (2 * c 1) → a < 2 * c 1 ∧ P a ∧ cntP P a = j := fun j => by
    by_cases h : j < cntP P (2 * c 1)
    · obtain ⟨a, h1, h2, h3⟩ := cnt_sur h; exact ⟨a, fun _ => ⟨h1, h2, h3⟩⟩
    · exact ⟨0, fun z => absurd z h⟩
  have ⟨e, he⟩ := Classical.axiomOfChoice hx
  have he2 : ∀ j, j < cntP P (2 * c 1) → e j < 2 * c 1 ∧ I1 143 j = nI (e j) := fun j hj => by
    have z := he j hj
    have z2 := a3 (e j) z.1 z.2.1
    rw [z.2.2] at z2
    exact ⟨z.1, z2⟩
  have sur : ∀ a, P a → ∃ j, j < cntP P (2 * c 1) ∧ e j = a := fun a pa => by
    have ha : a < 2 * c 1 := by rw [← hP] at pa; exact pa.1
    have hj := cnt_lt pa ha
    have z := he _ hj
    exact ⟨_, hj, cnt_inj z.2.1 pa z.2.2⟩
  obtain ⟨L2, b1, b2, b3⟩ := m_lay134 (E := E) (w := w) (I := I1) (L := L1) (Q := Q) (s := s) (e := e) hG (by rw [hT]; exact q1) hs hn he2
  rw [hT] at b2
  refine ⟨I1, L2, a1, fun k hk => (b1 k hk).trans (a2 k hk), ?_, b3⟩
  have on1 : ∀ q, (∃ i, i < cntP P (2 * c 1) ∧ q = 2 * e i ∧ ∀ j, j < cntP P (2 * c 1) → lsT (I 137) s (e i) (e j)) ↔ (q % 2 = 0 ∧ isOn (I 137) c (thr0 (I 137) c y) s (q / 2)) := by
    intro q
    unfold isOn
    rw [hP]
    constructor
    · rintro ⟨i, h1, h2, h3⟩
      have z := he i h1
      refine ⟨by omega, by rw [show q / 2 = e i by omega]; exact z.2.1, fun o ho => ?_⟩
      obtain ⟨j, hj, ej⟩ := sur o ho
      have := h3 j hj
      rw [ej, show e i = q / 2 by omega] at this
      exact this
    · rintro ⟨h1, h2, h3⟩
      obtain ⟨i, hi, ei⟩ := sur _ h2
      refine ⟨i, hi, by omega, fun j hj => ?_⟩
      rw [ei]
      exact h3 (e j) (he j hj).2.1
  intro s' hs' q hq
  have l0 := hl s' hs' q hq
  refine ⟨?_, fun sd hsd => ⟨?_, ?_⟩⟩
  · rw [b2 _ q hq, a4 _ q hq, l0.1]
    have nn : ¬ newS (I 137) c y s (2 * c 1) s' q := fun ⟨a, h1, h2, h3, sd, h4, h5, h6⟩ => by omega
    constructor
    · rintro ((h | h) | ⟨h1, h2⟩)
      · exact ⟨h.1, by omega, h.2.2⟩
      · exact absurd h nn
      · have z := (on1 q).mp h2
        rw [h1]; exact ⟨z.1, by omega, z.2⟩
    · rintro ⟨h1, h2, h3⟩
      by_cases es : s' = s
      · subst es; exact Or.inr ⟨rfl, (on1 q).mpr ⟨h1, h3⟩⟩
      · exact Or.inl (Or.inl ⟨h1, by omega, h3⟩)
  · rw [b2 _ q hq, a4 _ q hq, (l0.2 sd hsd).1]
    constructor
    · rintro ((h | ⟨a, h1, h2, h3, sd', h4, h5, h6⟩) | ⟨h1, h2⟩)
      · exact ⟨h.1, by omega, h.2.2⟩
      · have h7 : s' = s ∧ sd' = sd := by omega
        rw [h7.1, show q / 2 = a by omega]
        exact ⟨by omega, by omega, h2, by rw [h5, h7.2]⟩
      · omega
    · rintro ⟨h1, h2, h3, h4⟩
      by_cases es : s' = s
      · subst es
        have : q / 2 < 2 * c 1 := h3.1
        exact Or.inl (Or.inr ⟨q / 2, this, h3, by omega, sd, hsd, h4, Or.inl rfl⟩)
      · exact Or.inl (Or.inl ⟨h1, by omega, h3, h4⟩)
  · rw [b2 _ q hq, a4 _ q hq, (l0.2 sd hsd).2]
    constructor
    · rintro ((h | ⟨a, h1, h2, h3, sd', h4, h5, h6⟩) | ⟨h1, h2⟩)
      · exact ⟨h.1, by omega, h.2.2⟩
      · have h7 : s' = s ∧ sd' = sd := by omega
        rw [h7.1, show q / 2 = a by omega]
        refine ⟨by omega, by omega, h2, by rw [h5, h7.2], ?_⟩
        rcases h6 with h6 | h6
        · omega
        · exact h6.2
      · omega
    · rintro ⟨h1, h2, h3, h4, h5⟩
      by_cases es : s' = s
      · subst es
        have : q / 2 < 2 * c 1 := h3.1
        exact Or.inl (Or.inr ⟨q / 2, this, h3, by omega, sd, hsd, h4, Or.inr ⟨rfl, h5⟩⟩)
      · exact Or.inl (Or.inl ⟨h1, by omega, h3, h4, h5⟩)
theorem m_lay16 {K : Hp → Rs} (hG : 100000 ≤ E.2.2.1) : L_X12_lay_16 E K (rr w 163) E.2.2.1 0 (Hw E w I L Q) = K (Hw E w I (rs L 140 0 4800 (fun _ => 0)) Q) := by
  refine lpI (σ := Nat → Nat → Int64) (Lp := fun g i s => L_X12_lay_16 E K (rr w 163) g (nI i) (Hw E w I s Q)) (Inv := fun i s => s = rs L 140 0 i (fun _ => 0)) (N := 4800) ?_ ?_ E.2.2.1 0 L (by omega) (by omega) (rs_0 L 140 0 _).symm
  · intro g i s hi es
    subst es
    refine ⟨_, rfl, ?_⟩
    have := rs_s L 140 0 i (fun _ => 0)
    rw [Nat.zero_add] at this
    show L_X12_lay_16 E K (rr w 163) (g + 1) (nI i) _ = _
    rw [L_X12_lay_16]
    simp (disch := omega) only [Option.bind_some, Option.map_some, Option.join, cI_r, cL_r, cV_r, xI_r, xL_r, xV_r, xI_t, xL_t, xV_t, lt_r, rtZ_0, rtZ_1, rtZ_zb, m2, m3, m4, m5, m6, m7, m8, m9, m10, m11, m12, m13, m14, m15, m16, m17, m18, m19, m20, m21, m22, m23, m24, m25, m26, m27, m28, m29, m30, m31, m32, m40, m41, m60, m63, m64, m90, m99, m100, m120, m127, m164, m173, m200, m240, m255, m450, m480, m650, m722, m762, m960, m1000000, m2838, m2988, m4095, pk_mul, nI_add, nI_1, nI_leI, nI_ltI, nI_eq, ix_n, gf163_5, an140, show Int32.ofNat 4800 = nI 4800 from rfl, if_neg, pa140, this]
  · intro g s es
    subst es
    show L_X12_lay_16 E K (rr w 163) (g + 1) (nI 4800) _ = _
    rw [L_X12_lay_16]
    simp (disch := omega) only [Option.bind_some, Option.map_some, Option.join, cI_r, cL_r, cV_r, xI_r, xL_r, xV_r, xI_t, xL_t, xV_t, lt_r, rtZ_0, rtZ_1, rtZ_zb, m2, m3, m4, m5, m6, m7, m8, m9, m10, m11, m12, m13, m14, m15, m16, m17, m18, m19, m20, m21, m22, m23, m24, m25, m26, m27, m28, m29, m30, m31, m32, m40, m41, m60, m63, m64, m90, m99, m100, m120, m127, m164, m173, m200, m240, m255, m450, m480, m650, m722, m762, m960, m1000000, m2838, m2988, m4095, pk_mul, nI_add, nI_1, nI_leI, nI_ltI, nI_eq, ix_n, gf163_5, an140, show Int32.ofNat 4800 = nI 4800 from rfl, if_pos]
theorem m_lay40 {K : Hp → Rs} (hG : 100000 ≤ E.2.2.1) : L_X12_lay_40 E K (rr w 163) E.2.2.1 0 (Hw E w I L Q) = K (Hw E w (rs I 142 0 96 (fun _ => 0)) L Q) := by
  refine lpI (σ := Nat → Nat → Int32) (Lp := fun g i s => L_X12_lay_40 E K (rr w 163) g (nI i) (Hw E w s L Q)) (Inv := fun i s => s = rs I 142 0 i (fun _ => 0)) (N := 96) ?_ ?_ E.2.2.1 0 I (by omega) (by omega) (rs_0 I 142 0 _).symm
  · intro g i s hi es
    subst es
    refine ⟨_, rfl, ?_⟩
    have := rs_s I 142 0 i (fun _ => 0)
    rw [Nat.zero_add] at this
    show L_X12_lay_40 E K (rr w 163) (g + 1) (nI i) _ = _
    rw [L_X12_lay_40]
    simp (disch := omega) only [Option.bind_some, Option.map_some, Option.join, cI_r, cL_r, cV_r, xI_r, xL_r, xV_r, xI_t, xL_t, xV_t, lt_r, rtZ_0, rtZ_1, rtZ_zb, m2, m3, m4, m5, m6, m7, m8, m9, m10, m11, m12, m13, m14, m15, m16, m17, m18, m19, m20, m21, m22, m23, m24, m25, m26, m27, m28, m29, m30, m31, m32, m40, m41, m60, m63, m64, m90, m99, m100, m120, m127, m164, m173, m200, m240, m255, m450, m480, m650, m722, m762, m960, m1000000, m2838, m2988, m4095, pk_mul, nI_add, nI_1, nI_leI, nI_ltI, nI_eq, ix_n, gf163_7, an142, show Int32.ofNat 96 = nI 96 from rfl, if_neg, pa142, show vp_nar .boolean (0 : Int32) = 0 from rfl, this]
  · intro g s es
    subst es
    show L_X12_lay_40 E K (rr w 163) (g + 1) (nI 96) _ = _
    rw [L_X12_lay_40]
    simp (disch := omega) only [Option.bind_some, Option.map_some, Option.join, cI_r, cL_r, cV_r, xI_r, xL_r, xV_r, xI_t, xL_t, xV_t, lt_r, rtZ_0, rtZ_1, rtZ_zb, m2, m3, m4, m5, m6, m7, m8, m9, m10, m11, m12, m13, m14, m15, m16, m17, m18, m19, m20, m21, m22, m23, m24, m25, m26, m27, m28, m29, m30, m31, m32, m40, m41, m60, m63, m64, m90, m99, m100, m120, m127, m164, m173, m200, m240, m255, m450, m480, m650, m722, m762, m960, m1000000, m2838, m2988, m4095, pk_mul, nI_add, nI_1, nI_leI, nI_ltI, nI_eq, ix_n, gf163_7, an142, show Int32.ofNat 96 = nI 96 from rfl, if_pos]
theorem m_lay64 {y : Nat} (hG : 100000 ≤ E.2.2.1) (q1 : WfT (I 137) c) (hl : LaidTo (L 140) (I 137) c y 0) : ∃ I' L', (∀ k, k ≠ 143 → I' k = I k) ∧ (∀ k, k ≠ 140 → L' k = L k) ∧ LaidTo (L' 140) (I 137) c y (4 * c 1) ∧ L_X12_lay_64 E (rr w 163) (nI y) E.2.2.1 0 (Hw E w I L Q) = rtV (Hw E w I' L' Q) := by
  have k1 : c 1 ≤ 60 := (q1.1 1 (by decide)).2
  have e1 := (q1.1 1 (by decide)).1
  refine lpK2 (σ := (Nat → Nat → Int32) × (Nat → Nat → Int64)) (Lp := fun g i t => L_X12_lay_64 E (rr w 163) (nI y) g (nI i) (Hw E w t.1 t.2 Q)) (K := fun t => rtV (Hw E w t.1 t.2 Q)) (Iv := fun i t => (∀ k, k ≠ 143 → t.1 k = I k) ∧ (∀ k, k ≠ 140 → t.2 k = L k) ∧ LaidTo (t.2 140) (I 137) c y i) (N := 4 * c 1) (g := E.2.2.1) (i := 0) (s := (I, L)) ?_ ?_ ?_ (by omega) (by omega) ⟨fun _ _ => rfl, fun _ _ => rfl, hl⟩
  · rintro ⟨I', L'⟩ ⟨z1, z2, z3⟩ ee
    exact ⟨I', L', z1, z2, z3, ee⟩
  · rintro g i ⟨I1, L1⟩ hi ⟨z1, z2, z3⟩
    have hT : I1 137 = I 137 := z1 137 (by decide)
    have e1' : I1 137 1 = nI (c 1) := by rw [hT]; exact e1
    obtain ⟨I2, L2, a1, a2, a3, a4⟩ := m_layOne (E := E) (w := w) (I := I1) (L := L1) (Q := Q) (s := i) (y := y) hG (by rw [hT]; exact q1) hi (by rw [hT]; exact z3)
    rw [hT] at a3
    refine ⟨(I2, L2), ⟨fun k hk => (a1 k hk).trans (z1 k hk), fun k hk => (a2 k hk).trans (z2 k hk), a3⟩, ?_⟩
    show L_X12_lay_64 E (rr w 163) (nI y) (g + 1) (nI i) (Hw E w I1 L1 Q) = _
    rw [L_X12_lay_64]
    simp (disch := omega) only [Option.bind_some, Option.map_some, Option.join, cI_r, cL_r, cV_r, xI_r, xL_r, xV_r, xI_t, xL_t, xV_t, lt_r, rtZ_0, rtZ_1, rtZ_zb, m2, m3, m4, m5, m6, m7, m8, m9, m10, m11, m12, m13, m14, m15, m16, m17, m18, m19, m20, m21, m22, m23, m24, m25, m26, m27, m28, m29, m30, m31, m32, m40, m41, m60, m63, m64, m90, m99, m100, m120, m127, m164, m173, m200, m240, m255, m450, m480, m650, m722, m762, m960, m1000000, m2838, m2988, m4095, pk_mul, nI_add, nI_1, nI_leI, nI_ltI, nI_eq, ix_n, gf163_0, ga137, show ix 1 2988 = some 1 from rfl, e1', if_neg, o163, a4]
  · rintro g ⟨I1, L1⟩ ⟨z1, z2, z3⟩
    have hT : I1 137 = I 137 := z1 137 (by decide)
    have e1' : I1 137 1 = nI (c 1) := by rw [hT]; exact e1
    show L_X12_lay_64 E (rr w 163) (nI y) (g + 1) (nI (4 * c 1)) (Hw E w I1 L1 Q) = _
    rw [L_X12_lay_64]
    simp (disch := omega) only [Option.bind_some, Option.map_some, Option.join, cI_r, cL_r, cV_r, xI_r, xL_r, xV_r, xI_t, xL_t, xV_t, lt_r, rtZ_0, rtZ_1, rtZ_zb, m2, m3, m4, m5, m6, m7, m8, m9, m10, m11, m12, m13, m14, m15, m16, m17, m18, m19, m20, m21, m22, m23, m24, m25, m26, m27, m28, m29, m30, m31, m32, m40, m41, m60, m63, m64, m90, m99, m100, m120, m127, m164, m173, m200, m240, m255, m450, m480, m650, m722, m762, m960, m1000000, m2838, m2988, m4095, pk_mul, nI_add, nI_1, nI_leI, nI_ltI, nI_eq, ix_n, gf163_0, ga137, show ix 1 2988 = some 1 from rfl, e1', if_pos]
/-- the reference is laid for a year -/
def Laid (I : Nat → Ro) (L : Nat → Nat → Int64) (T : Ro) (c : Nat → Nat) (y : Nat) : Prop := I 163 4 = nI y ∧ LaidOk (L 140) T c y ∧ StdOk I L T c y
theorem m_lay {y : Nat} (hG : 100000 ≤ E.2.2.1) (q1 : WfT (I 137) c) (hr : RefR I L (I 137) c) (hy : y ≤ 200) : ∃ I' L', (∀ k, k ≠ 142 → k ≠ 143 → k ≠ 163 → I' k = I k) ∧ (∀ i, i ≠ 4 → I' 163 i = I 163 i) ∧ (∀ k, k ≠ 140 → L' k = L k) ∧ Laid I' L' (I 137) c y ∧ F_X12_lay E (rr w 163) (nI y) (Hw E w I L Q) = rtV (Hw E w I' L' Q) := by
  unfold F_X12_lay
  by_cases p : I 163 4 = nI y
  · refine ⟨I, L, fun _ _ _ _ => rfl, fun _ _ => rfl, fun _ _ => rfl, ?_, ?_⟩
    · rcases hr with h | ⟨y', h1, h2, h3⟩
      · exact absurd (p.symm.trans h) (m1_ne (by omega))
      · have : y' = y := (nI_eq (by omega) (by omega)).mp (h2.symm.trans p)
        subst this; exact ⟨p, h3⟩
    · simp only [Option.bind_some, Option.map_some, Option.join, cI_r, cL_r, cV_r, xI_r, xL_r, xV_r, xI_t, xL_t, xV_t, lt_r, rtZ_0, rtZ_1, rtZ_zb, gf163_4, p, not_true_eq_false, if_false]
  · generalize eJ : rs (up2 I 163 4 (nI y)) 142 0 96 (fun _ => 0) = J
    have hT : J 137 = I 137 := by rw [← eJ, rs_row _ _ (by decide), up2_row _ _ (by decide)]
    have z0 : LaidTo (rs L 140 0 4800 (fun _ => 0) 140) (J 137) c y 0 := by
      have zz : ∀ m q, m < 1200 → q < 256 → ¬ bm (rs L 140 0 4800 (fun _ => 0) 140) m q := by
        intro m q hm hq
        unfold bm b256
        rw [rs_in _ _ (by omega) (by omega)]
        exact b64_0
      intro s hs q hq
      exact ⟨⟨fun h => absurd h (zz _ _ (by omega) hq), fun h => absurd h.2.1 (by omega)⟩, fun sd hsd => ⟨⟨fun h => absurd h (zz _ _ (by omega) hq), fun h => absurd h.2.1 (by omega)⟩, ⟨fun h => absurd h (zz _ _ (by omega) hq), fun h => absurd h.2.1 (by omega)⟩⟩⟩
    obtain ⟨I', L', a1, a2, a3, a4⟩ := m_lay64 (E := E) (w := w) (I := J) (L := rs L 140 0 4800 (fun _ => 0)) (Q := Q) (y := y) hG (by rw [hT]; exact q1) z0
    rw [hT] at a3
    have hJ : ∀ k, k ≠ 142 → k ≠ 163 → J k = I k := fun k h1 h2 => by rw [← eJ, rs_row _ _ h1, up2_row _ _ h2]
    have hJ4 : J 163 4 = nI y := by rw [← eJ, rs_row _ _ (by decide), up2_s]
    have hJi : ∀ i, i ≠ 4 → J 163 i = I 163 i := fun i hi => by rw [← eJ, rs_row _ _ (by decide), up2_i _ _ _ hi]
    refine ⟨I', L', fun k h1 h2 h3 => (a1 k h2).trans (hJ k h1 h3), fun i hi => (congrFun (a1 163 (by decide)) i).trans (hJi i hi), fun k hk => by rw [a2 k hk, rs_row _ _ hk], ⟨by rw [a1 163 (by decide)]; exact hJ4, LaidTo_ok a3, fun k hk n hn => Or.inl ?_⟩, ?_⟩
    · rw [a1 142 (by decide), ← eJ, rs_in _ _ (by omega) (by omega)]
    · simp only [Option.bind_some, Option.map_some, Option.join, cI_r, cL_r, cV_r, xI_r, xL_r, xV_r, xI_t, xL_t, xV_t, lt_r, rtZ_0, rtZ_1, rtZ_zb, gf163_4, p, not_false_eq_true, if_true, pf163_4]
      rw [m_lay16 hG, m_lay40 hG, eJ, a4]
end
