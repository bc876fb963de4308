/-! the reference's last places; right, end -/
section
variable {E : Ev} {w : Wo} {I I1 I2 : Nat → Nat → Int32} {L L1 L2 : Nat → Nat → Int64} {Q Q1 Q2 : Nat → Nat → Option Nat} {c : Nat → Nat} {T : Ro} {y : Nat}
theorem f_fell {k : Int32} : F_X12_fell E (rr w 163) k (Hw E w I L Q) = rtI 0 (Hw E w (up2 I 163 3 k) L Q) := by
  unfold F_X12_fell; simp only [Option.bind_some, Option.map_some, Option.join, cI_r, cL_r, cV_r, xI_r, xL_r, xV_r, xI_t, xL_t, xV_t, lt_r, rtZ_0, rtZ_1, rtZ_zb, pf163_3]
def plO (T : Ro) (c : Nat → Nat) (G : Nat → Int64) (n p : Nat) : Prop := ∃ s, s < n ∧ b256 G 0 s ∧ spl T s = nI p
theorem m_places2 {t : Nat} (hG : 100000 ≤ E.2.2.1) (h1 : lvk w t) (h2 : sh t = .inl (2, 40)) : ∃ I', (∀ k, k ≠ t → I' k = I k) ∧ (∀ p, p < 40 → I' t p = 0) ∧ ∀ K, L_X12_placesOf_2 E K (rr w t) E.2.2.1 0 (Hw E w I L Q) = K (Hw E w I' L Q) := by
  refine lpK2 (ρ := (Hp → Rs) → Rs) (σ := Nat → Nat → Int32) (Lp := fun g i s => fun K => L_X12_placesOf_2 E K (rr w t) g (nI i) (Hw E w s L Q)) (K := fun s => fun K => K (Hw E w s L Q)) (Iv := fun i s => (∀ k, k ≠ t → s k = I k) ∧ ∀ p, p < i → s t p = 0) (N := 40) (g := E.2.2.1) (i := 0) (s := I) ?_ ?_ ?_ (by omega) (by omega) ⟨fun _ _ => rfl, fun p hp => absurd hp (by omega)⟩
  · rintro I1 ⟨z1, z2⟩ ee
    exact ⟨I1, z1, z2, fun K => congrFun ee K⟩
  · rintro g i I1 hi ⟨z1, z2⟩
    refine ⟨up2 I1 t i 0, ⟨fun k hk => by rw [up2_row _ _ hk]; exact z1 k hk, fun p hp => ?_⟩, ?_⟩
    · by_cases e : p = i
      · subst e; rw [up2_s]
      · rw [up2_i _ _ _ e]; exact z2 p (by omega)
    · funext K
      show L_X12_placesOf_2 E K (rr w t) (g + 1) (nI i) (Hw E w I1 L Q) = _
      rw [L_X12_placesOf_2]
      simp (disch := omega) only [Option.bind_some, Option.map_some, Option.join, cI_r, cL_r, cV_r, xI_r, xL_r, xV_r, xI_t, xL_t, xV_t, lt_r, rtZ_0, rtZ_1, rtZ_zb, m2, m3, m4, m5, m6, m7, m8, m9, m10, m11, m12, m13, m14, m15, m16, m17, m18, m19, m20, m21, m22, m23, m24, m25, m26, m27, m28, m29, m30, m31, m32, m40, m41, m60, m63, m64, m90, m99, m100, m120, m127, m164, m173, m200, m240, m255, m450, m480, m650, m722, m762, m960, m1000000, m2838, m2988, m4095, pk_mul, nI_add, nI_1, nI_leI, nI_ltI, nI_eq, ix_n, if_neg, paZ_w h1 h2, vn01 (Or.inl rfl)]
  · rintro g I1 _
    funext K
    show L_X12_placesOf_2 E K (rr w t) (g + 1) (nI 40) (Hw E w I1 L Q) = _
    rw [L_X12_placesOf_2]
    simp (disch := omega) only [m2, m3, m4, m5, m6, m7, m8, m9, m10, m11, m12, m13, m14, m15, m16, m17, m18, m19, m20, m21, m22, m23, m24, m25, m26, m27, m28, m29, m30, m31, m32, m40, m41, m60, m63, m64, m90, m99, m100, m120, m127, m164, m173, m200, m240, m255, m450, m480, m650, m722, m762, m960, m1000000, m2838, m2988, m4095, pk_mul, nI_add, nI_1, nI_leI, nI_ltI, nI_eq, ix_n, if_pos]
theorem m_places20 {t : Nat} (hG : 100000 ≤ E.2.2.1) (q1 : WfT (I 137) c) (ht : t ≠ 137) (h1 : lvk w t) (h2 : sh t = .inl (2, 40)) (h0 : ∀ p, p < 40 → I t p = 0) : ∃ I', (∀ k, k ≠ t → I' k = I k) ∧ (∀ p, p < 40 → I' t p = zb (plO (I 137) c (L 151) (4 * c 1) p)) ∧ ∀ K, L_X12_placesOf_20 E K (rr w 163) (rr w t) E.2.2.1 0 (Hw E w I L Q) = K (Hw E w I' L Q) := by
  have k0 : c 0 ≤ 40 := (q1.1 0 (by decide)).2
  have k1 : c 1 ≤ 60 := (q1.1 1 (by decide)).2
  have e1 := (q1.1 1 (by decide)).1
  refine lpK2 (ρ := (Hp → Rs) → Rs) (σ := Nat → Nat → Int32) (Lp := fun g i s => fun K => L_X12_placesOf_20 E K (rr w 163) (rr w t) g (nI i) (Hw E w s L Q)) (K := fun s => fun K => K (Hw E w s L Q)) (Iv := fun i s => (∀ k, k ≠ t → s k = I k) ∧ ∀ p, p < 40 → s t p = zb (plO (I 137) c (L 151) i p)) (N := 4 * c 1) (g := E.2.2.1) (i := 0) (s := I) ?_ ?_ ?_ (by omega) (by omega) ⟨fun _ _ => rfl, fun p hp => by rw [h0 p hp, zb_f (fun ⟨s, z, _⟩ => absurd z (by omega))]⟩
  · rintro I1 ⟨z1, z2⟩ ee
    exact ⟨I1, z1, z2, fun K => congrFun ee K⟩
  · rintro g i I1 hi ⟨z1, z2⟩
    obtain ⟨p0, ep, hp0⟩ := spl_w q1 hi
    have i137 : I1 137 = I 137 := z1 137 (Ne.symm ht)
    have hh := f_has (E := E) (w := w) (I := I1) (L := L) (Q := Q) (k := 151) (n := 4) (a := 0) (s := i) la151 (by decide) (by omega)
    have st : ∀ K, L_X12_placesOf_20 E K (rr w 163) (rr w t) (g + 1) (nI i) (Hw E w I1 L Q) = if zb (b256 (L 151) 0 i) = 0 then L_X12_placesOf_20 E K (rr w 163) (rr w t) g (nI (i + 1)) (Hw E w I1 L Q) else L_X12_placesOf_20 E K (rr w 163) (rr w t) g (nI (i + 1)) (Hw E w (up2 I1 t p0 1) L Q) := fun K => by
      rw [L_X12_placesOf_20]
      simp (disch := omega) only [Option.bind_some, Option.map_some, Option.join, cI_r, cL_r, cV_r, xI_r, xL_r, xV_r, xI_t, xL_t, xV_t, lt_r, rtZ_0, rtZ_1, rtZ_zb, m4, pk_mul, nI_leI, nI_1, if_neg, gf163_0, ga137, show ix 1 2988 = some 1 from rfl, i137, e1, gf163_26, show F_X12_has E (rr w 151) 0 (nI i) (Hw E w I1 L Q) = _ from hh, o163, f_placeOf, ep, paZ_w h1 h2, ix_n, vn01 (Or.inr rfl)]
    by_cases p : b256 (L 151) 0 i
    · refine ⟨up2 I1 t p0 1, ⟨fun k hk => by rw [up2_row _ _ hk]; exact z1 k hk, fun j hj => ?_⟩, by funext K; show L_X12_placesOf_20 E K (rr w 163) (rr w t) (g + 1) (nI i) (Hw E w I1 L Q) = _; rw [st, zi_t p]⟩
      by_cases e : j = p0
      · subst e
        rw [up2_s, zb_t ⟨i, by omega, p, ep⟩]
      · rw [up2_i _ _ _ e, z2 j hj]
        refine zb_c ⟨fun ⟨s, g1, g2⟩ => ⟨s, by omega, g2⟩, fun ⟨s, g1, g2, g3⟩ => ⟨s, ?_, g2, g3⟩⟩
        by_cases e2 : s = i
        · subst e2
          exact absurd ((nI_eq (by omega) (by omega)).mp (by rw [← g3, ep])) e
        · omega
    · refine ⟨I1, ⟨z1, fun j hj => ?_⟩, by funext K; show L_X12_placesOf_20 E K (rr w 163) (rr w t) (g + 1) (nI i) (Hw E w I1 L Q) = _; rw [st, zi_f p]⟩
      rw [z2 j hj]
      refine zb_c ⟨fun ⟨s, g1, g2⟩ => ⟨s, by omega, g2⟩, fun ⟨s, g1, g2, g3⟩ => ⟨s, ?_, g2, g3⟩⟩
      by_cases e2 : s = i
      · subst e2; exact absurd g2 p
      · omega
  · rintro g I1 ⟨z1, _⟩
    have i137 : I1 137 = I 137 := z1 137 (Ne.symm ht)
    funext K
    show L_X12_placesOf_20 E K (rr w 163) (rr w t) (g + 1) (nI (4 * c 1)) (Hw E w I1 L Q) = _
    rw [L_X12_placesOf_20]
    simp (disch := omega) only [Option.bind_some, Option.map_some, Option.join, cI_r, cL_r, cV_r, xI_r, xL_r, xV_r, xI_t, xL_t, xV_t, lt_r, rtZ_0, rtZ_1, rtZ_zb, m4, pk_mul, nI_leI, if_pos, gf163_0, ga137, show ix 1 2988 = some 1 from rfl, i137, e1]
theorem m_placesOf {t : Nat} (hG : 100000 ≤ E.2.2.1) (q1 : WfT (I 137) c) (ht : t ≠ 137) (h1 : lvk w t) (h2 : sh t = .inl (2, 40)) : ∃ I', (∀ k, k ≠ t → I' k = I k) ∧ (∀ p, p < 40 → I' t p = zb (plO (I 137) c (L 151) (4 * c 1) p)) ∧ F_X12_placesOf E (rr w 163) (rr w t) (Hw E w I L Q) = rtI (nI (cntP (plO (I 137) c (L 151) (4 * c 1)) 40)) (Hw E w I' L Q) := by
  obtain ⟨I1, a1, a2, a3⟩ := m_places2 (E := E) (w := w) (I := I) (L := L) (Q := Q) (t := t) hG h1 h2
  have i137 : I1 137 = I 137 := a1 137 (Ne.symm ht)
  obtain ⟨I2, b1, b2, b3⟩ := m_places20 (E := E) (w := w) (I := I1) (L := L) (Q := Q) (t := t) (c := c) hG (by rw [i137]; exact q1) ht h1 h2 a2
  rw [i137] at b2
  refine ⟨I2, fun k hk => (b1 k hk).trans (a1 k hk), b2, ?_⟩
  unfold F_X12_placesOf
  rw [a3, b3]
  generalize plO (I 137) c (L 151) (4 * c 1) = P at *
  refine lpI (σ := Unit) (Lp := fun g i _ => L_X12_placesOf_62 E (rr w t) g (nI (cntP P i)) (nI i) (Hw E w I2 L Q)) (Inv := fun _ _ => True) (N := 40) ?_ ?_ E.2.2.1 0 () (by omega) (by omega) trivial
  · intro g i _ hi _
    refine ⟨(), trivial, ?_⟩
    show L_X12_placesOf_62 E (rr w t) (g + 1) (nI (cntP P i)) (nI i) (Hw E w I2 L Q) = L_X12_placesOf_62 E (rr w t) g (nI (cntP P (i + 1))) (nI (i + 1)) (Hw E w I2 L Q)
    rw [L_X12_placesOf_62]
    simp (disch := omega) only [Option.bind_some, Option.map_some, Option.join, cI_r, cL_r, cV_r, xI_r, xL_r, xV_r, xI_t, xL_t, xV_t, lt_r, rtZ_0, rtZ_1, rtZ_zb, m2, m3, m4, m5, m6, m7, m8, m9, m10, m11, m12, m13, m14, m15, m16, m17, m18, m19, m20, m21, m22, m23, m24, m25, m26, m27, m28, m29, m30, m31, m32, m40, m41, m60, m63, m64, m90, m99, m100, m120, m127, m164, m173, m200, m240, m255, m450, m480, m650, m722, m762, m960, m1000000, m2838, m2988, m4095, pk_mul, nI_add, nI_1, nI_leI, nI_ltI, nI_eq, ix_n, if_neg, gaI_w h1 h2 (show ¬ 2 = 1 by decide) (show ¬ 4 ≤ 2 by decide), b2, Int32.add_zero]
    by_cases p : P i
    · rw [zi_t p, cntP_t p]
    · rw [zi_f p, cntP_f p]
  · intro g _ _
    show L_X12_placesOf_62 E (rr w t) (g + 1) (nI (cntP P 40)) (nI 40) (Hw E w I2 L Q) = _
    rw [L_X12_placesOf_62]
    simp (disch := omega) only [m2, m3, m4, m5, m6, m7, m8, m9, m10, m11, m12, m13, m14, m15, m16, m17, m18, m19, m20, m21, m22, m23, m24, m25, m26, m27, m28, m29, m30, m31, m32, m40, m41, m60, m63, m64, m90, m99, m100, m120, m127, m164, m173, m200, m240, m255, m450, m480, m650, m722, m762, m960, m1000000, m2838, m2988, m4095, pk_mul, nI_add, nI_1, nI_leI, nI_ltI, nI_eq, ix_n, if_pos]
theorem MW.i {I' : Nat → Nat → Int32} (h : MW I L T c) (h1 : ∀ k, k < 144 ∨ k = 163 → I' k = I k) : MW I' L T c := ⟨by rw [h1 137 (by omega)]; exact h.1, h.2.1, RefR_c (by rw [h1 163 (by omega)]) (h1 142 (by omega)) rfl rfl h.2.2⟩
theorem lv153 : lvk w 153 ∧ sh 153 = .inl (2, 40) := ⟨lv_of (by decide), rfl⟩
theorem lv154 : lvk w 154 ∧ sh 154 = .inl (2, 40) := ⟨lv_of (by decide), rfl⟩
/-- a saying followed, its last places told in a row -/
theorem m_last {z k t s0 n : Nat} (hG : 100000 ≤ E.2.2.1) (h : MW I L T c) (hy : y ≤ 200) (hk : k < c 4) (hz : z < c 5) (ht : T (764 + 173 * z) = nI t) (t10 : t ≤ 10) (hs : s0 < 4 * c 1) (hn : n = 153 ∨ n = 154) : ∃ I1 L1 r I', MF I I1 L L1 ∧ MW I1 L1 T c ∧ MF I I' L L1 ∧ MW I' L1 T c ∧ Laid I' L1 T c y ∧ (∀ k, 153 ≤ k → k < 160 → k ≠ n → I' k = I k) ∧ (∀ k, 153 ≤ k → k < 160 → L1 k = L k) ∧ (∀ p, p < 40 → I' n p = zb (lsP T c y k z s0 t p)) ∧ F_X12_goes E (rr w 163) (nI z) (nI k) (nI s0) (nI y) (nI t) (Hw E w I L Q) = rtI (nI r) (Hw E w I1 L1 Q) ∧ F_X12_placesOf E (rr w 163) (rr w n) (Hw E w I1 L1 Q) = rtI (nI (cntP (lsP T c y k z s0 t) 40)) (Hw E w I' L1 Q) := by
  have k1 : c 1 ≤ 60 := (h.2.1.1 1 (by decide)).2
  obtain ⟨I1, L1, r, d1, d2, d3, d4, d5, d6, d7⟩ := m_go (E := E) (w := w) (Q := Q) (y := y) (k := k) (z := z) (m := t) (t := t) (s0 := s0) hG h hy hk hz ht t10 (Nat.le_refl t) hs
  have lv : lvk w n ∧ sh n = .inl (2, 40) := by
    rcases hn with rfl | rfl
    · exact lv153
    · exact lv154
  obtain ⟨I2, b1, b2, b3⟩ := m_placesOf (E := E) (w := w) (I := I1) (L := L1) (Q := Q) (t := n) (c := c) hG (by rw [d2.1]; exact d2.2.1) (by omega) lv.1 lv.2
  rw [d2.1] at b2 b3
  have e : plO T c (L1 151) (4 * c 1) = lsP T c y k z s0 t := funext fun p => propext (exists_congr fun s => and_congr_right fun hs' => and_congr_left fun _ => d6 s (by omega))
  rw [e] at b2 b3
  refine ⟨I1, L1, r, I2, d1, d2, ⟨fun k hk => by rw [b1 k (by omega)]; exact d1.1 k hk, fun i hi => by rw [b1 163 (by omega)]; exact d1.2.1 i hi, d1.2.2⟩, d2.i (fun k hk => b1 k (by omega)), ⟨by rw [b1 163 (by omega)]; exact d3.1, d3.2.1, by have z := d3.2.2; unfold StdOk at *; rw [b1 142 (by omega)]; exact z⟩, fun k g1 g2 g3 => by rw [b1 k g3]; exact (d4 k g1 g2).1, fun k g1 g2 => (d4 k g1 g2).2, b2, d7, b3⟩
theorem m_isRight {z k t s0 g : Nat} (hG : 100000 ≤ E.2.2.1) (h : MW I L T c) (hy : y ≤ 200) (hk : k < c 4) (hz : z < c 5) (ht : T (764 + 173 * z) = nI t) (t10 : t ≤ 10) (eg : T (762 + 173 * z) = nI g) (g40 : g < 40) (hs : s0 < 4 * c 1) : ∃ I' L', MF I I' L L' ∧ MW I' L' T c ∧ F_X12_isRight E (rr w 163) (nI z) (nI k) (nI s0) (nI y) (Hw E w I L Q) = rtI (zb (rgt T c y k z s0 t g)) (Hw E w I' L' Q) := by
  have k5 : c 5 ≤ 12 := (h.2.1.1 5 (by decide)).2
  obtain ⟨I1, L1, r, I2, d1, d2, d3, d4, -, -, -, d7, d8, d9⟩ := m_last (E := E) (w := w) (Q := Q) (y := y) (k := k) (z := z) (t := t) (s0 := s0) hG h hy hk hz ht t10 hs (Or.inl rfl)
  have et : I 137 (764 + 173 * z) = nI t := by rw [h.1]; exact ht
  have eg2 : I2 137 (762 + 173 * z) = nI g := by rw [d4.1]; exact eg
  refine ⟨I2, L1, d3, d4, ?_⟩
  have key : rgt T c y k z s0 t g ↔ cntP (lsP T c y k z s0 t) 40 = 1 ∧ lsP T c y k z s0 t g := by rw [rgt_40 h.2.1 g40, cnt_one g40]
  unfold F_X12_isRight
  simp (disch := omega) only [Option.bind_some, Option.map_some, Option.join, cI_r, cL_r, cV_r, xI_r, xL_r, xV_r, xI_t, xL_t, xV_t, lt_r, rtZ_0, rtZ_1, rtZ_zb, o163, f_sayingsOf, et, d8, gf163_28, d9, f_goalOf, eg2, ga153, ix_n, d7]
  have le : cntP (lsP T c y k z s0 t) 40 ≤ 40 := cntP_le 40
  have e1 : nI (cntP (lsP T c y k z s0 t) 40) = 1 ↔ cntP (lsP T c y k z s0 t) 40 = 1 := nI_eq (by omega) (show 1 < 2 ^ 31 by decide)
  by_cases p : cntP (lsP T c y k z s0 t) 40 = 1
  · rw [if_neg (not_not_intro (e1.mpr p))]
    by_cases p2 : lsP T c y k z s0 t g
    · rw [zi_t p2, zb_t (key.mpr ⟨p, p2⟩)]
    · rw [zi_f p2, zb_f (fun x => p2 (key.mp x).2)]
  · rw [if_pos (fun x => p (e1.mp x)), zb_f (fun x => p (key.mp x).1)]
theorem goal_n {z : Nat} (q1 : WfT T c) (hz : z < c 5) : ∃ g, T (762 + 173 * z) = nI g ∧ g < 40 := by
  have k0 : c 0 ≤ 40 := (q1.1 0 (by decide)).2
  obtain ⟨g, e, hg⟩ := (q1.2.2.2.2.2.2.1 z hz).1
  exact ⟨g, e, by omega⟩
theorem toL_zb (p : Prop) : (zb p).toInt64 = if zb p = 0 then 0 else 1 := by
  rcases zb_01 p with e | e <;> rw [e] <;> rfl
theorem op_right (hG : 100000 ≤ E.2.2.1) (q : Inv w I L Q) (x1 x2 x3 x4 : Int32) : OpI E w (fun h => F_L_right E (rr w 136) x1 x2 x3 x4 (rr w 164) h) (fun h => F_X12_right E (rr w 163) x1 x2 x3 x4 h) I L Q := by
  have q0 := q
  obtain ⟨c, qc⟩ := q
  have qc' : InvC w I L Q c := qc
  obtain ⟨q1, q2, q3, q4, q5, q6, q7, q8, q9, q10, q11, q12, q13⟩ := qc
  have hC := q1.1
  have hC' : Cts ((up2 I 163 3 0) 137) c := hC
  by_cases p1 : bl x1 (c 5) ∧ bl x2 (c 4) ∧ bl x3 (4 * c 1)
  · have nt := fun e => f_needTold2 (E := E) (w := w) (I := I) (L := L) (Q := Q) (e := e) hC q4.1.1 q3.2.1.1 q2.2.1.1 p1
    have p1' := p1
    obtain ⟨⟨z, rfl, hz⟩, ⟨k, rfl, hk⟩, ⟨s, rfl, hs⟩⟩ := p1'
    obtain ⟨t, et, ht⟩ := say_n q1 hz
    obtain ⟨g, eg, hg⟩ := goal_n q1 hz
    by_cases p2 : bd x4 0 200
    · obtain ⟨y, rfl, -, hy⟩ := p2
      have p2 : bd (nI y) 0 200 := ⟨y, rfl, by omega, hy⟩
      obtain ⟨I1, L1, a1, a2, a3, a4, -, a6⟩ := c_set (E := E) (w := w) (y := y) hG qc'.cw hy hk
      obtain ⟨I2, L2, Q2, b1, b2, b3, -, b5⟩ := c_getsThere (E := E) (w := w) (z := z) (t := t) (s0 := s) hG a2 a3 a4 hz et ht eg hg hs
      have cf := a1.tr b1
      have hc : F_X11_right E (rr w 136) (nI z) (nI k) (nI s) (nI y) (Hw E w I L Q) = rtI (zb (rgt (I 137) c y k z s t g)) (Hw E w I2 L2 Q2) := by
        unfold F_X11_right
        simp (disch := omega) only [Option.bind_some, Option.map_some, Option.join, cI_r, cL_r, cV_r, xI_r, xL_r, xV_r, xI_t, xL_t, xV_t, lt_r, rtZ_0, rtZ_1, rtZ_zb, o136, nt, nd_t p2, a6, gf136_4, o40, b5]
      obtain ⟨I3, L3, d1, d2, d3⟩ := m_isRight (E := E) (w := w) (Q := Q2) (y := y) (k := k) (z := z) (t := t) (s0 := s) hG (MW.of qc' (v := (zb (rgt (I 137) c y k z s t g)).toInt64) cf) hy hk hz et ht eg hg hs
      refine OpI_ok qc' cf b2 d1 d2 ?_ ?_
      · show F_L_right E (rr w 136) (nI z) (nI k) (nI s) (nI y) (rr w 164) (Hw E w I L Q) = _
        unfold F_L_right
        simp only [Option.bind_some, Option.map_some, Option.join, cI_r, cL_r, cV_r, xI_r, xL_r, xV_r, xI_t, xL_t, xV_t, lt_r, rtZ_0, rtZ_1, rtZ_zb, o136, hc, pa164, ix01]
        rw [toL_zb]
        split <;> rfl
      · show F_X12_right E (rr w 163) (nI z) (nI k) (nI s) (nI y) _ = _
        unfold F_X12_right
        have hT : (up2 I2 163 3 0) 137 = I 137 := by rw [up2_row _ _ (by decide), cf.1 137 (by omega)]
        have hC2 : Cts ((up2 I2 163 3 0) 137) c := by rw [hT]; exact hC
        simp (disch := omega) only [Option.bind_some, Option.map_some, Option.join, cI_r, cL_r, cV_r, xI_r, xL_r, xV_r, xI_t, xL_t, xV_t, lt_r, rtZ_0, rtZ_1, rtZ_zb, pf163_3, o163, f_areThere hC2, zn_t p1, f_isYear, zi_t p2, d3]
    · refine OpI_no (k := 2) (b := 0) q0 (by decide) ?_ ?_
      · show F_L_right E (rr w 136) (nI z) (nI k) (nI s) x4 (rr w 164) (Hw E w I L Q) = _
        unfold F_L_right F_X11_right
        simp only [Option.bind_some, Option.map_some, Option.join, cI_r, cL_r, cV_r, xI_r, xL_r, xV_r, xI_t, xL_t, xV_t, lt_r, rtZ_0, rtZ_1, rtZ_zb, o136, nt, nd_f p2, if_true]
      · show F_X12_right E (rr w 163) (nI z) (nI k) (nI s) x4 _ = _
        unfold F_X12_right
        simp only [Option.bind_some, Option.map_some, Option.join, cI_r, cL_r, cV_r, xI_r, xL_r, xV_r, xI_t, xL_t, xV_t, lt_r, rtZ_0, rtZ_1, rtZ_zb, pf163_3, o163, f_areThere hC', zn_t p1, f_isYear, zi_f p2, f_fell]
  · refine OpI_no (k := 1) (b := 0) q0 (by decide) ?_ ?_
    · show F_L_right E (rr w 136) x1 x2 x3 x4 (rr w 164) (Hw E w I L Q) = _
      unfold F_L_right F_X11_right
      simp only [Option.bind_some, Option.map_some, Option.join, cI_r, cL_r, cV_r, xI_r, xL_r, xV_r, xI_t, xL_t, xV_t, lt_r, rtZ_0, rtZ_1, rtZ_zb, o136, f_needTold1 hC q4.1.1 q3.2.1.1 q2.2.1.1 p1, String.reduceEq, if_false, if_true]
    · show F_X12_right E (rr w 163) x1 x2 x3 x4 _ = _
      unfold F_X12_right
      simp only [Option.bind_some, Option.map_some, Option.join, cI_r, cL_r, cV_r, xI_r, xL_r, xV_r, xI_t, xL_t, xV_t, lt_r, rtZ_0, rtZ_1, rtZ_zb, pf163_3, o163, f_areThere hC', zn_f p1, f_fell]
end
