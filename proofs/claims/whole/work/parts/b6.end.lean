/-! end -/
section
variable {E : Ev} {w : Wo} {I I1 I2 : Nat → Nat → Int32} {L L1 L2 : Nat → Nat → Int64} {Q Q1 Q2 : Nat → Nat → Option Nat} {c : Nat → Nat} {T : Ro} {y : Nat}
theorem m_end76 {x : Int32} {P : Nat → Prop} (hG : 100000 ≤ E.2.2.1) (hp : ∀ p, p < 40 → I 153 p = zb (P p)) : L_X12_end_76 E (rr w 163) x E.2.2.1 0 0 (Hw E w I L Q) = rtI (fstP (fun p => P p ∧ nI (cntP P p) = x) 40) (Hw E w I L Q) := by
  refine lpE (σ := Unit) (Lp := fun g i _ => L_X12_end_76 E (rr w 163) x g (nI (cntP P i)) (nI i) (Hw E w I L Q)) (Iv := fun i _ => ∀ j, j < i → ¬ (P j ∧ nI (cntP P j) = x)) (Post := fun o => o = rtI (fstP (fun p => P p ∧ nI (cntP P p) = x) 40) (Hw E w I L Q)) (N := 40) ?_ ?_ E.2.2.1 0 () (by omega) (by omega) (fun j hj => absurd hj (by omega))
  · intro g i _ hi hn
    have st : L_X12_end_76 E (rr w 163) x (g + 1) (nI (cntP P i)) (nI i) (Hw E w I L Q) = if ¬ zb (P i) = 0 then (if ¬ nI (cntP P i) = x then L_X12_end_76 E (rr w 163) x g (nI (cntP P i + 1)) (nI (i + 1)) (Hw E w I L Q) else rtI (nI i) (Hw E w I L Q)) else L_X12_end_76 E (rr w 163) x g (nI (cntP P i)) (nI (i + 1)) (Hw E w I L Q) := by
      rw [L_X12_end_76]
      simp (disch := omega) only [Option.bind_some, Option.map_some, Option.join, cI_r, cL_r, cV_r, xI_r, xL_r, xV_r, xI_t, xL_t, xV_t, lt_r, rtZ_0, rtZ_1, rtZ_zb, m2, m3, m4, m5, m6, m7, m8, m9, m10, m11, m12, m13, m14, m15, m16, m17, m18, m19, m20, m21, m22, m23, m24, m25, m26, m27, m28, m29, m30, m31, m32, m40, m41, m60, m63, m64, m90, m99, m100, m120, m127, m164, m173, m200, m240, m255, m450, m480, m650, m722, m762, m960, m1000000, m2838, m2988, m4095, pk_mul, nI_add, nI_1, nI_leI, nI_ltI, nI_eq, ix_n, if_neg, gf163_28, ga153, hp]
    by_cases p : P i
    · by_cases p2 : nI (cntP P i) = x
      · right
        show L_X12_end_76 E (rr w 163) x (g + 1) (nI (cntP P i)) (nI i) (Hw E w I L Q) = _
        rw [st, zn_t p, if_neg (not_not_intro p2), fstP_at hi ⟨p, p2⟩ hn]
      · left
        refine ⟨(), fun j hj => ?_, ?_⟩
        · by_cases e : j = i
          · subst e; exact fun z => p2 z.2
          · exact hn j (by omega)
        · show L_X12_end_76 E (rr w 163) x (g + 1) (nI (cntP P i)) (nI i) (Hw E w I L Q) = L_X12_end_76 E (rr w 163) x g (nI (cntP P (i + 1))) (nI (i + 1)) (Hw E w I L Q)
          rw [st, zn_t p, if_pos p2, cntP_t p]
    · left
      refine ⟨(), fun j hj => ?_, ?_⟩
      · by_cases e : j = i
        · subst e; exact fun z => p z.1
        · exact hn j (by omega)
      · show L_X12_end_76 E (rr w 163) x (g + 1) (nI (cntP P i)) (nI i) (Hw E w I L Q) = L_X12_end_76 E (rr w 163) x g (nI (cntP P (i + 1))) (nI (i + 1)) (Hw E w I L Q)
        rw [st, zn_f p, cntP_f p]
  · intro g _ hn
    show L_X12_end_76 E (rr w 163) x (g + 1) (nI (cntP P 40)) (nI 40) (Hw E w I L Q) = _
    rw [L_X12_end_76, fstP_no hn]
    simp (disch := omega) only [m2, m3, m4, m5, m6, m7, m8, m9, m10, m11, m12, m13, m14, m15, m16, m17, m18, m19, m20, m21, m22, m23, m24, m25, m26, m27, m28, m29, m30, m31, m32, m40, m41, m60, m63, m64, m90, m99, m100, m120, m127, m164, m173, m200, m240, m255, m450, m480, m650, m722, m762, m960, m1000000, m2838, m2988, m4095, pk_mul, nI_add, nI_1, nI_leI, nI_ltI, nI_eq, ix_n, if_pos]
theorem fstP_ext {P : Nat → Prop} {a b : Nat} (h : a ≤ b) (hn : ∀ j, a ≤ j → j < b → ¬ P j) : fstP P b = fstP P a := by
  by_cases p : ∃ j, j < a ∧ P j ∧ ∀ i, i < j → ¬ P i
  · obtain ⟨j, h1, h2, h3⟩ := p
    rw [fstP_at (show j < b by omega) h2 h3, fstP_at h1 h2 h3]
  · have no : ∀ n j, j ≤ n → j < a → ¬ P j := by
      intro n
      induction n with
      | zero => intro j hj ha hp; exact p ⟨j, ha, hp, fun i hi => by omega⟩
      | succ n ih =>
        intro j hj ha hp
        exact p ⟨j, ha, hp, fun i hi => ih i (by omega) (by omega)⟩
    rw [fstP_no (fun j hj => ?_), fstP_no (fun j hj => no j j (Nat.le_refl j) hj)]
    by_cases e : j < a
    · exact no j j (Nat.le_refl j) e
    · exact hn j (by omega) hj
theorem op_end (hG : 100000 ≤ E.2.2.1) (q : Inv w I L Q) (x1 x2 x3 x4 x5 : Int32) : OpI E w (fun h => F_L_end E (rr w 136) x1 x2 x3 x4 x5 (rr w 164) h) (fun h => F_X12_end E (rr w 163) x1 x2 x3 x4 x5 h) I L Q := by
  have q0 := q
  obtain ⟨c, qc⟩ := q
  have qc' : InvC w I L Q c := qc
  obtain ⟨q1, q2, q3, q4, q5, q6, q7, q8, q9, q10, q11, q12, q13⟩ := qc
  have hC := q1.1
  have hC' : Cts ((up2 I 163 3 0) 137) c := hC
  have k0 : c 0 ≤ 40 := (hC 0 (by decide)).2
  have k5 : c 5 ≤ 12 := (hC 5 (by decide)).2
  by_cases p1 : bl x1 (c 5) ∧ bl x2 (c 4) ∧ bl x3 (4 * c 1)
  · have nt := fun e => f_needTold2 (E := E) (w := w) (I := I) (L := L) (Q := Q) (e := e) hC q4.1.1 q3.2.1.1 q2.2.1.1 p1
    have p1' := p1
    obtain ⟨⟨z, rfl, hz⟩, ⟨k, rfl, hk⟩, ⟨s, rfl, hs⟩⟩ := p1'
    obtain ⟨t, et, ht⟩ := say_n q1 hz
    by_cases p2 : bd x4 0 200
    · obtain ⟨y, rfl, -, hy⟩ := p2
      have p2 : bd (nI y) 0 200 := ⟨y, rfl, by omega, hy⟩
      obtain ⟨I1, L1, a1, a2, a3, a4, -, a6⟩ := c_set (E := E) (w := w) (y := y) hG qc'.cw hy hk
      obtain ⟨I2, L2, Q2, v, b1, b2, b3, -, b5, b6⟩ := c_lastPlaces (E := E) (w := w) (z := z) (t := t) (s0 := s) hG a2 a3 a4 hz et ht hs
      have cf := a1.tr b1
      have lp : ∀ j, 40 ≤ j → j < 64 → ¬ lsP (I 137) c y k z s t j := fun j h1 h2 g => by
        have := lsP_lt q1 (by omega) g; omega
      generalize hP : lsP (I 137) c y k z s t = P at *
      generalize ev : (if x5 = -1 then nI (cntP P 40) else fstP (fun p => P p ∧ nI (cntP P p) = x5) 40) = r
      have e1 : cntP (b64 v) 64 = cntP P 40 := (cnt_c b5).trans (cnt_gap (by omega) lp)
      have e2 : fstP (fun p => b64 v p ∧ nI (cntP (b64 v) p) = x5) 64 = fstP (fun p => P p ∧ nI (cntP P p) = x5) 40 := by
        rw [fstP_c (n := 64) (R := fun p => P p ∧ nI (cntP P p) = x5) (fun j hj => by rw [b5 j hj, cnt_c (n := j) (fun i hi => b5 i (by omega))])]
        exact fstP_ext (by omega) (fun j h1 h2 z => lp j h1 h2 z.1)
      have hc : F_X11_end E (rr w 136) (nI z) (nI k) (nI s) (nI y) x5 (Hw E w I L Q) = rtI r (Hw E w I2 L2 Q2) := by
        unfold F_X11_end
        simp (disch := omega) only [Option.bind_some, Option.map_some, Option.join, cI_r, cL_r, cV_r, xI_r, xL_r, xV_r, xI_t, xL_t, xV_t, lt_r, rtZ_0, rtZ_1, rtZ_zb, o136, nt, nd_t p2, a6, gf136_4, o40, b6, f_nthOf hG, f_bitCount, e1, e2]
        rw [← ev]
        by_cases p : x5 = -1
        · rw [if_neg (not_not_intro p), if_pos p]
        · rw [if_pos p, if_neg p]
      obtain ⟨I3, L3, r3, I4, d1, d2, d3, d4, -, -, -, d7, d8, d9⟩ := m_last (E := E) (w := w) (Q := Q2) (y := y) (k := k) (z := z) (t := t) (s0 := s) hG (MW.of qc' (v := r.toInt64) cf) hy hk hz et ht hs (Or.inl rfl)
      rw [hP] at d7 d9
      refine OpI_ok qc' cf b2 d3 d4 ?_ ?_
      · show F_L_end E (rr w 136) (nI z) (nI k) (nI s) (nI y) x5 (rr w 164) (Hw E w I L Q) = _
        unfold F_L_end
        simp only [Option.bind_some, Option.map_some, Option.join, cI_r, cL_r, cV_r, xI_r, xL_r, xV_r, xI_t, xL_t, xV_t, lt_r, rtZ_0, rtZ_1, rtZ_zb, o136, hc, pa164, ix01]
      · show F_X12_end E (rr w 163) (nI z) (nI k) (nI s) (nI y) x5 _ = _
        unfold F_X12_end
        have hT : (up2 I2 163 3 0) 137 = I 137 := by rw [up2_row _ _ (by decide), cf.1 137 (by omega)]
        have hC2 : Cts ((up2 I2 163 3 0) 137) c := by rw [hT]; exact hC
        simp (disch := omega) only [Option.bind_some, Option.map_some, Option.join, cI_r, cL_r, cV_r, xI_r, xL_r, xV_r, xI_t, xL_t, xV_t, lt_r, rtZ_0, rtZ_1, rtZ_zb, pf163_3, o163, f_areThere hC2, zn_t p1, f_isYear, zn_t p2, f_sayingsOf, hT, et, d8, gf163_28, d9, m_end76 hG d7]
        rw [← ev]
        by_cases p : x5 = -1
        · rw [if_neg (not_not_intro p), if_pos p]
        · rw [if_pos p, if_neg p]
    · refine OpI_no (k := 2) (b := 0) q0 (by decide) ?_ ?_
      · show F_L_end E (rr w 136) (nI z) (nI k) (nI s) x4 x5 (rr w 164) (Hw E w I L Q) = _
        unfold F_L_end F_X11_end
        simp only [Option.bind_some, Option.map_some, Option.join, cI_r, cL_r, cV_r, xI_r, xL_r, xV_r, xI_t, xL_t, xV_t, lt_r, rtZ_0, rtZ_1, rtZ_zb, o136, nt, nd_f p2, if_true]
      · show F_X12_end E (rr w 163) (nI z) (nI k) (nI s) x4 x5 _ = _
        unfold F_X12_end
        simp only [Option.bind_some, Option.map_some, Option.join, cI_r, cL_r, cV_r, xI_r, xL_r, xV_r, xI_t, xL_t, xV_t, lt_r, rtZ_0, rtZ_1, rtZ_zb, pf163_3, o163, f_areThere hC', zn_t p1, f_isYear, zn_f p2, f_fails]
  · refine OpI_no (k := 1) (b := 0) q0 (by decide) ?_ ?_
    · show F_L_end E (rr w 136) x1 x2 x3 x4 x5 (rr w 164) (Hw E w I L Q) = _
      unfold F_L_end F_X11_end
      simp only [Option.bind_some, Option.map_some, Option.join, cI_r, cL_r, cV_r, xI_r, xL_r, xV_r, xI_t, xL_t, xV_t, lt_r, rtZ_0, rtZ_1, rtZ_zb, o136, f_needTold1 hC q4.1.1 q3.2.1.1 q2.2.1.1 p1, String.reduceEq, if_false, if_true]
    · show F_X12_end E (rr w 163) x1 x2 x3 x4 x5 _ = _
      unfold F_X12_end
      simp only [Option.bind_some, Option.map_some, Option.join, cI_r, cL_r, cV_r, xI_r, xL_r, xV_r, xI_t, xL_t, xV_t, lt_r, rtZ_0, rtZ_1, rtZ_zb, pf163_3, o163, f_areThere hC', zn_f p1, f_fails]
end
