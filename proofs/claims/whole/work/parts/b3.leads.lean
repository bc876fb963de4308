/-! leads, holds -/
section
variable {E : Ev} {w : Wo} {I I1 I2 : Nat → Nat → Int32} {L L1 L2 : Nat → Nat → Int64} {Q Q1 Q2 : Nat → Nat → Option Nat} {c : Nat → Nat} {T : Ro} {y : Nat}
theorem nI_bd {x : Int32} {t : Nat} (ht : t < 2 ^ 31) (hx : ¬ x < 0) : x ≤ nI t ↔ bd x 0 t := by
  rw [bd_iff ht]; exact ⟨fun h => ⟨hx, Int32.not_lt.mpr h⟩, fun h => Int32.not_lt.mp h.2⟩
theorem MW.of (q : InvC w I L Q c) {v : Int64} (cf : CF I I1 L L1 Q Q1) : MW (up2 I1 163 3 0) (up2 L1 164 0 v) (I 137) c := by
  obtain ⟨q1, q2, q3, q4, q5, q6, -⟩ := q
  exact ⟨by rw [up2_row _ _ (by decide), cf.1 137 (by omega)], q1, RefR_c (by rw [up2_i _ _ _ (by decide), cf.1 163 (by omega)]) (by rw [up2_row _ _ (by decide), cf.1 142 (by omega)]) (by rw [up2_row _ _ (by decide), cf.2.1 140 (by omega)]) (by rw [up2_row _ _ (by decide), cf.2.1 141 (by omega)]) q6⟩
theorem op_leads (hG : 100000 ≤ E.2.2.1) (q : Inv w I L Q) (x1 x2 x3 x4 x5 x6 : Int32) : OpI E w (fun h => F_L_leads E (rr w 136) x1 x2 x3 x4 x5 x6 (rr w 164) h) (fun h => F_X12_leads E (rr w 163) x1 x2 x3 x4 x5 x6 h) I L Q := by
  have q0 := q
  obtain ⟨c, qc⟩ := q
  have qc' : InvC w I L Q c := qc
  obtain ⟨q1, q2, q3, q4, q5, q6, q7, q8, q9, q10, q11, q12, q13⟩ := qc
  have hC := q1.1
  have hC' : Cts ((up2 I 163 3 0) 137) c := hC
  have k1 : c 1 ≤ 60 := (hC 1 (by decide)).2
  have k4 : c 4 ≤ 8 := (hC 4 (by decide)).2
  have k5 : c 5 ≤ 12 := (hC 5 (by decide)).2
  by_cases p1 : bl x1 (c 5) ∧ bl x2 (c 4) ∧ bl x3 (4 * c 1)
  · have nt := fun e => f_needTold2 (E := E) (w := w) (I := I) (L := L) (Q := Q) (e := e) hC q4.1.1 q3.2.1.1 q2.2.1.1 p1
    have p1' := p1
    obtain ⟨⟨z, rfl, hz⟩, ⟨k, rfl, hk⟩, ⟨s, rfl, hs⟩⟩ := p1'
    obtain ⟨t, et, ht⟩ := say_n q1 hz
    have e25 : I 25 z = nI t := (q4.1.2 z hz).2.2.1.trans et
    by_cases p2 : bd x4 0 200
    · obtain ⟨y, rfl, -, hy⟩ := p2
      have p2 : bd (nI y) 0 200 := ⟨y, rfl, by omega, hy⟩
      by_cases p3 : bd x5 0 t
      · have c5 := (bd_iff (by omega)).mp p3
        have c5' : x5 ≤ nI t := Int32.not_lt.mp c5.2
        obtain ⟨m, rfl, -, hm⟩ := p3
        have p3 : bd (nI m) 0 t := ⟨m, rfl, by omega, hm⟩
        obtain ⟨I1, L1, a1, a2, a3, a4, -, a6⟩ := c_set (E := E) (w := w) (y := y) hG qc'.cw hy hk
        obtain ⟨I2, L2, Q2, a, r, b1, b2, b3, -, b5, b6, b7, b8, b9⟩ := c_fol (E := E) (w := w) (z := z) (m := m) (t := t) (s0 := s) hG a2 a3 a4 hz et ht hm hs
        have so : SO w a := by
          rcases b6 with rfl | rfl
          · exact so43
          · exact so45
        have cf := a1.tr b1
        generalize ev : (if x6 = -1 then nI (cntP (endS (I 137) c y k z s m) 240) else nthX (endS (I 137) c y k z s m) x6) = v
        have hX : ∀ q, q < 256 → bq (L2 (a + 1)) q → q < 240 := fun q hq g => by
          have := endS_lt hs ((b8 q hq).mp g); omega
        have hc : F_X11_leads E (rr w 136) (nI z) (nI k) (nI s) (nI y) (nI m) x6 (Hw E w I L Q) = rtI v (Hw E w I2 L2 Q2) := by
          unfold F_X11_leads
          simp (disch := omega) only [Option.bind_some, Option.map_some, Option.join, cI_r, cL_r, cV_r, xI_r, xL_r, xV_r, xI_t, xL_t, xV_t, lt_r, rtZ_0, rtZ_1, rtZ_zb, o136, nt, nd_t p2, if_neg c5.1, gf136_2, gf22_3, ga25, ix_n, e25, if_pos c5', a6, gf136_4, o40, b9, gf40_7, b5, so.o, c_nth hG so, c_size so hX]
          rw [cnt_c (n := 240) (fun i hi => b8 i (by omega)), nthX_c (fun i hi => b8 i (by omega)), ← ev]
          by_cases p : x6 = -1
          · rw [if_neg (not_not_intro p), if_pos p]
          · rw [if_pos p, if_neg p]
        obtain ⟨I3, L3, r3, d1, d2, -, -, d5, d6, d7⟩ := m_go (E := E) (w := w) (Q := Q2) (y := y) (k := k) (z := z) (m := m) (t := t) (s0 := s) hG (MW.of qc' (v := v.toInt64) cf) hy hk hz et ht hm hs
        refine OpI_ok qc' cf b2 d1 d2 ?_ ?_
        · show F_L_leads E (rr w 136) (nI z) (nI k) (nI s) (nI y) (nI m) x6 (rr w 164) (Hw E w I L Q) = _
          unfold F_L_leads
          simp only [Option.bind_some, Option.map_some, Option.join, cI_r, cL_r, cV_r, xI_r, xL_r, xV_r, xI_t, xL_t, xV_t, lt_r, rtZ_0, rtZ_1, rtZ_zb, o136, hc, pa164, ix01]
        · show F_X12_leads E (rr w 163) (nI z) (nI k) (nI s) (nI y) (nI m) x6 _ = _
          unfold F_X12_leads
          have hT : (up2 I2 163 3 0) 137 = I 137 := by rw [up2_row _ _ (by decide), cf.1 137 (by omega)]
          have hC2 : Cts ((up2 I2 163 3 0) 137) c := by rw [hT]; exact hC
          have nu := f_numberOf (E := E) (w := w) (I := I3) (L := L3) (Q := Q2) (k := 151) (a := 0) (x := x6) hG la151 (by decide)
          simp (disch := omega) only [Option.bind_some, Option.map_some, Option.join, cI_r, cL_r, cV_r, xI_r, xL_r, xV_r, xI_t, xL_t, xV_t, lt_r, rtZ_0, rtZ_1, rtZ_zb, pf163_3, o163, f_areThere hC2, zn_t p1, f_isYear, zi_t p2, f_sayingsOf, hT, et, f_wi t (show t < 2 ^ 31 by omega) rfl, zn_t p3, d7, gf163_26]
          rw [show F_X12_numberOf E (rr w 151) 0 x6 (Hw E w I3 L3 Q2) = _ from nu, ← ev]
          by_cases p : x6 = -1
          · rw [if_pos p, if_pos p, cI_r, cnt_c (n := 240) (fun i hi => d6 i (by omega))]
          · rw [if_neg p, if_neg p, cI_r, ← nthX_c (x := x6) (X := b256 (L3 151) 0) (fun i hi => d6 i (by omega))]; rfl
      · refine OpI_no (k := 2) (b := 0) q0 (by decide) ?_ ?_
        · show F_L_leads E (rr w 136) (nI z) (nI k) (nI s) (nI y) x5 x6 (rr w 164) (Hw E w I L Q) = _
          unfold F_L_leads F_X11_leads
          by_cases c1 : x5 < 0
          · simp only [Option.bind_some, Option.map_some, Option.join, cI_r, cL_r, cV_r, xI_r, xL_r, xV_r, xI_t, xL_t, xV_t, lt_r, rtZ_0, rtZ_1, rtZ_zb, o136, nt, nd_t p2, if_pos c1, if_true]
          · simp (disch := omega) only [Option.bind_some, Option.map_some, Option.join, cI_r, cL_r, cV_r, xI_r, xL_r, xV_r, xI_t, xL_t, xV_t, lt_r, rtZ_0, rtZ_1, rtZ_zb, o136, nt, nd_t p2, if_neg c1, gf136_2, gf22_3, ga25, ix_n, e25, if_neg (fun g => p3 ((nI_bd (by omega) c1).mp g)), if_true]
        · show F_X12_leads E (rr w 163) (nI z) (nI k) (nI s) (nI y) x5 x6 _ = _
          unfold F_X12_leads
          have et' : (up2 I 163 3 0) 137 (764 + 173 * z) = nI t := et
          simp (disch := omega) only [Option.bind_some, Option.map_some, Option.join, cI_r, cL_r, cV_r, xI_r, xL_r, xV_r, xI_t, xL_t, xV_t, lt_r, rtZ_0, rtZ_1, rtZ_zb, pf163_3, o163, f_areThere hC', zn_t p1, f_isYear, zi_t p2, f_sayingsOf, et', f_wi t (show t < 2 ^ 31 by omega) rfl, zn_f p3, f_fails]
    · refine OpI_no (k := 2) (b := 0) q0 (by decide) ?_ ?_
      · show F_L_leads E (rr w 136) (nI z) (nI k) (nI s) x4 x5 x6 (rr w 164) (Hw E w I L Q) = _
        unfold F_L_leads F_X11_leads
        simp only [Option.bind_some, Option.map_some, Option.join, cI_r, cL_r, cV_r, xI_r, xL_r, xV_r, xI_t, xL_t, xV_t, lt_r, rtZ_0, rtZ_1, rtZ_zb, o136, nt, nd_f p2, if_true]
      · show F_X12_leads E (rr w 163) (nI z) (nI k) (nI s) x4 x5 x6 _ = _
        unfold F_X12_leads
        simp only [Option.bind_some, Option.map_some, Option.join, cI_r, cL_r, cV_r, xI_r, xL_r, xV_r, xI_t, xL_t, xV_t, lt_r, rtZ_0, rtZ_1, rtZ_zb, pf163_3, o163, f_areThere hC', zn_t p1, f_isYear, zi_f p2, f_fails]
  · refine OpI_no (k := 1) (b := 0) q0 (by decide) ?_ ?_
    · show F_L_leads E (rr w 136) x1 x2 x3 x4 x5 x6 (rr w 164) (Hw E w I L Q) = _
      unfold F_L_leads F_X11_leads
      simp only [Option.bind_some, Option.map_some, Option.join, cI_r, cL_r, cV_r, xI_r, xL_r, xV_r, xI_t, xL_t, xV_t, lt_r, rtZ_0, rtZ_1, rtZ_zb, o136, f_needTold1 hC q4.1.1 q3.2.1.1 q2.2.1.1 p1, String.reduceEq, if_false, if_true]
    · show F_X12_leads E (rr w 163) x1 x2 x3 x4 x5 x6 _ = _
      unfold F_X12_leads
      simp only [Option.bind_some, Option.map_some, Option.join, cI_r, cL_r, cV_r, xI_r, xL_r, xV_r, xI_t, xL_t, xV_t, lt_r, rtZ_0, rtZ_1, rtZ_zb, pf163_3, o163, f_areThere hC', zn_f p1, f_fails]
theorem op_holds (hG : 100000 ≤ E.2.2.1) (q : Inv w I L Q) (x1 x2 x3 x4 : Int32) : OpI E w (fun h => F_L_holds E (rr w 136) x1 x2 x3 x4 (rr w 164) h) (fun h => F_X12_holds E (rr w 163) x1 x2 x3 x4 h) I L Q := by
  have q0 := q
  obtain ⟨c, qc⟩ := q
  have qc' : InvC w I L Q c := qc
  obtain ⟨q1, q2, q3, q4, q5, q6, q7, q8, q9, q10, q11, q12, q13⟩ := qc
  have hC := q1.1
  have hC' : Cts ((up2 I 163 3 0) 137) c := hC
  have k1 : c 1 ≤ 60 := (hC 1 (by decide)).2
  have k4 : c 4 ≤ 8 := (hC 4 (by decide)).2
  have k5 : c 5 ≤ 12 := (hC 5 (by decide)).2
  by_cases p1 : bl x1 (c 5) ∧ bl x2 (c 4) ∧ bl x3 (4 * c 1)
  · have nt := fun e => f_needTold2 (E := E) (w := w) (I := I) (L := L) (Q := Q) (e := e) hC q4.1.1 q3.2.1.1 q2.2.1.1 p1
    have p1' := p1
    obtain ⟨⟨z, rfl, hz⟩, ⟨k, rfl, hk⟩, ⟨s, rfl, hs⟩⟩ := p1'
    obtain ⟨t, et, ht⟩ := say_n q1 hz
    by_cases p2 : bd x4 0 200
    · obtain ⟨y, rfl, -, hy⟩ := p2
      have p2 : bd (nI y) 0 200 := ⟨y, rfl, by omega, hy⟩
      obtain ⟨I1, L1, a1, a2, a3, a4, -, a6⟩ := c_set (E := E) (w := w) (y := y) hG qc'.cw hy hk
      obtain ⟨I2, L2, Q2, a, r, b1, b2, b3, -, b5, b6, b7, b8, b9⟩ := c_fol (E := E) (w := w) (z := z) (m := t) (t := t) (s0 := s) hG a2 a3 a4 hz et ht (Nat.le_refl t) hs
      have e25 : I1 25 z = nI t := (a2.2.2.2.2.1.1.2 z hz).2.2.1.trans et
      have cf := a1.tr b1
      have hc : F_X11_holds E (rr w 136) (nI z) (nI k) (nI s) (nI y) (Hw E w I L Q) = rtI (nI r) (Hw E w I2 L2 Q2) := by
        unfold F_X11_holds
        simp (disch := omega) only [Option.bind_some, Option.map_some, Option.join, cI_r, cL_r, cV_r, xI_r, xL_r, xV_r, xI_t, xL_t, xV_t, lt_r, rtZ_0, rtZ_1, rtZ_zb, o136, nt, nd_t p2, gf136_2, gf22_3, ga25, ix_n, e25, a6, gf136_4, o40, b9]
      obtain ⟨I3, L3, r3, d1, d2, -, -, d5, d6, d7⟩ := m_go (E := E) (w := w) (Q := Q2) (y := y) (k := k) (z := z) (m := t) (t := t) (s0 := s) hG (MW.of qc' (v := (nI r).toInt64) cf) hy hk hz et ht (Nat.le_refl t) hs
      have er : r3 = r := d5.uq b7
      subst er
      refine OpI_ok qc' cf b2 d1 d2 ?_ ?_
      · show F_L_holds E (rr w 136) (nI z) (nI k) (nI s) (nI y) (rr w 164) (Hw E w I L Q) = _
        unfold F_L_holds
        simp only [Option.bind_some, Option.map_some, Option.join, cI_r, cL_r, cV_r, xI_r, xL_r, xV_r, xI_t, xL_t, xV_t, lt_r, rtZ_0, rtZ_1, rtZ_zb, o136, hc, pa164, ix01]
      · show F_X12_holds E (rr w 163) (nI z) (nI k) (nI s) (nI y) _ = _
        unfold F_X12_holds
        have hT : (up2 I2 163 3 0) 137 = I 137 := by rw [up2_row _ _ (by decide), cf.1 137 (by omega)]
        have hC2 : Cts ((up2 I2 163 3 0) 137) c := by rw [hT]; exact hC
        simp (disch := omega) only [Option.bind_some, Option.map_some, Option.join, cI_r, cL_r, cV_r, xI_r, xL_r, xV_r, xI_t, xL_t, xV_t, lt_r, rtZ_0, rtZ_1, rtZ_zb, pf163_3, o163, f_areThere hC2, zn_t p1, f_isYear, zi_t p2, f_sayingsOf, hT, et, d7]
    · refine OpI_no (k := 2) (b := 0) q0 (by decide) ?_ ?_
      · show F_L_holds E (rr w 136) (nI z) (nI k) (nI s) x4 (rr w 164) (Hw E w I L Q) = _
        unfold F_L_holds F_X11_holds
        simp only [Option.bind_some, Option.map_some, Option.join, cI_r, cL_r, cV_r, xI_r, xL_r, xV_r, xI_t, xL_t, xV_t, lt_r, rtZ_0, rtZ_1, rtZ_zb, o136, nt, nd_f p2, if_true]
      · show F_X12_holds E (rr w 163) (nI z) (nI k) (nI s) x4 _ = _
        unfold F_X12_holds
        simp only [Option.bind_some, Option.map_some, Option.join, cI_r, cL_r, cV_r, xI_r, xL_r, xV_r, xI_t, xL_t, xV_t, lt_r, rtZ_0, rtZ_1, rtZ_zb, pf163_3, o163, f_areThere hC', zn_t p1, f_isYear, zi_f p2, f_fails]
  · refine OpI_no (k := 1) (b := 0) q0 (by decide) ?_ ?_
    · show F_L_holds E (rr w 136) x1 x2 x3 x4 (rr w 164) (Hw E w I L Q) = _
      unfold F_L_holds F_X11_holds
      simp only [Option.bind_some, Option.map_some, Option.join, cI_r, cL_r, cV_r, xI_r, xL_r, xV_r, xI_t, xL_t, xV_t, lt_r, rtZ_0, rtZ_1, rtZ_zb, o136, f_needTold1 hC q4.1.1 q3.2.1.1 q2.2.1.1 p1, String.reduceEq, if_false, if_true]
    · show F_X12_holds E (rr w 163) x1 x2 x3 x4 _ = _
      unfold F_X12_holds
      simp only [Option.bind_some, Option.map_some, Option.join, cI_r, cL_r, cV_r, xI_r, xL_r, xV_r, xI_t, xL_t, xV_t, lt_r, rtZ_0, rtZ_1, rtZ_zb, pf163_3, o163, f_areThere hC', zn_f p1, f_fails]
end
