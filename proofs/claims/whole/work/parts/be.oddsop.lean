/-! odds: the call -/
section
variable {E : Ev} {w : Wo} {I I1 I2 : Nat → Nat → Int32} {L L1 L2 : Nat → Nat → Int64} {Q Q1 Q2 : Nat → Nat → Option Nat} {c : Nat → Nat} {T : Ro} {y : Nat}
theorem OdF.cw (hf : OdF I I1 L L1 Q Q1) (h : CW I L Q T c) (hm : MapY I1 L1 T c y) (hs : StepsR I1 L1 Q1) (ho : OddsR Q1) : CW I1 L1 Q1 T c := by
  refine h.set hf.cf hm.1 hs ?_ ho
  have w0 := h.2.2.2.2.2.2.2.1
  unfold WalkR at *
  rw [hf.2.2 40 (by decide) (by decide)]; exact w0
theorem odR {a b : Nat} (hab : (a = 55 ∧ b = 56) ∨ (a = 56 ∧ b = 55)) (h1 : Q 54 1 = some a) (h2 : Q 54 2 = some b) : OddsR Q := by
  rcases hab with ⟨rfl, rfl⟩ | ⟨rfl, rfl⟩
  · exact Or.inl ⟨h1, h2⟩
  · exact Or.inr ⟨h1, h2⟩
theorem c_run {z k t s0 : Nat} (hG : 100000 ≤ E.2.2.1) (h : CW I L Q T c) (hw : WC I L Q T c y k) (hg : Gnd I L T c y k) (hz : z < c 5) (ht : T (764 + 173 * z) = nI t) (t10 : t ≤ 10) (hs : s0 < 4 * c 1) : ∃ I1 I' L' Q' a, CF I I' L L' Q Q' ∧ CW I' L' Q' T c ∧ WC I' L' Q' T c y k ∧ (∀ k', Gnd I L T c y k' → Gnd I' L' T c y k') ∧ (a = 55 ∨ a = 56) ∧ Q' 54 1 = some a ∧ (∀ s, s < 240 → I' a s = oSeq T c y k z 0 (stR s0) t s) ∧ I' 61 = I 61 ∧ F_X4_start E (rr w 54) (nI s0) (Hw E w I L Q) = rtV (Hw E w I1 L Q) ∧ F_X4_goOn E (rr w 54) (nI z) 0 (Hw E w I1 L Q) = rtV (Hw E w I' L' Q') := by
  have k1 : c 1 ≤ 60 := (h.2.1.1 1 (by decide)).2
  obtain ⟨I1, a, b, a1, a2, a3, a4, a5, a6⟩ := c_start (E := E) (w := w) (I := I) (L := L) (Q := Q) (s0 := s0) hG h.2.2.2.2.2.2.2.2 (by omega)
  have f1 : OdF I I1 L L Q Q := ⟨fun k _ _ _ _ g1 g2 _ _ => a4 k g1 g2, fun _ _ _ _ _ _ => rfl, fun _ _ _ => rfl⟩
  have m1' : MapY I1 L T c y := ⟨MapR_c (a4 32 (by decide) (by decide)) (a4 38 (by decide) (by decide)) (fun _ _ _ => rfl) hw.2.2.1.1, by rw [a4 32 (by decide) (by decide)]; exact hw.2.2.1.2⟩
  have s1 : StepsR I1 L Q := StepsR_c (a4 48 (by decide) (by decide)) (a4 49 (by decide) (by decide)) (a4 51 (by decide) (by decide)) rfl rfl hw.2.2.2.2.1
  have cw1 := f1.cw h m1' s1 h.2.2.2.2.2.2.2.2
  obtain ⟨I2, L2, Q2, a', b', v1, v2, v3, v4, v5, v6, v7, v8⟩ := c_goOn (E := E) (w := w) (I := I1) (L := L) (Q := Q) (T := T) (c := c) (y := y) (z := z) (k := k) (t := t) (j0 := 0) (R := stR s0) hG (f1.wc hw m1' s1) (f1.gnd hg) (cw1.2.2.2.2.1.1.2 z hz) a1 a2 a3 hz ht t10 (by omega) a5 (stR_lt hs)
  have f2 := f1.tr v1
  exact ⟨I1, I2, L2, Q2, a', f2.cf, f2.cw h v2 v3 (odR v4 v5 v6), f2.wc hw v2 v3, fun k' g => f2.gnd g, by omega, v5, v7, f2.1 61 (by decide) (by decide) (by decide) (by decide) (by decide) (by decide) (by decide) (by decide), a6, v8⟩
theorem op_odds (hG : 100000 ≤ E.2.2.1) (q : Inv w I L Q) (x1 x2 x3 x4 x5 : Int32) : OpI E w (fun h => F_L_odds E (rr w 136) x1 x2 x3 x4 x5 (rr w 164) h) (fun h => F_X12_odds E (rr w 163) x1 x2 x3 x4 x5 h) I L Q := by
  have q0 := q
  obtain ⟨c, qc⟩ := q
  have qc' : InvC w I L Q c := qc
  obtain ⟨q1, q2, q3, q4, q5, q6, q7, q8, q9, q10, q11, q12, q13⟩ := qc
  have hC := q1.1
  have hC' : Cts ((up2 I 163 3 0) 137) c := hC
  have k0 := hC 0 (by decide)
  have k1 := hC 1 (by decide)
  have k4 := hC 4 (by decide)
  have k5 := hC 5 (by decide)
  simp only [mx] at k0 k1 k4 k5
  have e0 : I 0 0 = nI (c 0) := q2.1.1.trans k0.1
  have e1 : I 0 3 = nI (c 1) := q2.2.1.1.trans k1.1
  have e4 : I 15 2 = nI (c 4) := q3.2.1.1.trans k4.1
  have e5 : I 22 0 = nI (c 5) := q4.1.1.trans k5.1
  have c0' : c 0 < 2 ^ 31 := by omega
  have c1' : c 1 < 2 ^ 28 := by omega
  have c4' : c 4 < 2 ^ 31 := by omega
  have c5' : c 5 < 2 ^ 31 := by omega
  have d0' : c 0 < 2 ^ 30 := by omega
  have k0' : (up2 I 163 3 0) 137 0 = nI (c 0) := k0.1
  by_cases p1 : bl x1 (c 5)
  · by_cases p2 : bl x2 (c 4)
    · by_cases p3 : bl x3 (4 * c 1)
      · have pp : bl x1 (c 5) ∧ bl x2 (c 4) ∧ bl x3 (4 * c 1) := ⟨p1, p2, p3⟩
        by_cases p5 : bl x5 (c 0)
        · by_cases p4 : bd x4 0 200
          · have p1' := p1
            have p2' := p2
            have p3' := p3
            have p4' := p4
            have p5' := p5
            obtain ⟨z, rfl, hz⟩ := p1'
            obtain ⟨k, rfl, hk⟩ := p2'
            obtain ⟨s, rfl, hs⟩ := p3'
            obtain ⟨y, rfl, -, hy⟩ := p4'
            obtain ⟨p, rfl, hp⟩ := p5'
            obtain ⟨t, et, ht⟩ := say_n q1 hz
            obtain ⟨I1, L1, a1, a2, a3, a4, -, a6⟩ := c_set (E := E) (w := w) (y := y) hG qc'.cw hy hk
            obtain ⟨I1', I2, L2, Q2, a, b1, b2, b3, -, b5, b6, b7, -, b9, b10⟩ := c_run (E := E) (w := w) (z := z) (t := t) (s0 := s) hG a2 a3 a4 hz et ht hs
            have cf := a1.tr b1
            have pa' := c_partsAt (E := E) (w := w) (I := I2) (L := L2) (Q := Q2) (p := p) hG b2.2.1 b2.2.2.1 b5 b6 b7
            generalize ev : smP (oSeq (I 137) c y k z 0 (stR s) t) (fun s => spl (I 137) s = nI p) (4 * c 1) = r at *
            have hc : F_X11_odds E (rr w 136) (nI z) (nI k) (nI s) (nI y) (nI p) (Hw E w I L Q) = rtI r (Hw E w I2 L2 Q2) := by
              unfold F_X11_odds
              simp (disch := omega) only [Option.bind_some, Option.map_some, Option.join, cI_r, cL_r, cV_r, xI_r, xL_r, xV_r, xI_t, xL_t, xV_t, lt_r, rtZ_0, rtZ_1, rtZ_zb, o136, f_needTelling e5 c5', nd_t p1, f_needWalker e4 c4', nd_t p2, f_needState e1 c1', nd_t p3, f_needPlace e0 c0', nd_t p5, f_needYear, nd_t p4, a6, gf136_5, o54, b9, b10, pa']
            have mw := MW.of qc' (v := r.toInt64) cf
            obtain ⟨I3, L3, d1, d2, d3, -, d5, d6⟩ := m_oddsFrom (E := E) (w := w) (Q := Q2) (y := y) (k := k) (z := z) (t := t) (s0 := s) hG mw hy hk hz et ht hs
            have sh' := m_shareAt (E := E) (w := w) (I := I3) (L := L3) (Q := Q2) (p := p) (c := c) hG (by rw [d2.1]; exact d2.2.1) d5
            rw [d2.1, ev] at sh'
            refine OpI_ok qc' cf b2 d1 d2 ?_ ?_
            · show F_L_odds E (rr w 136) (nI z) (nI k) (nI s) (nI y) (nI p) (rr w 164) (Hw E w I L Q) = _
              unfold F_L_odds
              simp only [Option.bind_some, Option.map_some, Option.join, cI_r, cL_r, cV_r, xI_r, xL_r, xV_r, xI_t, xL_t, xV_t, lt_r, rtZ_0, rtZ_1, rtZ_zb, o136, hc, pa164, ix01]
            · show F_X12_odds E (rr w 163) (nI z) (nI k) (nI s) (nI y) (nI p) _ = _
              unfold F_X12_odds
              have hC2 : Cts ((up2 I2 163 3 0) 137) c := by rw [mw.1]; exact hC
              have k0'' : (up2 I2 163 3 0) 137 0 = nI (c 0) := by rw [mw.1]; exact k0.1
              simp (disch := omega) only [Option.bind_some, Option.map_some, Option.join, cI_r, cL_r, cV_r, xI_r, xL_r, xV_r, xI_t, xL_t, xV_t, lt_r, rtZ_0, rtZ_1, rtZ_zb, pf163_3, o163, f_areThere hC2, zi_t pp, f_isPlace k0'' d0', zn_t p5, f_isYear, zn_t p4, d6, sh']
          · refine OpI_no (k := 2) (b := 0) q0 (by decide) ?_ ?_
            · show F_L_odds E (rr w 136) x1 x2 x3 x4 x5 (rr w 164) (Hw E w I L Q) = _
              unfold F_L_odds F_X11_odds
              simp only [Option.bind_some, Option.map_some, Option.join, cI_r, cL_r, cV_r, xI_r, xL_r, xV_r, xI_t, xL_t, xV_t, lt_r, rtZ_0, rtZ_1, rtZ_zb, o136, f_needTelling e5 c5', nd_t p1, f_needWalker e4 c4', nd_t p2, f_needState e1 c1', nd_t p3, f_needPlace e0 c0', nd_t p5, f_needYear, nd_f p4, if_true]
            · show F_X12_odds E (rr w 163) x1 x2 x3 x4 x5 _ = _
              unfold F_X12_odds
              simp only [Option.bind_some, Option.map_some, Option.join, cI_r, cL_r, cV_r, xI_r, xL_r, xV_r, xI_t, xL_t, xV_t, lt_r, rtZ_0, rtZ_1, rtZ_zb, pf163_3, o163, f_areThere hC', zi_t pp, f_isPlace k0' d0', zn_t p5, f_isYear, zn_f p4, f_fails]
        · refine OpI_no (k := 1) (b := 0) q0 (by decide) ?_ ?_
          · show F_L_odds E (rr w 136) x1 x2 x3 x4 x5 (rr w 164) (Hw E w I L Q) = _
            unfold F_L_odds F_X11_odds
            simp only [Option.bind_some, Option.map_some, Option.join, cI_r, cL_r, cV_r, xI_r, xL_r, xV_r, xI_t, xL_t, xV_t, lt_r, rtZ_0, rtZ_1, rtZ_zb, o136, f_needTelling e5 c5', nd_t p1, f_needWalker e4 c4', nd_t p2, f_needState e1 c1', nd_t p3, f_needPlace e0 c0', nd_f p5, String.reduceEq, if_false, if_true]
          · show F_X12_odds E (rr w 163) x1 x2 x3 x4 x5 _ = _
            unfold F_X12_odds
            simp only [Option.bind_some, Option.map_some, Option.join, cI_r, cL_r, cV_r, xI_r, xL_r, xV_r, xI_t, xL_t, xV_t, lt_r, rtZ_0, rtZ_1, rtZ_zb, pf163_3, o163, f_areThere hC', zi_t pp, f_isPlace k0' d0', zn_f p5, f_fails]
      · refine OpI_no (k := 1) (b := 0) q0 (by decide) ?_ ?_
        · show F_L_odds E (rr w 136) x1 x2 x3 x4 x5 (rr w 164) (Hw E w I L Q) = _
          unfold F_L_odds F_X11_odds
          simp only [Option.bind_some, Option.map_some, Option.join, cI_r, cL_r, cV_r, xI_r, xL_r, xV_r, xI_t, xL_t, xV_t, lt_r, rtZ_0, rtZ_1, rtZ_zb, o136, f_needTelling e5 c5', nd_t p1, f_needWalker e4 c4', nd_t p2, f_needState e1 c1', nd_f p3, String.reduceEq, if_false, if_true]
        · show F_X12_odds E (rr w 163) x1 x2 x3 x4 x5 _ = _
          unfold F_X12_odds
          simp only [Option.bind_some, Option.map_some, Option.join, cI_r, cL_r, cV_r, xI_r, xL_r, xV_r, xI_t, xL_t, xV_t, lt_r, rtZ_0, rtZ_1, rtZ_zb, pf163_3, o163, f_areThere hC', zi_f (fun z : bl x1 (c 5) ∧ bl x2 (c 4) ∧ bl x3 (4 * c 1) => p3 z.2.2), f_fails]
    · refine OpI_no (k := 1) (b := 0) q0 (by decide) ?_ ?_
      · show F_L_odds E (rr w 136) x1 x2 x3 x4 x5 (rr w 164) (Hw E w I L Q) = _
        unfold F_L_odds F_X11_odds
        simp only [Option.bind_some, Option.map_some, Option.join, cI_r, cL_r, cV_r, xI_r, xL_r, xV_r, xI_t, xL_t, xV_t, lt_r, rtZ_0, rtZ_1, rtZ_zb, o136, f_needTelling e5 c5', nd_t p1, f_needWalker e4 c4', nd_f p2, String.reduceEq, if_false, if_true]
      · show F_X12_odds E (rr w 163) x1 x2 x3 x4 x5 _ = _
        unfold F_X12_odds
        simp only [Option.bind_some, Option.map_some, Option.join, cI_r, cL_r, cV_r, xI_r, xL_r, xV_r, xI_t, xL_t, xV_t, lt_r, rtZ_0, rtZ_1, rtZ_zb, pf163_3, o163, f_areThere hC', zi_f (fun z : bl x1 (c 5) ∧ bl x2 (c 4) ∧ bl x3 (4 * c 1) => p2 z.2.1), f_fails]
  · refine OpI_no (k := 1) (b := 0) q0 (by decide) ?_ ?_
    · show F_L_odds E (rr w 136) x1 x2 x3 x4 x5 (rr w 164) (Hw E w I L Q) = _
      unfold F_L_odds F_X11_odds
      simp only [Option.bind_some, Option.map_some, Option.join, cI_r, cL_r, cV_r, xI_r, xL_r, xV_r, xI_t, xL_t, xV_t, lt_r, rtZ_0, rtZ_1, rtZ_zb, o136, f_needTelling e5 c5', nd_f p1, String.reduceEq, if_false, if_true]
    · show F_X12_odds E (rr w 163) x1 x2 x3 x4 x5 _ = _
      unfold F_X12_odds
      simp only [Option.bind_some, Option.map_some, Option.join, cI_r, cL_r, cV_r, xI_r, xL_r, xV_r, xI_t, xL_t, xV_t, lt_r, rtZ_0, rtZ_1, rtZ_zb, pf163_3, o163, f_areThere hC', zi_f (fun z : bl x1 (c 5) ∧ bl x2 (c 4) ∧ bl x3 (4 * c 1) => p1 z.1), f_fails]
end
