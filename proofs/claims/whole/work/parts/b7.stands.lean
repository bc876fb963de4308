/-! stands, hangs -/
section
variable {E : Ev} {w : Wo} {I I1 I2 : Nat → Nat → Int32} {L L1 L2 : Nat → Nat → Int64} {Q Q1 Q2 : Nat → Nat → Option Nat} {c : Nat → Nat} {T : Ro} {y : Nat}
theorem c_sen {k n : Nat} (hG : 100000 ≤ E.2.2.1) (hw : WC I L Q T c y k) (hg : Gnd I L T c y k) (hn : n < 12) : ∃ v, (∀ p, p < 64 → (b64 v p ↔ senK T c y (knd T k n) p)) ∧ F_X9_seenPlaces E (rr w 40) (nI n) (Hw E w I L Q) = rtL v (Hw E w I L Q) := by
  obtain ⟨h1, h2, h3, h4, h5, h6, h7, -⟩ := hw
  have k4 : c 4 ≤ 8 := (h1.1 4 (by decide)).2
  obtain ⟨v, v1, v2⟩ := c_seen (E := E) (w := w) (I := I) (L := L) (Q := Q) (ks := knd T k n) hG h1 h2 h4 h3
  refine ⟨v, v1, ?_⟩
  have e41 := (hg n hn).1
  unfold F_X9_seenPlaces
  simp (disch := omega) only [Option.bind_some, Option.map_some, Option.join, cI_r, cL_r, cV_r, xI_r, xL_r, xV_r, xI_t, xL_t, xV_t, lt_r, rtZ_0, rtZ_1, rtZ_zb, gf40_0, gf40_4, gf40_6, h7, m12, pk_mul, nI_add, show k * 12 + n = 12 * k + n by omega, ga41, ix_n, e41, o32, v2]
theorem op_stands (hG : 100000 ≤ E.2.2.1) (q : Inv w I L Q) (x1 x2 x3 x4 x5 : Int32) : OpI E w (fun h => F_L_stands E (rr w 136) x1 x2 x3 x4 x5 (rr w 164) h) (fun h => F_X12_stands E (rr w 163) x1 x2 x3 x4 x5 h) I L Q := by
  have q0 := q
  obtain ⟨c, qc⟩ := q
  have qc' : InvC w I L Q c := qc
  obtain ⟨q1, q2, q3, q4, q5, q6, q7, q8, q9, q10, q11, q12, q13⟩ := qc
  have hC := q1.1
  have k0 := hC 0 (by decide)
  have k4 := hC 4 (by decide)
  simp only [mx] at k0 k4
  have e0 : I 0 0 = nI (c 0) := q2.1.1.trans k0.1
  have e4 : I 15 2 = nI (c 4) := q3.2.1.1.trans k4.1
  have k0' : (up2 I 163 3 0) 137 0 = nI (c 0) := k0.1
  have k4' : (up2 I 163 3 0) 137 4 = nI (c 4) := k4.1
  by_cases p1 : bl x1 (c 4)
  · by_cases p2 : bl x2 12
    · by_cases p3 : bl x3 (c 0)
      · by_cases p4 : bd x4 0 200
        · have p1' := p1
          have p2' := p2
          have p3' := p3
          have p4' := p4
          obtain ⟨k, rfl, hk⟩ := p1'
          obtain ⟨n, rfl, hn⟩ := p2'
          obtain ⟨p, rfl, hp⟩ := p3'
          obtain ⟨y, rfl, -, hy⟩ := p4'
          obtain ⟨I1, L1, a1, a2, a3, a4, -, a6⟩ := c_set (E := E) (w := w) (y := y) hG qc'.cw hy hk
          obtain ⟨v, v1, v2⟩ := c_sen (E := E) (w := w) (n := n) hG a3 a4 hn
          have pw := f_plW (E := E) (w := w) (L := L1) (Q := Q) (k := k) (a := n) (by omega) hn a3.2.2.2.2.2.2.1
          have st := zb_c ((a4 n hn).2 p (by omega))
          have sn := zb_c (v1 p (by omega))
          generalize ev : (if x5 = 0 then zb (stdA (I 137) c y k n p) else zb (senK (I 137) c y (knd (I 137) k n) p)) = r
          have r01 : r = 0 ∨ r = 1 := by
            rw [← ev]; split
            · exact zb_01 _
            · exact zb_01 _
          have hc : F_X11_stands E (rr w 136) (nI k) (nI n) (nI p) (nI y) x5 (Hw E w I L Q) = rtI r (Hw E w I1 L1 Q) := by
            unfold F_X11_stands
            simp (disch := omega) only [Option.bind_some, Option.map_some, Option.join, cI_r, cL_r, cV_r, xI_r, xL_r, xV_r, xI_t, xL_t, xV_t, lt_r, rtZ_0, rtZ_1, rtZ_zb, o136, f_needWalker e4 (show c 4 < 2 ^ 31 by omega), nd_t p1, f_needName, nd_t p2, f_needPlace e0 (show c 0 < 2 ^ 31 by omega), nd_t p3, f_needYear, nd_t p4, a6, gf136_4, o40, pw, v2, f_isIn, st, sn]
            rw [← ev]
            split <;> rfl
          have mw := MW.of qc' (v := r.toInt64) a1
          have wf : WfT (up2 I1 163 3 0 137) c := by rw [mw.1]; exact mw.2.1
          have m1' := m_standsAt (E := E) (w := w) (I := up2 I1 163 3 0) (L := up2 L1 164 0 r.toInt64) (Q := Q) (y := y) (k := k) (n := n) (p := p) hG wf hk hn
          have m2' := m_isSeenAt (E := E) (w := w) (I := up2 I1 163 3 0) (L := up2 L1 164 0 r.toInt64) (Q := Q) (y := y) (k := k) (n := n) (p := p) hG wf hk hn
          have k0'' : (up2 I1 163 3 0) 137 0 = nI (c 0) := by rw [mw.1]; exact k0.1
          have k4'' : (up2 I1 163 3 0) 137 4 = nI (c 4) := by rw [mw.1]; exact k4.1
          rw [mw.1] at m1' m2'
          refine OpI_ok qc' a1 a2 MF.rf mw ?_ ?_
          · show F_L_stands E (rr w 136) (nI k) (nI n) (nI p) (nI y) x5 (rr w 164) (Hw E w I L Q) = _
            unfold F_L_stands
            simp only [Option.bind_some, Option.map_some, Option.join, cI_r, cL_r, cV_r, xI_r, xL_r, xV_r, xI_t, xL_t, xV_t, lt_r, rtZ_0, rtZ_1, rtZ_zb, o136, hc, pa164, ix01]
            rcases r01 with e | e
            · rw [e, if_pos rfl]; rfl
            · rw [e, if_neg (by decide)]; rfl
          · show F_X12_stands E (rr w 163) (nI k) (nI n) (nI p) (nI y) x5 _ = _
            unfold F_X12_stands
            simp (disch := omega) only [Option.bind_some, Option.map_some, Option.join, cI_r, cL_r, cV_r, xI_r, xL_r, xV_r, xI_t, xL_t, xV_t, lt_r, rtZ_0, rtZ_1, rtZ_zb, pf163_3, o163, f_isWalker k4'' (show c 4 < 2 ^ 30 by omega), zi_t p1, f_isName, zi_t p2, f_isPlace k0'' (show c 0 < 2 ^ 30 by omega), zn_t p3, f_isYear, zn_t p4, m1', m2']
            rw [← ev]
            split <;> rfl
        · refine OpI_no (k := 2) (b := 0) q0 (by decide) ?_ ?_
          · show F_L_stands E (rr w 136) x1 x2 x3 x4 x5 (rr w 164) (Hw E w I L Q) = _
            unfold F_L_stands F_X11_stands
            simp only [Option.bind_some, Option.map_some, Option.join, cI_r, cL_r, cV_r, xI_r, xL_r, xV_r, xI_t, xL_t, xV_t, lt_r, rtZ_0, rtZ_1, rtZ_zb, o136, f_needWalker e4 (show c 4 < 2 ^ 31 by omega), nd_t p1, f_needName, nd_t p2, f_needPlace e0 (show c 0 < 2 ^ 31 by omega), nd_t p3, f_needYear, nd_f p4, if_true]
          · show F_X12_stands E (rr w 163) x1 x2 x3 x4 x5 _ = _
            unfold F_X12_stands
            simp only [Option.bind_some, Option.map_some, Option.join, cI_r, cL_r, cV_r, xI_r, xL_r, xV_r, xI_t, xL_t, xV_t, lt_r, rtZ_0, rtZ_1, rtZ_zb, pf163_3, o163, f_isWalker k4' (show c 4 < 2 ^ 30 by omega), zi_t p1, f_isName, zi_t p2, f_isPlace k0' (show c 0 < 2 ^ 30 by omega), zn_t p3, f_isYear, zn_f p4, f_fell]
      · refine OpI_no (k := 1) (b := 0) q0 (by decide) ?_ ?_
        · show F_L_stands E (rr w 136) x1 x2 x3 x4 x5 (rr w 164) (Hw E w I L Q) = _
          unfold F_L_stands F_X11_stands
          simp only [Option.bind_some, Option.map_some, Option.join, cI_r, cL_r, cV_r, xI_r, xL_r, xV_r, xI_t, xL_t, xV_t, lt_r, rtZ_0, rtZ_1, rtZ_zb, o136, f_needWalker e4 (show c 4 < 2 ^ 31 by omega), nd_t p1, f_needName, nd_t p2, f_needPlace e0 (show c 0 < 2 ^ 31 by omega), nd_f p3, String.reduceEq, if_false, if_true]
        · show F_X12_stands E (rr w 163) x1 x2 x3 x4 x5 _ = _
          unfold F_X12_stands
          simp only [Option.bind_some, Option.map_some, Option.join, cI_r, cL_r, cV_r, xI_r, xL_r, xV_r, xI_t, xL_t, xV_t, lt_r, rtZ_0, rtZ_1, rtZ_zb, pf163_3, o163, f_isWalker k4' (show c 4 < 2 ^ 30 by omega), zi_t p1, f_isName, zi_t p2, f_isPlace k0' (show c 0 < 2 ^ 30 by omega), zn_f p3, f_fell]
    · refine OpI_no (k := 1) (b := 0) q0 (by decide) ?_ ?_
      · show F_L_stands E (rr w 136) x1 x2 x3 x4 x5 (rr w 164) (Hw E w I L Q) = _
        unfold F_L_stands F_X11_stands
        simp only [Option.bind_some, Option.map_some, Option.join, cI_r, cL_r, cV_r, xI_r, xL_r, xV_r, xI_t, xL_t, xV_t, lt_r, rtZ_0, rtZ_1, rtZ_zb, o136, f_needWalker e4 (show c 4 < 2 ^ 31 by omega), nd_t p1, f_needName, nd_f p2, String.reduceEq, if_false, if_true]
      · show F_X12_stands E (rr w 163) x1 x2 x3 x4 x5 _ = _
        unfold F_X12_stands
        simp only [Option.bind_some, Option.map_some, Option.join, cI_r, cL_r, cV_r, xI_r, xL_r, xV_r, xI_t, xL_t, xV_t, lt_r, rtZ_0, rtZ_1, rtZ_zb, pf163_3, o163, f_isWalker k4' (show c 4 < 2 ^ 30 by omega), zi_t p1, f_isName, zi_f p2, f_fell]
  · refine OpI_no (k := 1) (b := 0) q0 (by decide) ?_ ?_
    · show F_L_stands E (rr w 136) x1 x2 x3 x4 x5 (rr w 164) (Hw E w I L Q) = _
      unfold F_L_stands F_X11_stands
      simp only [Option.bind_some, Option.map_some, Option.join, cI_r, cL_r, cV_r, xI_r, xL_r, xV_r, xI_t, xL_t, xV_t, lt_r, rtZ_0, rtZ_1, rtZ_zb, o136, f_needWalker e4 (show c 4 < 2 ^ 31 by omega), nd_f p1, String.reduceEq, if_false, if_true]
    · show F_X12_stands E (rr w 163) x1 x2 x3 x4 x5 _ = _
      unfold F_X12_stands
      simp only [Option.bind_some, Option.map_some, Option.join, cI_r, cL_r, cV_r, xI_r, xL_r, xV_r, xI_t, xL_t, xV_t, lt_r, rtZ_0, rtZ_1, rtZ_zb, pf163_3, o163, f_isWalker k4' (show c 4 < 2 ^ 30 by omega), zi_f p1, f_fell]
end
