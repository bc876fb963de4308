/-! hangs -/
section
variable {E : Ev} {w : Wo} {I I1 I2 : Nat → Nat → Int32} {L L1 L2 : Nat → Nat → Int64} {Q Q1 Q2 : Nat → Nat → Option Nat} {c : Nat → Nat} {T : Ro} {y : Nat}
theorem sh2h {s : Nat} (h : s < 2 ^ 31) : nI s >>> ((2 : Int32) &&& 31) = nI (s / 4) := pk_shrN h ((2 : Int32) &&& 31) 2 (by decide)
/-- one who stands at the place, facing along a way of that year, and gets there or not -/
def hgP (T : Ro) (c : Nat → Nat) (y k z t g p : Nat) (x : Int32) (j : Nat) : Prop := spl T (2 * j + 1) = nI p ∧ thr0 T c y ((2 * j + 1) / 4) ∧ zb (rgt T c y k z (2 * j + 1) t g) = x
theorem c_hangs34 {z k t g p : Nat} {x : Int32} (hG : 100000 ≤ E.2.2.1) (h : CW I L Q T c) (hw : WC I L Q T c y k) (hg : Gnd I L T c y k) (hz : z < c 5) (ht : T (764 + 173 * z) = nI t) (t10 : t ≤ 10) (eg : T (762 + 173 * z) = nI g) (g40 : g < 40) (hp : p < 40) : ∃ I' L' Q', CF I I' L L' Q Q' ∧ CW I' L' Q' T c ∧ L_X11_hangs_34 E (rr w 136) (nI z) (nI p) x E.2.2.1 0 1 (Hw E w I L Q) = rtI (nI (cntP (hgP T c y k z t g p x) (2 * c 1))) (Hw E w I' L' Q') := by
  have k1 : c 1 ≤ 60 := (h.2.1.1 1 (by decide)).2
  have ee1 := (h.2.1.1 1 (by decide)).1
  generalize hP : hgP T c y k z t g p x = P
  refine lpK2 (σ := (Nat → Nat → Int32) × (Nat → Nat → Int64) × (Nat → Nat → Option Nat)) (Lp := fun g' i s => L_X11_hangs_34 E (rr w 136) (nI z) (nI p) x g' (nI (cntP P i)) (nI (2 * i + 1)) (Hw E w s.1 s.2.1 s.2.2)) (K := fun s => rtI (nI (cntP P (2 * c 1))) (Hw E w s.1 s.2.1 s.2.2)) (Iv := fun i s => CF I s.1 L s.2.1 Q s.2.2 ∧ CW s.1 s.2.1 s.2.2 T c ∧ WC s.1 s.2.1 s.2.2 T c y k ∧ Gnd s.1 s.2.1 T c y k) (N := 2 * c 1) (g := E.2.2.1) (i := 0) (s := (I, L, Q)) ?_ ?_ ?_ (by omega) (by omega) ⟨CF.rf, h, hw, hg⟩
  · rintro ⟨I1, L1, Q1⟩ ⟨z1, z2, z3, z4⟩ ee
    exact ⟨I1, L1, Q1, z1, z2, ee⟩
  · rintro g' i ⟨I1, L1, Q1⟩ hi ⟨z1, z2, z3, z4⟩
    dsimp only at *
    have e1 : I1 0 3 = nI (c 1) := z2.2.2.1.2.1.1.trans ee1
    have hs : 2 * i + 1 < 4 * c 1 := by omega
    obtain ⟨p0, ep, hp0, e7⟩ := spl_n z2.2.1 z2.2.2.1 hs
    have k0 : c 0 ≤ 40 := (h.2.1.1 0 (by decide)).2
    have mu := MapY_use z3.2.2.1 z3.2.2.2.1
    have wy := zb_c (mu.2.1.1 ((2 * i + 1) / 4) (by omega))
    obtain ⟨I2, L2, Q2, b1, b2, b3, b4, b5⟩ := c_getsThere (E := E) (w := w) (z := z) (t := t) (s0 := 2 * i + 1) hG z2 z3 z4 hz ht t10 eg g40 hs
    have st : L_X11_hangs_34 E (rr w 136) (nI z) (nI p) x (g' + 1) (nI (cntP P i)) (nI (2 * i + 1)) (Hw E w I1 L1 Q1) = if ¬ nI p0 = nI p then L_X11_hangs_34 E (rr w 136) (nI z) (nI p) x g' (nI (cntP P i)) (nI (2 * (i + 1) + 1)) (Hw E w I1 L1 Q1) else if zb (thr0 T c y ((2 * i + 1) / 4)) = 0 then L_X11_hangs_34 E (rr w 136) (nI z) (nI p) x g' (nI (cntP P i)) (nI (2 * (i + 1) + 1)) (Hw E w I1 L1 Q1) else if ¬ zb (rgt T c y k z (2 * i + 1) t g) = x then L_X11_hangs_34 E (rr w 136) (nI z) (nI p) x g' (nI (cntP P i)) (nI (2 * (i + 1) + 1)) (Hw E w I2 L2 Q2) else L_X11_hangs_34 E (rr w 136) (nI z) (nI p) x g' (nI (cntP P i + 1)) (nI (2 * (i + 1) + 1)) (Hw E w I2 L2 Q2) := by
      rw [L_X11_hangs_34]
      simp (disch := omega) only [Option.bind_some, Option.map_some, Option.join, cI_r, cL_r, cV_r, xI_r, xL_r, xV_r, xI_t, xL_t, xV_t, lt_r, rtZ_0, rtZ_1, rtZ_zb, sh2h]
      simp (disch := omega) only [Option.bind_some, Option.map_some, Option.join, cI_r, cL_r, cV_r, xI_r, xL_r, xV_r, xI_t, xL_t, xV_t, lt_r, rtZ_0, rtZ_1, rtZ_zb, m4, m2, pk_mul, nI_add, nI_1, nI_leI, if_neg, gf136_0, gf0_3, e1, gf0_8, ga7, ix_n, e7, gf136_3, gf32_4, f_isIn, wy, gf136_4, o40, b5, show 2 * i + 1 + 2 = 2 * (i + 1) + 1 by omega]
    have hPi : P i ↔ p0 = p ∧ thr0 T c y ((2 * i + 1) / 4) ∧ zb (rgt T c y k z (2 * i + 1) t g) = x := by
      rw [← hP]
      unfold hgP
      rw [ep, nI_eq (by omega) (by omega)]
    by_cases c1 : p0 = p
    · rw [if_neg (not_not_intro (by rw [c1]))] at st
      by_cases c2 : thr0 T c y ((2 * i + 1) / 4)
      · rw [zi_t c2] at st
        refine ⟨(I2, L2, Q2), ⟨z1.tr b1, b2, b3, b4 k z4⟩, ?_⟩
        show L_X11_hangs_34 E (rr w 136) (nI z) (nI p) x (g' + 1) (nI (cntP P i)) (nI (2 * i + 1)) (Hw E w I1 L1 Q1) = L_X11_hangs_34 E (rr w 136) (nI z) (nI p) x g' (nI (cntP P (i + 1))) (nI (2 * (i + 1) + 1)) (Hw E w I2 L2 Q2)
        by_cases c3 : zb (rgt T c y k z (2 * i + 1) t g) = x
        · rw [st, if_neg (not_not_intro c3), cntP_t (hPi.mpr ⟨c1, c2, c3⟩)]
        · rw [st, if_pos c3, cntP_f (fun z => c3 (hPi.mp z).2.2)]
      · rw [zi_f c2] at st
        refine ⟨(I1, L1, Q1), ⟨z1, z2, z3, z4⟩, ?_⟩
        show L_X11_hangs_34 E (rr w 136) (nI z) (nI p) x (g' + 1) (nI (cntP P i)) (nI (2 * i + 1)) (Hw E w I1 L1 Q1) = L_X11_hangs_34 E (rr w 136) (nI z) (nI p) x g' (nI (cntP P (i + 1))) (nI (2 * (i + 1) + 1)) (Hw E w I1 L1 Q1)
        rw [st, cntP_f (fun z => c2 (hPi.mp z).2.1)]
    · rw [if_pos (fun e => c1 ((nI_eq (by omega) (by omega)).mp e))] at st
      refine ⟨(I1, L1, Q1), ⟨z1, z2, z3, z4⟩, ?_⟩
      show L_X11_hangs_34 E (rr w 136) (nI z) (nI p) x (g' + 1) (nI (cntP P i)) (nI (2 * i + 1)) (Hw E w I1 L1 Q1) = L_X11_hangs_34 E (rr w 136) (nI z) (nI p) x g' (nI (cntP P (i + 1))) (nI (2 * (i + 1) + 1)) (Hw E w I1 L1 Q1)
      rw [st, cntP_f (fun z => c1 (hPi.mp z).1)]
  · rintro g' ⟨I1, L1, Q1⟩ ⟨z1, z2, z3, z4⟩
    dsimp only at *
    have e1 : I1 0 3 = nI (c 1) := z2.2.2.1.2.1.1.trans ee1
    show L_X11_hangs_34 E (rr w 136) (nI z) (nI p) x (g' + 1) (nI (cntP P (2 * c 1))) (nI (2 * (2 * c 1) + 1)) (Hw E w I1 L1 Q1) = _
    rw [L_X11_hangs_34]
    simp (disch := omega) only [Option.bind_some, Option.map_some, Option.join, cI_r, cL_r, cV_r, xI_r, xL_r, xV_r, xI_t, xL_t, xV_t, lt_r, rtZ_0, rtZ_1, rtZ_zb, m4, pk_mul, nI_leI, if_pos, gf136_0, gf0_3, e1]
theorem m_hangs55 {z k t g p : Nat} {x : Int32} (hG : 100000 ≤ E.2.2.1) (h : MW I L T c) (hy : y ≤ 200) (hk : k < c 4) (hz : z < c 5) (ht : T (764 + 173 * z) = nI t) (t10 : t ≤ 10) (eg : T (762 + 173 * z) = nI g) (g40 : g < 40) (hp : p < 40) : ∃ I' L', MF I I' L L' ∧ MW I' L' T c ∧ L_X12_hangs_55 E (rr w 163) (nI z) (nI k) (nI p) (nI y) x E.2.2.1 0 1 (Hw E w I L Q) = rtI (nI (cntP (hgP T c y k z t g p x) (2 * c 1))) (Hw E w I' L' Q) := by
  have k1 : c 1 ≤ 60 := (h.2.1.1 1 (by decide)).2
  have k0 : c 0 ≤ 40 := (h.2.1.1 0 (by decide)).2
  have ee1 := (h.2.1.1 1 (by decide)).1
  generalize hP : hgP T c y k z t g p x = P
  refine lpK2 (σ := (Nat → Nat → Int32) × (Nat → Nat → Int64)) (Lp := fun g' i s => L_X12_hangs_55 E (rr w 163) (nI z) (nI k) (nI p) (nI y) x g' (nI (cntP P i)) (nI (2 * i + 1)) (Hw E w s.1 s.2 Q)) (K := fun s => rtI (nI (cntP P (2 * c 1))) (Hw E w s.1 s.2 Q)) (Iv := fun i s => MF I s.1 L s.2 ∧ MW s.1 s.2 T c) (N := 2 * c 1) (g := E.2.2.1) (i := 0) (s := (I, L)) ?_ ?_ ?_ (by omega) (by omega) ⟨MF.rf, h⟩
  · rintro ⟨I1, L1⟩ ⟨z1, z2⟩ ee
    exact ⟨I1, L1, z1, z2, ee⟩
  · rintro g' i ⟨I1, L1⟩ hi ⟨z1, z2⟩
    dsimp only at *
    have hs : 2 * i + 1 < 4 * c 1 := by omega
    obtain ⟨p0, ep, hp0⟩ := spl_w z2.2.1 hs
    have th : (I1 137 (94 + 6 * ((2 * i + 1) / 4)) ≤ nI y ∧ nI y ≤ I1 137 (95 + 6 * ((2 * i + 1) / 4))) ↔ thr0 T c y ((2 * i + 1) / 4) := by
      rw [z2.1]
      exact ⟨fun g => ⟨by omega, g⟩, fun g => g.2⟩
    have dv : dvI (nI (2 * i + 1)) 4 = some (nI ((2 * i + 1) / 4)) := by
      rw [m4]; exact dv4 (by omega)
    obtain ⟨I2, L2, b1, b2, b3⟩ := m_isRight (E := E) (w := w) (Q := Q) (y := y) (k := k) (z := z) (t := t) (s0 := 2 * i + 1) hG z2 hy hk hz ht t10 eg g40 hs
    have epl := f_placeOf (E := E) (w := w) (I := I1) (L := L1) (Q := Q) (s := 2 * i + 1) (by omega)
    rw [z2.1, ep] at epl
    have e1 : I1 137 1 = nI (c 1) := by rw [z2.1]; exact ee1
    have st : L_X12_hangs_55 E (rr w 163) (nI z) (nI k) (nI p) (nI y) x (g' + 1) (nI (cntP P i)) (nI (2 * i + 1)) (Hw E w I1 L1 Q) = if ¬ nI p0 = nI p then L_X12_hangs_55 E (rr w 163) (nI z) (nI k) (nI p) (nI y) x g' (nI (cntP P i)) (nI (2 * (i + 1) + 1)) (Hw E w I1 L1 Q) else if zb (thr0 T c y ((2 * i + 1) / 4)) = 0 then L_X12_hangs_55 E (rr w 163) (nI z) (nI k) (nI p) (nI y) x g' (nI (cntP P i)) (nI (2 * (i + 1) + 1)) (Hw E w I1 L1 Q) else if ¬ zb (rgt T c y k z (2 * i + 1) t g) = x then L_X12_hangs_55 E (rr w 163) (nI z) (nI k) (nI p) (nI y) x g' (nI (cntP P i)) (nI (2 * (i + 1) + 1)) (Hw E w I2 L2 Q) else L_X12_hangs_55 E (rr w 163) (nI z) (nI k) (nI p) (nI y) x g' (nI (cntP P i + 1)) (nI (2 * (i + 1) + 1)) (Hw E w I2 L2 Q) := by
      rw [L_X12_hangs_55]
      simp (disch := omega) only [Option.bind_some, Option.map_some, Option.join, cI_r, cL_r, cV_r, xI_r, xL_r, xV_r, xI_t, xL_t, xV_t, lt_r, rtZ_0, rtZ_1, rtZ_zb, dv, Int32.add_zero]
      simp (disch := omega) only [Option.bind_some, Option.map_some, Option.join, cI_r, cL_r, cV_r, xI_r, xL_r, xV_r, xI_t, xL_t, xV_t, lt_r, rtZ_0, rtZ_1, rtZ_zb, m4, m2, pk_mul, nI_add, nI_1, nI_leI, if_neg, gf163_0, ga137, show ix 1 2988 = some 1 from rfl, e1, o163, epl, f_isThereM, zb_c th, b3, show 2 * i + 1 + 2 = 2 * (i + 1) + 1 by omega]
    have hPi : P i ↔ p0 = p ∧ thr0 T c y ((2 * i + 1) / 4) ∧ zb (rgt T c y k z (2 * i + 1) t g) = x := by
      rw [← hP]
      unfold hgP
      rw [ep, nI_eq (by omega) (by omega)]
    by_cases c1 : p0 = p
    · rw [if_neg (not_not_intro (by rw [c1]))] at st
      by_cases c2 : thr0 T c y ((2 * i + 1) / 4)
      · rw [zi_t c2] at st
        refine ⟨(I2, L2), ⟨z1.tr b1, b2⟩, ?_⟩
        show L_X12_hangs_55 E (rr w 163) (nI z) (nI k) (nI p) (nI y) x (g' + 1) (nI (cntP P i)) (nI (2 * i + 1)) (Hw E w I1 L1 Q) = L_X12_hangs_55 E (rr w 163) (nI z) (nI k) (nI p) (nI y) x g' (nI (cntP P (i + 1))) (nI (2 * (i + 1) + 1)) (Hw E w I2 L2 Q)
        by_cases c3 : zb (rgt T c y k z (2 * i + 1) t g) = x
        · rw [st, if_neg (not_not_intro c3), cntP_t (hPi.mpr ⟨c1, c2, c3⟩)]
        · rw [st, if_pos c3, cntP_f (fun z => c3 (hPi.mp z).2.2)]
      · rw [zi_f c2] at st
        refine ⟨(I1, L1), ⟨z1, z2⟩, ?_⟩
        show L_X12_hangs_55 E (rr w 163) (nI z) (nI k) (nI p) (nI y) x (g' + 1) (nI (cntP P i)) (nI (2 * i + 1)) (Hw E w I1 L1 Q) = L_X12_hangs_55 E (rr w 163) (nI z) (nI k) (nI p) (nI y) x g' (nI (cntP P (i + 1))) (nI (2 * (i + 1) + 1)) (Hw E w I1 L1 Q)
        rw [st, cntP_f (fun z => c2 (hPi.mp z).2.1)]
    · rw [if_pos (fun e => c1 ((nI_eq (by omega) (by omega)).mp e))] at st
      refine ⟨(I1, L1), ⟨z1, z2⟩, ?_⟩
      show L_X12_hangs_55 E (rr w 163) (nI z) (nI k) (nI p) (nI y) x (g' + 1) (nI (cntP P i)) (nI (2 * i + 1)) (Hw E w I1 L1 Q) = L_X12_hangs_55 E (rr w 163) (nI z) (nI k) (nI p) (nI y) x g' (nI (cntP P (i + 1))) (nI (2 * (i + 1) + 1)) (Hw E w I1 L1 Q)
      rw [st, cntP_f (fun z => c1 (hPi.mp z).1)]
  · rintro g' ⟨I1, L1⟩ ⟨z1, z2⟩
    dsimp only at *
    have e1 : I1 137 1 = nI (c 1) := by rw [z2.1]; exact ee1
    show L_X12_hangs_55 E (rr w 163) (nI z) (nI k) (nI p) (nI y) x (g' + 1) (nI (cntP P (2 * c 1))) (nI (2 * (2 * c 1) + 1)) (Hw E w I1 L1 Q) = _
    rw [L_X12_hangs_55]
    simp (disch := omega) only [Option.bind_some, Option.map_some, Option.join, cI_r, cL_r, cV_r, xI_r, xL_r, xV_r, xI_t, xL_t, xV_t, lt_r, rtZ_0, rtZ_1, rtZ_zb, m4, pk_mul, nI_leI, if_pos, gf163_0, ga137, show ix 1 2988 = some 1 from rfl, e1]
theorem op_hangs (hG : 100000 ≤ E.2.2.1) (q : Inv w I L Q) (x1 x2 x3 x4 x5 : Int32) : OpI E w (fun h => F_L_hangs E (rr w 136) x1 x2 x3 x4 x5 (rr w 164) h) (fun h => F_X12_hangs E (rr w 163) x1 x2 x3 x4 x5 h) I L Q := by
  have q0 := q
  obtain ⟨c, qc⟩ := q
  have qc' : InvC w I L Q c := qc
  obtain ⟨q1, q2, q3, q4, q5, q6, q7, q8, q9, q10, q11, q12, q13⟩ := qc
  have hC := q1.1
  have k0 := hC 0 (by decide)
  have k4 := hC 4 (by decide)
  have k5 := hC 5 (by decide)
  simp only [mx] at k0 k4 k5
  have e0 : I 0 0 = nI (c 0) := q2.1.1.trans k0.1
  have e4 : I 15 2 = nI (c 4) := q3.2.1.1.trans k4.1
  have e5 : I 22 0 = nI (c 5) := q4.1.1.trans k5.1
  have k0' : (up2 I 163 3 0) 137 0 = nI (c 0) := k0.1
  have k4' : (up2 I 163 3 0) 137 4 = nI (c 4) := k4.1
  have k5' : (up2 I 163 3 0) 137 5 = nI (c 5) := k5.1
  have c0' : c 0 < 2 ^ 31 := by omega
  have c4' : c 4 < 2 ^ 31 := by omega
  have c5' : c 5 < 2 ^ 31 := by omega
  have d0' : c 0 < 2 ^ 30 := by omega
  have d4' : c 4 < 2 ^ 30 := by omega
  have d5' : c 5 < 2 ^ 30 := by omega
  by_cases p1 : bl x1 (c 5)
  · by_cases p2 : bl x2 (c 4)
    · by_cases p3 : bl x3 (c 0)
      · by_cases p4 : bd x4 0 200
        · have p1' := p1
          have p2' := p2
          have p3' := p3
          have p4' := p4
          obtain ⟨z, rfl, hz⟩ := p1'
          obtain ⟨k, rfl, hk⟩ := p2'
          obtain ⟨p, rfl, hp⟩ := p3'
          obtain ⟨y, rfl, -, hy⟩ := p4'
          obtain ⟨t, et, ht⟩ := say_n q1 hz
          obtain ⟨g, eg, hg⟩ := goal_n q1 hz
          obtain ⟨I1, L1, a1, a2, a3, a4, -, a6⟩ := c_set (E := E) (w := w) (y := y) hG qc'.cw hy hk
          obtain ⟨I2, L2, Q2, b1, b2, b3⟩ := c_hangs34 (E := E) (w := w) (z := z) (t := t) (p := p) (x := x5) hG a2 a3 a4 hz et ht eg hg (by omega)
          have cf := a1.tr b1
          have hc : F_X11_hangs E (rr w 136) (nI z) (nI k) (nI p) (nI y) x5 (Hw E w I L Q) = rtI (nI (cntP (hgP (I 137) c y k z t g p x5) (2 * c 1))) (Hw E w I2 L2 Q2) := by
            unfold F_X11_hangs
            simp (disch := omega) only [Option.bind_some, Option.map_some, Option.join, cI_r, cL_r, cV_r, xI_r, xL_r, xV_r, xI_t, xL_t, xV_t, lt_r, rtZ_0, rtZ_1, rtZ_zb, o136, f_needTelling e5 c5', nd_t p1, f_needWalker e4 c4', nd_t p2, f_needPlace e0 c0', nd_t p3, f_needYear, nd_t p4, a6, b3]
          have mw := MW.of qc' (v := (nI (cntP (hgP (I 137) c y k z t g p x5) (2 * c 1))).toInt64) cf
          obtain ⟨I3, L3, d1, d2, d3⟩ := m_hangs55 (E := E) (w := w) (Q := Q2) (y := y) (k := k) (z := z) (t := t) (p := p) (x := x5) hG mw hy hk hz et ht eg hg (by omega)
          refine OpI_ok qc' cf b2 d1 d2 ?_ ?_
          · show F_L_hangs E (rr w 136) (nI z) (nI k) (nI p) (nI y) x5 (rr w 164) (Hw E w I L Q) = _
            unfold F_L_hangs
            simp only [Option.bind_some, Option.map_some, Option.join, cI_r, cL_r, cV_r, xI_r, xL_r, xV_r, xI_t, xL_t, xV_t, lt_r, rtZ_0, rtZ_1, rtZ_zb, o136, hc, pa164, ix01]
          · show F_X12_hangs E (rr w 163) (nI z) (nI k) (nI p) (nI y) x5 _ = _
            unfold F_X12_hangs
            have k0'' : (up2 I2 163 3 0) 137 0 = nI (c 0) := by rw [mw.1]; exact k0.1
            have k4'' : (up2 I2 163 3 0) 137 4 = nI (c 4) := by rw [mw.1]; exact k4.1
            have k5'' : (up2 I2 163 3 0) 137 5 = nI (c 5) := by rw [mw.1]; exact k5.1
            simp (disch := omega) only [Option.bind_some, Option.map_some, Option.join, cI_r, cL_r, cV_r, xI_r, xL_r, xV_r, xI_t, xL_t, xV_t, lt_r, rtZ_0, rtZ_1, rtZ_zb, pf163_3, o163, f_isTelling k5'' d5', zi_t p1, f_isWalker k4'' d4', zi_t p2, f_isPlace k0'' d0', zn_t p3, f_isYear, zn_t p4, d3]
        · refine OpI_no (k := 2) (b := 0) q0 (by decide) ?_ ?_
          · show F_L_hangs E (rr w 136) x1 x2 x3 x4 x5 (rr w 164) (Hw E w I L Q) = _
            unfold F_L_hangs F_X11_hangs
            simp only [Option.bind_some, Option.map_some, Option.join, cI_r, cL_r, cV_r, xI_r, xL_r, xV_r, xI_t, xL_t, xV_t, lt_r, rtZ_0, rtZ_1, rtZ_zb, o136, f_needTelling e5 c5', nd_t p1, f_needWalker e4 c4', nd_t p2, f_needPlace e0 c0', nd_t p3, f_needYear, nd_f p4, if_true]
          · show F_X12_hangs E (rr w 163) x1 x2 x3 x4 x5 _ = _
            unfold F_X12_hangs
            simp only [Option.bind_some, Option.map_some, Option.join, cI_r, cL_r, cV_r, xI_r, xL_r, xV_r, xI_t, xL_t, xV_t, lt_r, rtZ_0, rtZ_1, rtZ_zb, pf163_3, o163, f_isTelling k5' d5', zi_t p1, f_isWalker k4' d4', zi_t p2, f_isPlace k0' d0', zn_t p3, f_isYear, zn_f p4, f_fails]
      · refine OpI_no (k := 1) (b := 0) q0 (by decide) ?_ ?_
        · show F_L_hangs E (rr w 136) x1 x2 x3 x4 x5 (rr w 164) (Hw E w I L Q) = _
          unfold F_L_hangs F_X11_hangs
          simp only [Option.bind_some, Option.map_some, Option.join, cI_r, cL_r, cV_r, xI_r, xL_r, xV_r, xI_t, xL_t, xV_t, lt_r, rtZ_0, rtZ_1, rtZ_zb, o136, f_needTelling e5 c5', nd_t p1, f_needWalker e4 c4', nd_t p2, f_needPlace e0 c0', nd_f p3, String.reduceEq, if_false, if_true]
        · show F_X12_hangs E (rr w 163) x1 x2 x3 x4 x5 _ = _
          unfold F_X12_hangs
          simp only [Option.bind_some, Option.map_some, Option.join, cI_r, cL_r, cV_r, xI_r, xL_r, xV_r, xI_t, xL_t, xV_t, lt_r, rtZ_0, rtZ_1, rtZ_zb, pf163_3, o163, f_isTelling k5' d5', zi_t p1, f_isWalker k4' d4', zi_t p2, f_isPlace k0' d0', zn_f p3, f_fails]
    · refine OpI_no (k := 1) (b := 0) q0 (by decide) ?_ ?_
      · show F_L_hangs E (rr w 136) x1 x2 x3 x4 x5 (rr w 164) (Hw E w I L Q) = _
        unfold F_L_hangs F_X11_hangs
        simp only [Option.bind_some, Option.map_some, Option.join, cI_r, cL_r, cV_r, xI_r, xL_r, xV_r, xI_t, xL_t, xV_t, lt_r, rtZ_0, rtZ_1, rtZ_zb, o136, f_needTelling e5 c5', nd_t p1, f_needWalker e4 c4', nd_f p2, String.reduceEq, if_false, if_true]
      · show F_X12_hangs E (rr w 163) x1 x2 x3 x4 x5 _ = _
        unfold F_X12_hangs
        simp only [Option.bind_some, Option.map_some, Option.join, cI_r, cL_r, cV_r, xI_r, xL_r, xV_r, xI_t, xL_t, xV_t, lt_r, rtZ_0, rtZ_1, rtZ_zb, pf163_3, o163, f_isTelling k5' d5', zi_t p1, f_isWalker k4' d4', zi_f p2, f_fails]
  · refine OpI_no (k := 1) (b := 0) q0 (by decide) ?_ ?_
    · show F_L_hangs E (rr w 136) x1 x2 x3 x4 x5 (rr w 164) (Hw E w I L Q) = _
      unfold F_L_hangs F_X11_hangs
      simp only [Option.bind_some, Option.map_some, Option.join, cI_r, cL_r, cV_r, xI_r, xL_r, xV_r, xI_t, xL_t, xV_t, lt_r, rtZ_0, rtZ_1, rtZ_zb, o136, f_needTelling e5 c5', nd_f p1, String.reduceEq, if_false, if_true]
    · show F_X12_hangs E (rr w 163) x1 x2 x3 x4 x5 _ = _
      unfold F_X12_hangs
      simp only [Option.bind_some, Option.map_some, Option.join, cI_r, cL_r, cV_r, xI_r, xL_r, xV_r, xI_t, xL_t, xV_t, lt_r, rtZ_0, rtZ_1, rtZ_zb, pf163_3, o163, f_isTelling k5' d5', zi_f p1, f_fails]
end
