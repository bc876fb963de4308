/-! learned: the reference; the call -/
section
variable {E : Ev} {w : Wo} {I I1 I2 : Nat → Nat → Int32} {L L1 L2 : Nat → Nat → Int64} {Q Q1 Q2 : Nat → Nat → Option Nat} {c : Nat → Nat} {T T' : Ro} {y x κ : Nat}
theorem m_went {k : Nat} (hG : 100000 ≤ E.2.2.1) (h : MW I L T c) (hk : k < c 4) : ∃ I' L', MF I I' L L' ∧ MW I' L' T c ∧ F_X12_isAsWent E (rr w 163) (nI k) (Hw E w I L Q) = rtI (zb (went T c k (c 6))) (Hw E w I' L' Q) := by
  have k6 : c 6 ≤ 30 := (h.2.1.1 6 (by decide)).2
  have k5 : c 5 ≤ 12 := (h.2.1.1 5 (by decide)).2
  unfold F_X12_isAsWent
  refine lpE (σ := (Nat → Nat → Int32) × (Nat → Nat → Int64)) (Lp := fun g i s => L_X12_isAsWent_2 E (rr w 163) (nI k) g (nI i) (Hw E w s.1 s.2 Q)) (Iv := fun i s => (MF I s.1 L s.2 ∧ MW s.1 s.2 T c) ∧ went T c k i) (Post := fun o => ∃ I' L', MF I I' L L' ∧ MW I' L' T c ∧ o = rtI (zb (went T c k (c 6))) (Hw E w I' L' Q)) (N := c 6) ?_ ?_ E.2.2.1 0 (I, L) (by omega) (by omega) ⟨⟨MF.rf, h⟩, fun r hr => absurd hr (by omega)⟩
  · rintro g i ⟨I1, L1⟩ hi ⟨⟨z1, z2⟩, hn⟩
    dsimp only at *
    have e6 : I1 137 6 = nI (c 6) := by rw [z2.1]; exact (h.2.1.1 6 (by decide)).1
    have e27 : I1 137 (2838 + 5 * i) = T (2838 + 5 * i) := by rw [z2.1]
    by_cases p1 : T (2838 + 5 * i) = nI k
    · obtain ⟨z, s, y, p, t, hd⟩ := rec_ex h.2.1 hi
      have hd0 := hd
      obtain ⟨⟨d1, d2⟩, ⟨d3, d4⟩, ⟨d5, d6⟩, ⟨d7, d8⟩, d9, d10⟩ := hd
      obtain ⟨I2, L2, r, I3, f1, f2, f3, f4, -, -, -, f7, f8, f9⟩ := m_last (E := E) (w := w) (Q := Q) (y := y) (k := k) (z := z) (t := t) (s0 := s) hG z2 d6 hk d2 d9 d10 d4 (Or.inl rfl)
      have g1 : I1 137 (2839 + 5 * i) = nI z := by rw [z2.1]; exact d1
      have g2 : I1 137 (2840 + 5 * i) = nI s := by rw [z2.1]; exact d3
      have g3 : I1 137 (2841 + 5 * i) = nI y := by rw [z2.1]; exact d5
      have g5 : I1 137 (764 + 173 * z) = nI t := by rw [z2.1]; exact d9
      have g4 : I3 137 (2842 + 5 * i) = nI p := by rw [f4.1]; exact d7
      have lp := LPr_i (k := k) h.2.1 hd0
      have st : L_X12_isAsWent_2 E (rr w 163) (nI k) (g + 1) (nI i) (Hw E w I1 L1 Q) = if ¬ zb (lsP T c y k z s t p) = 0 then L_X12_isAsWent_2 E (rr w 163) (nI k) g (nI (i + 1)) (Hw E w I3 L2 Q) else rtI 0 (Hw E w I3 L2 Q) := by
        rw [L_X12_isAsWent_2]
        simp (disch := omega) only [Option.bind_some, Option.map_some, Option.join, cI_r, cL_r, cV_r, xI_r, xL_r, xV_r, xI_t, xL_t, xV_t, lt_r, rtZ_0, rtZ_1, rtZ_zb, gf163_0, m2, m3, m4, m5, m6, m2838, pk_mul, nI_add, nI_1, ga137, ix_n, e6, nI_leI, if_neg, e27, p1, if_true, show 2838 + 5 * i + 1 = 2839 + 5 * i by omega, show 2838 + 5 * i + 2 = 2840 + 5 * i by omega, show 2838 + 5 * i + 3 = 2841 + 5 * i by omega, show 2838 + 5 * i + 4 = 2842 + 5 * i by omega, g1, g2, g3, o163, f_sayingsOf, g5, f8, gf163_28, f9, g4, ga153, f7]
      by_cases p2 : lsP T c y k z s t p
      · left
        refine ⟨(I3, L2), ⟨⟨z1.tr f3, f4⟩, fun r' hr' => ?_⟩, ?_⟩
        · by_cases e : r' = i
          · rw [e]; exact fun _ => lp.mpr p2
          · exact hn r' (by omega)
        · show L_X12_isAsWent_2 E (rr w 163) (nI k) (g + 1) (nI i) (Hw E w I1 L1 Q) = _
          rw [st, zn_t p2]
      · right
        refine ⟨I3, L2, z1.tr f3, f4, ?_⟩
        show L_X12_isAsWent_2 E (rr w 163) (nI k) (g + 1) (nI i) (Hw E w I1 L1 Q) = _
        rw [st, zn_f p2, zb_f (fun x => p2 (lp.mp (x i hi p1)))]
    · left
      refine ⟨(I1, L1), ⟨⟨z1, z2⟩, fun r' hr' => ?_⟩, ?_⟩
      · by_cases e : r' = i
        · rw [e]; exact fun x => absurd x p1
        · exact hn r' (by omega)
      · show L_X12_isAsWent_2 E (rr w 163) (nI k) (g + 1) (nI i) (Hw E w I1 L1 Q) = _
        rw [L_X12_isAsWent_2]
        simp (disch := omega) only [Option.bind_some, Option.map_some, Option.join, cI_r, cL_r, cV_r, xI_r, xL_r, xV_r, xI_t, xL_t, xV_t, lt_r, rtZ_0, rtZ_1, rtZ_zb, gf163_0, m5, m6, m2838, pk_mul, nI_add, nI_1, ga137, ix_n, e6, nI_leI, if_neg, e27]
  · rintro g ⟨I1, L1⟩ ⟨⟨z1, z2⟩, hn⟩
    dsimp only at *
    have e6 : I1 137 6 = nI (c 6) := by rw [z2.1]; exact (h.2.1.1 6 (by decide)).1
    refine ⟨I1, L1, z1, z2, ?_⟩
    show L_X12_isAsWent_2 E (rr w 163) (nI k) (g + 1) (nI (c 6)) (Hw E w I1 L1 Q) = _
    rw [L_X12_isAsWent_2, zb_t hn]
    simp (disch := omega) only [Option.bind_some, Option.map_some, Option.join, cI_r, cL_r, cV_r, xI_r, xL_r, xV_r, xI_t, xL_t, xV_t, lt_r, rtZ_0, rtZ_1, rtZ_zb, gf163_0, m6, ga137, ix_n, e6, nI_leI, if_pos]
theorem m_learned62 {k : Nat} (hG : 100000 ≤ E.2.2.1) (h : MW I L T c) (hk : k < c 4) (hx : 650 ≤ x ∧ x < 722) : ∃ I' L', (∀ k, (k < 140 ∨ k = 144 ∨ k = 160 ∨ k = 161 ∨ 165 ≤ k) → k ≠ 137 → I' k = I k) ∧ (∀ i, i ≠ 4 → I' 163 i = I 163 i) ∧ (∀ k, k < 140 ∨ k = 162 ∨ k = 164 → L' k = L k) ∧ (∀ j, j ≠ x → I' 137 j = T j) ∧ ∀ K, L_X12_learned_62 E K (rr w 163) (nI k) (nI x) E.2.2.1 0 0 (Hw E w I L Q) = K (bsum (fun κ => went (lrT T x κ) c k (c 6)) 12) (Hw E w I' L' Q) := by
  generalize hP : (fun κ => went (lrT T x κ) c k (c 6)) = P
  refine lpK2 (ρ := (Int32 → Hp → Rs) → Rs) (σ := (Nat → Nat → Int32) × (Nat → Nat → Int64)) (Lp := fun g i s => fun K => L_X12_learned_62 E K (rr w 163) (nI k) (nI x) g (bsum P i) (nI i) (Hw E w s.1 s.2 Q)) (K := fun s => fun K => K (bsum P 12) (Hw E w s.1 s.2 Q)) (Iv := fun i s => (∀ k, (k < 140 ∨ k = 144 ∨ k = 160 ∨ k = 161 ∨ 165 ≤ k) → k ≠ 137 → s.1 k = I k) ∧ (∀ i, i ≠ 4 → s.1 163 i = I 163 i) ∧ (∀ k, k < 140 ∨ k = 162 ∨ k = 164 → s.2 k = L k) ∧ (∀ j, j ≠ x → s.1 137 j = T j)) (N := 12) (g := E.2.2.1) (i := 0) (s := (I, L)) ?_ ?_ ?_ (by omega) (by omega) ⟨fun _ _ _ => rfl, fun _ _ => rfl, fun _ _ => rfl, fun j _ => by show I 137 j = T j; rw [h.1]⟩
  · rintro ⟨I1, L1⟩ ⟨z1, z2, z3, z4⟩ ee
    exact ⟨I1, L1, z1, z2, z3, z4, fun K => congrFun ee K⟩
  · rintro g i ⟨I1, L1⟩ hi ⟨z1, z2, z3, z4⟩
    dsimp only at *
    generalize eA : up2 (up2 I1 137 x ((1 : Int32) <<< (nI i &&& 31))) 163 4 (-1) = A
    have a1 : ∀ j, j ≠ 137 → j ≠ 163 → A j = I1 j := fun j h1 h2 => by rw [← eA, up2_row _ _ h2, up2_row _ _ h1]
    have a2 : ∀ j, j ≠ 4 → A 163 j = I1 163 j := fun j hj => by rw [← eA, up2_i _ _ _ hj, up2_row _ _ (by decide)]
    have a3 : A 163 4 = -1 := by rw [← eA, up2_s]
    have a4 : A 137 = lrT T x i := by
      funext j
      rw [← eA, up2_row _ _ (by decide)]
      by_cases e : j = x
      · subst e; rw [up2_s, lr_s]
      · rw [up2_i _ _ _ e, lr_o e]; exact z4 j e
    obtain ⟨I2, L2, b1, b2, b3⟩ := m_went (E := E) (w := w) (I := A) (L := L1) (Q := Q) (T := lrT T x i) (c := c) (k := k) hG ⟨a4, WfT_l hx hi h.2.1, Or.inl a3⟩ hk
    have hPi : went (lrT T x i) c k (c 6) ↔ P i := by rw [← hP]
    rw [zb_c hPi] at b3
    refine ⟨(I2, L2), ⟨fun j h1 h2 => ?_, fun j h1 => ?_, fun j h1 => ?_, fun j h1 => ?_⟩, ?_⟩
    · show I2 j = I j
      rw [b1.1 j h1, a1 j h2 (by omega)]; exact z1 j h1 h2
    · show I2 163 j = I 163 j
      rw [b1.2.1 j h1, a2 j h1]; exact z2 j h1
    · show L2 j = L j
      rw [b1.2.2 j h1]; exact z3 j h1
    · show I2 137 j = T j
      rw [b2.1, lr_o h1]
    · funext K
      show L_X12_learned_62 E K (rr w 163) (nI k) (nI x) (g + 1) (bsum P i) (nI i) (Hw E w I1 L1 Q) = L_X12_learned_62 E K (rr w 163) (nI k) (nI x) g (bsum P (i + 1)) (nI (i + 1)) (Hw E w I2 L2 Q)
      rw [L_X12_learned_62, m12, if_neg (nI_ge hi (by decide)), gf163_0, Option.bind_some, pa137, ix_n (show x < 2988 by omega) (by decide), Option.map_some, Option.bind_some, pf163_4, Option.bind_some, eA, o163, Option.bind_some, b3, cI_r, lt_r, nI_1, Int32.or_zero]
      by_cases p : P i
      · rw [zi_t p, bsum_t p]
      · rw [zi_f p, bsum_f p]
  · rintro g ⟨I1, L1⟩ _
    funext K
    show L_X12_learned_62 E K (rr w 163) (nI k) (nI x) (g + 1) (bsum P 12) (nI 12) (Hw E w I1 L1 Q) = _
    rw [L_X12_learned_62, m12, if_pos (nI_le (Nat.le_refl 12) (by decide))]
theorem op_learned (hG : 100000 ≤ E.2.2.1) (q : Inv w I L Q) (x1 x2 : Int32) : OpI E w (fun h => F_L_learned E (rr w 136) x1 x2 (rr w 164) h) (fun h => F_X12_learned E (rr w 163) x1 x2 h) I L Q := by
  have q0 := q
  obtain ⟨c, qc⟩ := q
  have qc' : InvC w I L Q c := qc
  obtain ⟨q1, q2, q3, q4, q5, q6, q7, q8, q9, q10, q11, q12, q13⟩ := qc
  have hC := q1.1
  have k3 := hC 3 (by decide)
  have k4 := hC 4 (by decide)
  simp only [mx] at k3 k4
  have e4 : I 15 2 = nI (c 4) := q3.2.1.1.trans k4.1
  have k4' : (up2 I 163 3 0) 137 4 = nI (c 4) := k4.1
  have c4' : c 4 < 2 ^ 31 := by omega
  have d4' : c 4 < 2 ^ 30 := by omega
  by_cases p1 : bl x1 (c 4)
  · by_cases p2 : bl x2 12
    · have p1' := p1
      have p2' := p2
      obtain ⟨k, rfl, hk⟩ := p1'
      obtain ⟨n, rfl, hn⟩ := p2'
      obtain ⟨tk, etk, htk⟩ := (q1.2.2.2.2.2.1 k hk).1
      have hx : 650 ≤ 650 + 12 * tk + n ∧ 650 + 12 * tk + n < 722 := by omega
      obtain ⟨I1, L1, Q1, a1, a2, a3⟩ := c_learned17 (E := E) (w := w) (k := k) (n := n) (tk := tk) hG qc'.cw hk hn etk (by omega)
      generalize ev : bsum (fun κ => went (lrT (I 137) (650 + 12 * tk + n) κ) c k (c 6)) 12 = v at *
      have hc : F_X11_learned E (rr w 136) (nI k) (nI n) (Hw E w I L Q) = rtI v (Hw E w I1 L1 Q1) := by
        unfold F_X11_learned
        simp only [Option.bind_some, Option.map_some, Option.join, cI_r, cL_r, cV_r, xI_r, xL_r, xV_r, xI_t, xL_t, xV_t, lt_r, rtZ_0, rtZ_1, rtZ_zb, o136, f_needWalker e4 c4', nd_t p1, f_needName, nd_t p2, a3]
      have mw := MW.of qc' (v := v.toInt64) a1
      obtain ⟨I2, L2, b1, b2, b3, b4, b5⟩ := m_learned62 (E := E) (w := w) (I := up2 I1 163 3 0) (L := up2 L1 164 0 v.toInt64) (Q := Q1) (x := 650 + 12 * tk + n) hG mw hk hx
      rw [ev] at b5
      generalize eA : up2 (up2 I2 137 (650 + 12 * tk + n) (I 137 (650 + 12 * tk + n))) 163 4 (-1) = A
      have d1 : ∀ j, j ≠ 137 → j ≠ 163 → A j = I2 j := fun j h1 h2 => by rw [← eA, up2_row _ _ h2, up2_row _ _ h1]
      have d2 : ∀ j, j ≠ 4 → A 163 j = I2 163 j := fun j hj => by rw [← eA, up2_i _ _ _ hj, up2_row _ _ (by decide)]
      have d3 : A 163 4 = -1 := by rw [← eA, up2_s]
      have d4 : A 137 = I 137 := by
        funext j
        rw [← eA, up2_row _ _ (by decide)]
        by_cases e : j = 650 + 12 * tk + n
        · subst e; rw [up2_s]
        · rw [up2_i _ _ _ e]; exact b4 j e
      have m137 : (up2 I1 163 3 0) 137 = I 137 := mw.1
      refine OpI_ok qc' a1 a2 ⟨fun j hj => ?_, fun j hj => ?_, b3⟩ ⟨d4, q1, Or.inl d3⟩ ?_ ?_
      · by_cases e : j = 137
        · subst e; rw [d4, m137]
        · rw [d1 j e (by omega)]; exact b1 j hj e
      · rw [d2 j hj]; exact b2 j hj
      · show F_L_learned E (rr w 136) (nI k) (nI n) (rr w 164) (Hw E w I L Q) = _
        unfold F_L_learned
        simp only [Option.bind_some, Option.map_some, Option.join, cI_r, cL_r, cV_r, xI_r, xL_r, xV_r, xI_t, xL_t, xV_t, lt_r, rtZ_0, rtZ_1, rtZ_zb, o136, hc, pa164, ix01]
      · show F_X12_learned E (rr w 163) (nI k) (nI n) _ = _
        unfold F_X12_learned
        have k4'' : (up2 I1 163 3 0) 137 4 = nI (c 4) := by rw [m137]; exact k4.1
        have t722 : (up2 I1 163 3 0) 137 (722 + 5 * k) = nI tk := by rw [m137]; exact etk
        have t650 : (up2 I1 163 3 0) 137 (650 + 12 * tk + n) = I 137 (650 + 12 * tk + n) := by rw [m137]
        simp (disch := omega) only [Option.bind_some, Option.map_some, Option.join, cI_r, cL_r, cV_r, xI_r, xL_r, xV_r, xI_t, xL_t, xV_t, lt_r, rtZ_0, rtZ_1, rtZ_zb, pf163_3, o163, f_isWalker k4'' d4', zi_t p1, f_isName, zn_t p2, gf163_0, m722, m5, m650, m12, pk_mul, nI_add, ga137, ix_n, t722, t650, b5, pa137, pf163_4, eA]
    · refine OpI_no (k := 1) (b := 0) q0 (by decide) ?_ ?_
      · show F_L_learned E (rr w 136) x1 x2 (rr w 164) (Hw E w I L Q) = _
        unfold F_L_learned F_X11_learned
        simp only [Option.bind_some, Option.map_some, Option.join, cI_r, cL_r, cV_r, xI_r, xL_r, xV_r, xI_t, xL_t, xV_t, lt_r, rtZ_0, rtZ_1, rtZ_zb, o136, f_needWalker e4 c4', nd_t p1, f_needName, nd_f p2, if_true]
      · show F_X12_learned E (rr w 163) x1 x2 _ = _
        unfold F_X12_learned
        simp only [Option.bind_some, Option.map_some, Option.join, cI_r, cL_r, cV_r, xI_r, xL_r, xV_r, xI_t, xL_t, xV_t, lt_r, rtZ_0, rtZ_1, rtZ_zb, pf163_3, o163, f_isWalker k4' d4', zi_t p1, f_isName, zn_f p2, f_fails]
  · refine OpI_no (k := 1) (b := 0) q0 (by decide) ?_ ?_
    · show F_L_learned E (rr w 136) x1 x2 (rr w 164) (Hw E w I L Q) = _
      unfold F_L_learned F_X11_learned
      simp only [Option.bind_some, Option.map_some, Option.join, cI_r, cL_r, cV_r, xI_r, xL_r, xV_r, xI_t, xL_t, xV_t, lt_r, rtZ_0, rtZ_1, rtZ_zb, o136, f_needWalker e4 c4', nd_f p1, if_true]
    · show F_X12_learned E (rr w 163) x1 x2 _ = _
      unfold F_X12_learned
      simp only [Option.bind_some, Option.map_some, Option.join, cI_r, cL_r, cV_r, xI_r, xL_r, xV_r, xI_t, xL_t, xV_t, lt_r, rtZ_0, rtZ_1, rtZ_zb, pf163_3, o163, f_isWalker k4' d4', zi_f p1, f_fails]
end
