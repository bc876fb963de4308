/-! learned: the class -/
section
variable {E : Ev} {w : Wo} {I I1 I2 : Nat → Nat → Int32} {L L1 L2 : Nat → Nat → Int64} {Q Q1 Q2 : Nat → Nat → Option Nat} {c : Nat → Nat} {T T' : Ro} {y x κ : Nat}
/-- one kind is supposed, and the record's telling followed -/
theorem c_kind {k n tk z s t p : Nat} (hG : 100000 ≤ E.2.2.1) (h : CW I L Q T c) (hw : WC I L Q T c y k) (hg : GndB I L T c y k n) (hn : n < 12) (etk : T (722 + 5 * k) = nI tk) (htk : tk < 6) (hκ : κ < 12) (hz : z < c 5) (ht : T (764 + 173 * z) = nI t) (t10 : t ≤ 10) (hs : s < 4 * c 1) (hp : p < 40) : ∃ I' L' Q' I1 L1 a r v, CF I I' L L' Q Q' ∧ CW I' L' Q' T c ∧ WC I' L' Q' T c y k ∧ GndB I' L' T c y k n ∧ F_X9_suppose E (rr w 40) (nI n) ((1 : Int32) <<< (nI κ &&& 31)) (Hw E w I L Q) = rtV (Hw E w I1 L1 Q) ∧ I1 29 = I 29 ∧ I1 25 = I 25 ∧ F_X9_follow E (rr w 40) (nI z) (nI s) (nI t) (Hw E w I1 L1 Q) = rtI (nI r) (Hw E w I' L' Q') ∧ Q' 40 7 = some a ∧ F_X10_placesOf E (rr w 32) (rr w a) (Hw E w I' L' Q') = rtL v (Hw E w I' L' Q') ∧ (b64 v p ↔ lsP (lrT T (650 + 12 * tk + n) κ) c y k z s t p) := by
  have k1 : c 1 ≤ 60 := (h.2.1.1 1 (by decide)).2
  have k2 : c 2 ≤ 40 := (h.2.1.1 2 (by decide)).2
  have k4 : c 4 ≤ 8 := (h.2.1.1 4 (by decide)).2
  have k5 : c 5 ≤ 12 := (h.2.1.1 5 (by decide)).2
  have hk : k < c 4 := hw.2.2.2.2.2.1
  have e6 : I 40 6 = nI k := hw.2.2.2.2.2.2.1
  have hx : 650 ≤ 650 + 12 * tk + n ∧ 650 + 12 * tk + n < 722 := by omega
  have e18 : I 18 k = T (723 + 5 * k) := (h.2.2.2.1.2.1.2 k hk).2.1
  have mu := MapY_use hw.2.2.1 hw.2.2.2.1
  generalize eS : ((1 : Int32) <<< (nI κ &&& 31)) &&& T (723 + 5 * k) = ks
  generalize eI1 : up2 I 41 (12 * k + n) ks = I1
  have i1 : ∀ j, j ≠ 41 → I1 j = I j := fun j hj => by rw [← eI1, up2_row _ _ hj]
  obtain ⟨v0, v1, v2⟩ := c_places (E := E) (w := w) (I := I1) (Q := Q) (ks := ks) hG mu.2.2.2
  generalize eL1 : up2 L 42 (12 * k + n) v0 = L1
  have l1 : ∀ j, j ≠ 42 → L1 j = L j := fun j hj => by rw [← eL1, up2_row _ _ hj]
  have sup : F_X9_suppose E (rr w 40) (nI n) ((1 : Int32) <<< (nI κ &&& 31)) (Hw E w I L Q) = rtV (Hw E w I1 L1 Q) := by
    have e6' : I1 40 6 = nI k := by rw [i1 40 (by decide)]; exact e6
    unfold F_X9_suppose
    simp (disch := omega) only [Option.bind_some, Option.map_some, Option.join, cI_r, cL_r, cV_r, xI_r, xL_r, xV_r, xI_t, xL_t, xV_t, lt_r, rtZ_0, rtZ_1, rtZ_zb, gf40_1, gf15_4, gf40_6, e6, ga18, ix_n, e18, eS, gf40_4, m12, pk_mul, nI_add, show k * 12 + n = 12 * k + n by omega, pa41, eI1, gf40_5, e6', gf40_0, o32, v2, pa42, eL1]
  have cf1 : CF I I1 L L1 Q Q := ⟨fun j hj => i1 j (by omega), fun j hj => l1 j (by omega), fun _ _ _ _ => rfl⟩
  have mp1 : MapY I1 L1 T c y := ⟨MapR_c (i1 32 (by decide)) (i1 38 (by decide)) (fun j g1 g2 => l1 j (by omega)) hw.2.2.1.1, by rw [i1 32 (by decide)]; exact hw.2.2.1.2⟩
  have st1 : StepsR I1 L1 Q := StepsR_c (i1 48 (by decide)) (i1 49 (by decide)) (i1 51 (by decide)) (l1 50 (by omega)) (l1 52 (by omega)) h.2.2.2.2.2.2.1
  have cw1 := h.set cf1 mp1.1 st1 h.2.2.2.2.2.2.2.1 h.2.2.2.2.2.2.2.2
  have wc1 : WC I1 L1 Q T c y k := by
    obtain ⟨h1, h2, h3, h4, h5, h6, h7, h8, h9, h10⟩ := hw
    exact ⟨h1, cw1.2.2.1, mp1, h4, st1, h6, by rw [i1 40 (by decide)]; exact h7, by rw [i1 19 (by decide)]; exact h8, by rw [i1 20 (by decide)]; exact h9, by rw [i1 21 (by decide)]; exact h10⟩
  have wcl := WC_l hx hκ wc1
  have gl : Gnd I1 L1 (lrT T (650 + 12 * tk + n) κ) c y k := fun n' hn' => by
    have ek := knd_l (κ := κ) (n' := n') etk htk hn hn'
    have es : ∀ p, stdA (lrT T (650 + 12 * tk + n) κ) c y k n' p ↔ stdK T c y (knd (lrT T (650 + 12 * tk + n) κ) k n') p := fun p => stdK_l hx.1 k2
    by_cases e : n' = n
    · rw [if_pos e] at ek
      rw [ek, eS, e, ← eI1, ← eL1, up2_s, up2_s]
      refine ⟨rfl, fun p hp => ?_⟩
      rw [v1 p hp]
      have := es p
      rw [ek, eS, e] at this
      exact this.symm
    · rw [if_neg e] at ek
      have g := hg n' hn' e
      rw [ek, ← eI1, ← eL1, up2_i _ _ _ (by omega), up2_i _ _ _ (by omega)]
      refine ⟨g.1, fun p hp => ?_⟩
      rw [g.2 p hp]
      have := es p
      rw [ek] at this
      exact this.symm
  have bz : BookZ (fun j => I1 (22 + j)) (lrT T (650 + 12 * tk + n) κ) z := BookZ_T (fun i _ _ => lr_o (by omega)) (by omega) (cw1.2.2.2.2.1.1.2 z hz)
  obtain ⟨I2, L2, Q2, a, r, ⟨f1, f2, f3, ⟨f4, f5⟩, f6, f7, f8, f9⟩, f10⟩ := c_follow (E := E) (w := w) (I := I1) (L := L1) (Q := Q) (z := z) (k := k) (m := t) (t := t) (s0 := s) hG wcl gl bz cw1.2.2.2.2.2.2.2.1 hz (by rw [lr_o (by omega)]; exact ht) t10 (Nat.le_refl t) hs
  have gn : Gon (lrT T (650 + 12 * tk + n) κ) c y k z s t r := ⟨f6, f7, f8⟩
  have cf2 : CF I1 I2 L1 L2 Q Q2 := ⟨fun j hj => f1.1 j (by omega) (by omega) (by omega) (by omega) (by omega), fun j hj => f1.2.1 j (by omega) (by omega) (by omega) (by omega) (by omega) (by omega), fun j g1 g2 _ => f1.2.2.1 j g1 g2⟩
  have mp2 : MapY I2 L2 T c y := MapY_l (T := lrT T (650 + 12 * tk + n) κ) (fun i hi => (lr_o (by omega)).symm) (WfT_l hx hκ h.2.1) f2
  have od2 : OddsR Q2 := by
    have := h.2.2.2.2.2.2.2.2
    unfold OddsR at *
    rw [f1.2.2.1 54 (by decide) (by decide)]; exact this
  have cw2 := cw1.set cf2 mp2.1 f3 f5 od2
  have so : SO w a := by
    rcases f5 with ⟨e, -⟩ | ⟨e, -⟩
    · rw [Option.some.inj (f4.symm.trans e)]; exact so43
    · rw [Option.some.inj (f4.symm.trans e)]; exact so45
  obtain ⟨v, u1, u2⟩ := c_placesOf (E := E) (w := w) (I := I2) (L := L2) (Q := Q2) (T := T) (c := c) hG h.2.1 cw2.2.2.1 so (fun q hq g => seqW_lt hs t q ((f9 q hq).mp g).2)
  refine ⟨I2, L2, Q2, I1, L1, a, r, v, cf1.tr cf2, cw2, f1.wc wc1 mp2 f3, fun n' hn' e => ?_, sup, i1 29 (by decide), i1 25 (by decide), f10, f4, u2, ?_⟩
  · rw [f1.1 41 (by decide) (by decide) (by decide) (by decide) (by decide), f1.2.1 42 (by decide) (by decide) (by decide) (by decide) (by decide) (by decide), ← eI1, ← eL1, up2_i _ _ _ (by omega), up2_i _ _ _ (by omega)]
    exact hg n' hn' e
  · rw [u1 p (by omega)]
    refine exists_congr fun s' => and_congr_right fun hs' => ?_
    rw [spl_l hx.1 (by omega), f9 s' (by omega), gn.e]
theorem c_fit {k n tk r z s t p : Nat} {P : Nat → Prop} (hG : 100000 ≤ E.2.2.1) (h : CW I L Q T c) (hw : WC I L Q T c y k) (hg : GndB I L T c y k n) (hn : n < 12) (etk : T (722 + 5 * k) = nI tk) (htk : tk < 6) (hr : r < c 6) (hd : recD T c r z s y p t) : ∃ I' L' Q', CF I I' L L' Q Q' ∧ CW I' L' Q' T c ∧ F_X11_kindsThatFit E (rr w 136) (nI r) (nI n) (bsum P 12) (Hw E w I L Q) = rtI (bsum (fun κ => P κ ∧ lsP (lrT T (650 + 12 * tk + n) κ) c y k z s t p) 12) (Hw E w I' L' Q') := by
  have k6 : c 6 ≤ 30 := (h.2.1.1 6 (by decide)).2
  have k5 : c 5 ≤ 12 := (h.2.1.1 5 (by decide)).2
  obtain ⟨⟨d1, d2⟩, ⟨d3, d4⟩, ⟨d5, d6⟩, ⟨d7, d8⟩, d9, d10⟩ := hd
  have e28 : I 28 r = nI z := (h.2.2.2.2.1.2.2 r hr).2.1.trans d1
  generalize hR : (fun κ => P κ ∧ lsP (lrT T (650 + 12 * tk + n) κ) c y k z s t p) = R
  unfold F_X11_kindsThatFit
  rw [gf136_2, Option.bind_some, gf22_7, Option.bind_some, ga28, ix_n (show r < 30 by omega) (by decide), Option.map_some, Option.bind_some, e28]
  refine lpK2 (σ := (Nat → Nat → Int32) × (Nat → Nat → Int64) × (Nat → Nat → Option Nat)) (Lp := fun g i s' => L_X11_kindsThatFit_17 E (rr w 136) (nI r) (nI n) (bsum P 12) (nI z) g (bsum R i) (nI i) (Hw E w s'.1 s'.2.1 s'.2.2)) (K := fun s' => rtI (bsum R 12) (Hw E w s'.1 s'.2.1 s'.2.2)) (Iv := fun i s' => CF I s'.1 L s'.2.1 Q s'.2.2 ∧ CW s'.1 s'.2.1 s'.2.2 T c ∧ WC s'.1 s'.2.1 s'.2.2 T c y k ∧ GndB s'.1 s'.2.1 T c y k n) (N := 12) (g := E.2.2.1) (i := 0) (s := (I, L, Q)) ?_ ?_ ?_ (by omega) (by omega) ⟨CF.rf, h, hw, hg⟩
  · rintro ⟨I1, L1, Q1⟩ ⟨z1, z2, z3, z4⟩ ee
    exact ⟨I1, L1, Q1, z1, z2, ee⟩
  · rintro g i ⟨I1, L1, Q1⟩ hi ⟨z1, z2, z3, z4⟩
    dsimp only at *
    have hRi : R i ↔ P i ∧ lsP (lrT T (650 + 12 * tk + n) i) c y k z s t p := by rw [← hR]
    have bi : b64 (bsum P 12).toInt64 i ↔ P i := by
      rw [b64_32 (by omega), bsum_b (by omega) (by omega)]
      exact ⟨fun x => x.2, fun x => ⟨hi, x⟩⟩
    by_cases p1 : P i
    · obtain ⟨I2, L2, Q2, J, M, a, rr', v, b1, b2, b3, b4, b5, b6, b6', b7, b8, b9, b10⟩ := c_kind (E := E) (w := w) (k := k) (n := n) (tk := tk) (z := z) (s := s) (t := t) (p := p) (κ := i) hG z2 z3 z4 hn etk htk hi d2 d9 d10 d4 d8
      have e29 : J 29 r = nI s := by rw [b6]; exact (z2.2.2.2.2.1.2.2 r hr).2.2.1.trans d3
      have e25 : J 25 z = nI t := by rw [b6']; exact (z2.2.2.2.2.1.1.2 z d2).2.2.1.trans d9
      have e31 : I2 31 r = nI p := (b2.2.2.2.2.1.2.2 r hr).2.2.2.2.trans d7
      refine ⟨(I2, L2, Q2), ⟨z1.tr b1, b2, b3, b4⟩, ?_⟩
      show L_X11_kindsThatFit_17 E (rr w 136) (nI r) (nI n) (bsum P 12) (nI z) (g + 1) (bsum R i) (nI i) (Hw E w I1 L1 Q1) = L_X11_kindsThatFit_17 E (rr w 136) (nI r) (nI n) (bsum P 12) (nI z) g (bsum R (i + 1)) (nI (i + 1)) (Hw E w I2 L2 Q2)
      rw [L_X11_kindsThatFit_17, m12, if_neg (nI_ge hi (by decide)), f_isIn (by omega), cI_r, zb_c bi, zi_t p1]
      simp (disch := omega) only [Option.bind_some, Option.map_some, Option.join, cI_r, cL_r, cV_r, xI_r, xL_r, xV_r, xI_t, xL_t, xV_t, lt_r, rtZ_0, rtZ_1, rtZ_zb, gf136_4, o40, b5, gf136_2, gf22_8, ga29, ix_n, e29, gf22_3, ga25, e25, b7, gf136_3, gf40_7, b8, o32, b9, gf22_10, ga31, e31, f_isIn, zb_c b10, nI_1]
      by_cases p2 : lsP (lrT T (650 + 12 * tk + n) i) c y k z s t p
      · rw [zi_t p2, bsum_t (hRi.mpr ⟨p1, p2⟩)]
      · rw [zi_f p2, bsum_f (fun x => p2 (hRi.mp x).2)]
    · refine ⟨(I1, L1, Q1), ⟨z1, z2, z3, z4⟩, ?_⟩
      show L_X11_kindsThatFit_17 E (rr w 136) (nI r) (nI n) (bsum P 12) (nI z) (g + 1) (bsum R i) (nI i) (Hw E w I1 L1 Q1) = L_X11_kindsThatFit_17 E (rr w 136) (nI r) (nI n) (bsum P 12) (nI z) g (bsum R (i + 1)) (nI (i + 1)) (Hw E w I1 L1 Q1)
      rw [L_X11_kindsThatFit_17, m12, if_neg (nI_ge hi (by decide)), f_isIn (by omega), cI_r, zb_c bi, zi_f p1, nI_1, bsum_f (fun x => p1 (hRi.mp x).1)]
  · rintro g ⟨I1, L1, Q1⟩ _
    show L_X11_kindsThatFit_17 E (rr w 136) (nI r) (nI n) (bsum P 12) (nI z) (g + 1) (bsum R 12) (nI 12) (Hw E w I1 L1 Q1) = _
    rw [L_X11_kindsThatFit_17, m12, if_pos (nI_le (Nat.le_refl 12) (by decide))]
theorem went_l {k R : Nat} (hx : 650 ≤ x ∧ x < 722) : went (lrT T x κ) c k R ↔ ∀ r, r < R → T (2838 + 5 * r) = nI k → LPr (lrT T x κ) c k r := by
  unfold went
  exact forall_congr' fun r => forall_congr' fun _ => by rw [lr_o (by omega)]
theorem recD_l {r z s y p t : Nat} (hx : 650 ≤ x ∧ x < 722) : recD (lrT T x κ) c r z s y p t ↔ recD T c r z s y p t := by
  unfold recD
  rw [lr_o (by omega), lr_o (by omega), lr_o (by omega), lr_o (by omega), lr_o (by omega)]
theorem c_learned17 {k n tk : Nat} (hG : 100000 ≤ E.2.2.1) (h : CW I L Q T c) (hk : k < c 4) (hn : n < 12) (etk : T (722 + 5 * k) = nI tk) (htk : tk < 6) : ∃ I' L' Q', CF I I' L L' Q Q' ∧ CW I' L' Q' T c ∧ L_X11_learned_17 E (rr w 136) (nI k) (nI n) E.2.2.1 4095 0 (Hw E w I L Q) = rtI (bsum (fun κ => went (lrT T (650 + 12 * tk + n) κ) c k (c 6)) 12) (Hw E w I' L' Q') := by
  have k6 : c 6 ≤ 30 := (h.2.1.1 6 (by decide)).2
  have k4 : c 4 ≤ 8 := (h.2.1.1 4 (by decide)).2
  have hx : 650 ≤ 650 + 12 * tk + n ∧ 650 + 12 * tk + n < 722 := by omega
  have e0 : bsum (fun κ => went (lrT T (650 + 12 * tk + n) κ) c k 0) 12 = 4095 := bsum_all (fun κ _ r hr => absurd hr (by omega))
  rw [← e0]
  refine lpK2 (σ := (Nat → Nat → Int32) × (Nat → Nat → Int64) × (Nat → Nat → Option Nat)) (Lp := fun g i s' => L_X11_learned_17 E (rr w 136) (nI k) (nI n) g (bsum (fun κ => went (lrT T (650 + 12 * tk + n) κ) c k i) 12) (nI i) (Hw E w s'.1 s'.2.1 s'.2.2)) (K := fun s' => rtI (bsum (fun κ => went (lrT T (650 + 12 * tk + n) κ) c k (c 6)) 12) (Hw E w s'.1 s'.2.1 s'.2.2)) (Iv := fun i s' => CF I s'.1 L s'.2.1 Q s'.2.2 ∧ CW s'.1 s'.2.1 s'.2.2 T c) (N := c 6) (g := E.2.2.1) (i := 0) (s := (I, L, Q)) ?_ ?_ ?_ (by omega) (by omega) ⟨CF.rf, h⟩
  · rintro ⟨I1, L1, Q1⟩ ⟨z1, z2⟩ ee
    exact ⟨I1, L1, Q1, z1, z2, ee⟩
  · rintro g i ⟨I1, L1, Q1⟩ hi ⟨z1, z2⟩
    dsimp only at *
    have e5 : I1 22 5 = nI (c 6) := z2.2.2.2.2.1.2.1.trans (h.2.1.1 6 (by decide)).1
    have e27 : I1 27 i = T (2838 + 5 * i) := (z2.2.2.2.2.1.2.2 i hi).1
    have stp : ∀ κ, went (lrT T (650 + 12 * tk + n) κ) c k (i + 1) ↔ went (lrT T (650 + 12 * tk + n) κ) c k i ∧ (T (2838 + 5 * i) = nI k → LPr (lrT T (650 + 12 * tk + n) κ) c k i) := fun κ => by
      rw [went_l hx, went_l hx]
      constructor
      · intro x
        exact ⟨fun r hr => x r (by omega), x i (by omega)⟩
      · rintro ⟨x1, x2⟩ r hr
        by_cases e : r = i
        · rw [e]; exact x2
        · exact x1 r (by omega)
    by_cases p1 : T (2838 + 5 * i) = nI k
    · obtain ⟨z, s, y, p, t, hd⟩ := rec_ex h.2.1 hi
      have e30 : I1 30 i = nI y := (z2.2.2.2.2.1.2.2 i hi).2.2.2.1.trans hd.2.2.1.1
      obtain ⟨I2, L2, a1, a2, a3, a4, -, a6⟩ := c_set (E := E) (w := w) (y := y) hG z2 hd.2.2.1.2 hk
      obtain ⟨I3, L3, Q3, b1, b2, b3⟩ := c_fit (E := E) (w := w) (k := k) (n := n) (tk := tk) (r := i) (P := fun κ => went (lrT T (650 + 12 * tk + n) κ) c k i) hG a2 a3 (fun n' hn' _ => a4 n' hn') hn etk htk hi hd
      have eb : bsum (fun κ => (fun κ => went (lrT T (650 + 12 * tk + n) κ) c k i) κ ∧ lsP (lrT T (650 + 12 * tk + n) κ) c y k z s t p) 12 = bsum (fun κ => went (lrT T (650 + 12 * tk + n) κ) c k (i + 1)) 12 := bsum_c fun κ hκ => by
        rw [stp κ]
        refine and_congr_right fun _ => ?_
        rw [← LPr_i (WfT_l hx hκ h.2.1) ((recD_l hx).mpr hd)]
        exact ⟨fun x _ => x, fun x => x p1⟩
      rw [eb] at b3
      refine ⟨(I3, L3, Q3), ⟨(z1.tr a1).tr b1, b2⟩, ?_⟩
      show L_X11_learned_17 E (rr w 136) (nI k) (nI n) (g + 1) (bsum (fun κ => went (lrT T (650 + 12 * tk + n) κ) c k i) 12) (nI i) (Hw E w I1 L1 Q1) = L_X11_learned_17 E (rr w 136) (nI k) (nI n) g (bsum (fun κ => went (lrT T (650 + 12 * tk + n) κ) c k (i + 1)) 12) (nI (i + 1)) (Hw E w I3 L3 Q3)
      rw [L_X11_learned_17]
      simp (disch := omega) only [Option.bind_some, Option.map_some, Option.join, cI_r, cL_r, cV_r, xI_r, xL_r, xV_r, xI_t, xL_t, xV_t, lt_r, rtZ_0, rtZ_1, rtZ_zb, gf136_2, gf22_5, e5, nI_leI, if_neg, gf22_6, ga27, ix_n, e27, gf22_9, ga30, e30, o136, a6]
      rw [if_neg (not_not_intro p1), b3, cI_r, nI_1]
    · have eb : bsum (fun κ => went (lrT T (650 + 12 * tk + n) κ) c k i) 12 = bsum (fun κ => went (lrT T (650 + 12 * tk + n) κ) c k (i + 1)) 12 := bsum_c fun κ hκ => by
        rw [stp κ]
        exact ⟨fun x => ⟨x, fun z => absurd z p1⟩, fun x => x.1⟩
      refine ⟨(I1, L1, Q1), ⟨z1, z2⟩, ?_⟩
      show L_X11_learned_17 E (rr w 136) (nI k) (nI n) (g + 1) (bsum (fun κ => went (lrT T (650 + 12 * tk + n) κ) c k i) 12) (nI i) (Hw E w I1 L1 Q1) = L_X11_learned_17 E (rr w 136) (nI k) (nI n) g (bsum (fun κ => went (lrT T (650 + 12 * tk + n) κ) c k (i + 1)) 12) (nI (i + 1)) (Hw E w I1 L1 Q1)
      rw [← eb, L_X11_learned_17]
      simp (disch := omega) only [Option.bind_some, Option.map_some, Option.join, cI_r, cL_r, cV_r, xI_r, xL_r, xV_r, xI_t, xL_t, xV_t, lt_r, rtZ_0, rtZ_1, rtZ_zb, gf136_2, gf22_5, e5, nI_leI, if_neg, gf22_6, ga27, ix_n, e27]
      rw [if_pos p1, nI_1]
  · rintro g ⟨I1, L1, Q1⟩ ⟨z1, z2⟩
    dsimp only at *
    have e5 : I1 22 5 = nI (c 6) := z2.2.2.2.2.1.2.1.trans (h.2.1.1 6 (by decide)).1
    show L_X11_learned_17 E (rr w 136) (nI k) (nI n) (g + 1) _ (nI (c 6)) (Hw E w I1 L1 Q1) = _
    rw [L_X11_learned_17]
    simp (disch := omega) only [Option.bind_some, Option.map_some, Option.join, cI_r, cL_r, cV_r, xI_r, xL_r, xV_r, xI_t, xL_t, xV_t, lt_r, rtZ_0, rtZ_1, rtZ_zb, gf136_2, gf22_5, e5, nI_leI, if_pos]
end
