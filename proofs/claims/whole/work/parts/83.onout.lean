/-! on, out -/
section
variable {E : Ev} {w : Wo} {I I' : Nat → Nat → Int32} {L L' : Nat → Nat → Int64} {Q Q' : Nat → Nat → Option Nat} {c : Nat → Nat} {T : Ro} {x : Int32}
def InvC (w : Wo) (I : Nat → Ro) (L : Nat → Nat → Int64) (Q : Nat → Nat → Option Nat) (c : Nat → Nat) : Prop := WfT (I 137) c ∧ LandR I (I 137) c ∧ FolkR (fun j => I (15 + j)) (I 137) c ∧ BookR (fun j => I (22 + j)) (I 137) c ∧ MapR I L (I 137) c ∧ RefR I L (I 137) c ∧ StepsR I L Q ∧ WalkR Q ∧ OddsR Q ∧ RefsR Q ∧ ReadR I ∧ (∀ t, t < 4 → TrayR I L t) ∧ ∀ i, i < 3 → ImgR w I Q i
/-- what was told, the tape, trays, images: as they were; map, steps and the rest as given -/
def kpI (k i : Nat) : Prop := k < 32 ∨ (k = 121 ∧ 1 ≤ i ∧ i ≤ 3) ∨ k = 122 ∨ (128 ≤ k ∧ k < 136) ∨ k = 137 ∨ k = 138 ∨ k = 139 ∨ k = 144 ∨ k = 160 ∨ k = 161 ∨ (k = 163 ∧ (i = 10 ∨ i = 18 ∨ i = 19)) ∨ 165 ≤ k
def kpL (k : Nat) : Prop := (128 ≤ k ∧ k < 136) ∨ k = 162
theorem Inv_re (q : InvC w I L Q c) (hI : ∀ k i, kpI k i → I' k i = I k i) (hL : ∀ k, kpL k → L' k = L k) (hQ : ∀ k, 125 ≤ k → k < 128 → Q' k = Q k) (hm : MapR I' L' (I 137) c) (hr : RefR I' L' (I 137) c) (hs : StepsR I' L' Q') (hw : WalkR Q') (ho : OddsR Q') (hf : RefsR Q') : Inv w I' L' Q' := by
  have hR : ∀ k, (k < 32 ∨ k = 122 ∨ (128 ≤ k ∧ k < 136) ∨ k = 137 ∨ k = 138 ∨ k = 139 ∨ k = 144 ∨ k = 160 ∨ k = 161 ∨ 165 ≤ k) → I' k = I k := fun k hk => funext fun i => hI k i (by unfold kpI; omega)
  obtain ⟨q1, q2, q3, q4, -, -, -, -, -, -, q11, q12, q13⟩ := q
  have hT : I' 137 = I 137 := hR 137 (by omega)
  refine ⟨c, by rw [hT]; exact q1, by rw [hT]; exact LandR_c (fun j hj => hR j (by omega)) q2, by rw [hT]; exact FolkR_c (fun j hj => hR (15 + j) (by omega)) q3, by rw [hT]; exact BookR_c (fun j hj => hR (22 + j) (by omega)) q4, by rw [hT]; exact hm, by rw [hT]; exact hr, hs, hw, ho, hf, ?_, fun t ht => ?_, fun i hi => ?_⟩
  · exact ReadR_c (fun f h1 h2 => hI 121 f (by unfold kpI; omega)) (hR 122 (by omega)) (hR 144 (by omega)) (hI 163 10 (by unfold kpI; omega)) (hI 163 18 (by unfold kpI; omega)) (hI 163 19 (by unfold kpI; omega)) q11
  · exact TrayR_c (hR _ (by omega)) (hR 160 (by omega)) (hR 161 (by omega)) (hL _ (by unfold kpL; omega)) (hL 162 (by unfold kpL; omega)) (q12 t ht)
  · have z := ImgR_c (I' := I') (hR 138 (by omega)) (hR 139 (by omega)) (fun j hj => hR _ (by omega)) (q13 i hi)
    unfold ImgR at *
    rw [hQ 125 (by omega) (by omega), hQ 126 (by omega) (by omega), hQ 127 (by omega) (by omega)]
    exact z
theorem nthX_c {X Y : Nat → Prop} (h : ∀ s, s < 240 → (X s ↔ Y s)) : nthX X x = nthX Y x := by
  unfold nthX
  exact fstP_c fun j hj => by rw [h j hj, cnt_c (n := j) (fun i hi => h i (by omega))]
theorem ba_row {G : Nat → Int64} {S : Nat → Prop} {s a : Nat} (h : RowOk G T c S s) (ha : a < 128) : ba (G (8 * s + 6)) (G (8 * s + 6 + 1)) a ↔ isOn T c S s a := by
  unfold ba
  have z := (h (a / 64) (by omega) (a % 64) (by omega)).2
  rw [show 64 * (a / 64) + a % 64 = a by omega] at z
  rw [← z]
  by_cases p : a / 64 = 0
  · rw [if_pos p, p]
  · rw [if_neg p, show a / 64 = 1 by omega]
theorem ba_side {G : Nat → Int64} {S : Nat → Prop} {s a sd : Nat} (h : RowOk G T c S s) (ha : a < 128) (hs : sd < 3) : ba (G (8 * s + 2 * sd)) (G (8 * s + 2 * sd + 1)) a ↔ isOt T c S s a ∧ sid T s a = sd := by
  unfold ba
  have z := (h (a / 64) (by omega) (a % 64) (by omega)).1 sd hs
  rw [show 64 * (a / 64) + a % 64 = a by omega] at z
  rw [← z]
  by_cases p : a / 64 = 0
  · rw [if_pos p, p, Nat.add_zero]
  · rw [if_neg p, show a / 64 = 1 by omega]
theorem StepsR_k (h1 : ∀ k, 48 ≤ k → k < 53 → I' k = I k) (h2 : ∀ k, 48 ≤ k → k < 53 → L' k = L k) (q : StepsR I L Q) : StepsR I' L' Q := StepsR_c (h1 48 (by omega) (by omega)) (h1 49 (by omega) (by omega)) (h1 51 (by omega) (by omega)) (h2 50 (by omega) (by omega)) (h2 52 (by omega) (by omega)) q
theorem op_on (hG : 100000 ≤ E.2.2.1) (q : Inv w I L Q) (x1 x2 x3 : Int32) : OpI E w (fun h => F_L_on E (rr w 136) x1 x2 x3 (rr w 164) h) (fun h => F_X12_on E (rr w 163) x1 x2 x3 h) I L Q := by
  have q0 := q
  obtain ⟨c, qc⟩ := q
  have qc' : InvC w I L Q c := qc
  obtain ⟨q1, q2, q3, q4, q5, q6, q7, q8, q9, q10, q11, q12, q13⟩ := qc
  have k1 := q1.1 1 (by decide)
  simp only [mx] at k1
  have e1 : I 0 3 = nI (c 1) := q2.2.1.1.trans k1.1
  have k1' : (up2 I 163 3 0) 137 1 = nI (c 1) := k1.1
  by_cases p1 : bl x1 (4 * c 1)
  · by_cases p2 : bd x2 0 200
    · obtain ⟨s, rfl, hs⟩ := p1
      obtain ⟨y, rfl, -, hy⟩ := p2
      have p1 : bl (nI s) (4 * c 1) := ⟨s, rfl, hs⟩
      have p2 : bd (nI y) 0 200 := ⟨y, rfl, by omega, hy⟩
      obtain ⟨I1, L1, a1, a2, a3, a4⟩ := c_prepare (E := E) (w := w) (I := I) (L := L) (Q := Q) hG q1 q2 q5 hy
      have q2a : LandR I1 (I 137) c := LandR_c (fun j hj => a1 j (by omega) (by omega)) q2
      obtain ⟨I2, L2, b1, b2, b3, b4, b5⟩ := c_look (E := E) (w := w) (I := I1) (L := L1) (Q := Q) hG q1 q2a a3 hy hs
      have hI2 : ∀ k, k ≠ 32 → k ≠ 38 → I2 k = I k := fun k h1 h2 => (b1 k h2).trans (a1 k h1 h2)
      have hL2 : ∀ k, ¬ (32 ≤ k ∧ k < 40) → L2 k = L k := fun k h1 => (b2 k (by omega)).trans (a2 k h1)
      -- the set that stands in now
      have main : ∀ n0, SO w n0 → 40 < n0 → n0 < 46 → Q 40 7 = some n0 → OpI E w (fun h => F_L_on E (rr w 136) (nI s) (nI y) x3 (rr w 164) h) (fun h => F_X12_on E (rr w 163) (nI s) (nI y) x3 h) I L Q := by
        intro n0 so hn1 hn2 hq7
        generalize eL3 : adA (rs L2 (n0 + 1) 0 4 (fun _ => 0)) (n0 + 1) (L2 39 (8 * s + 6)) (L2 39 (8 * s + 6 + 1)) = L3
        have hL3 : ∀ k, k ≠ n0 + 1 → L3 k = L2 k := fun k hk => by rw [← eL3, adA_row hk, rs_row _ _ hk]
        have hX : ∀ q, q < 256 → (bq (L3 (n0 + 1)) q ↔ q % 2 = 0 ∧ isOn (I 137) c (thr0 (I 137) c y) s (q / 2)) := fun q hq => by
          rw [← eL3, adA_b hq, ba_row b4 (by omega)]
          exact ⟨fun z => z.elim (fun z => absurd z (clr_b hq)) id, Or.inr⟩
        have hX2 : ∀ q, q < 256 → bq (L3 (n0 + 1)) q → q < 240 := fun q hq z => by
          have := ((hX q hq).mp z).2.1.1; omega
        generalize ev : (if x3 = -1 then nI (cntP (bq (L3 (n0 + 1))) 240) else nthX (bq (L3 (n0 + 1))) x3) = v
        have hc : F_X11_on E (rr w 136) (nI s) (nI y) x3 (Hw E w I L Q) = rtI v (Hw E w I2 L3 Q) := by
          unfold F_X11_on
          simp (disch := omega) only [Option.bind_some, Option.map_some, Option.join, cI_r, cL_r, cV_r, xI_r, xL_r, xV_r, xI_t, xL_t, xV_t, lt_r, rtZ_0, rtZ_1, rtZ_zb, m2, m3, m4, m5, m6, m7, m8, m9, m10, m11, m12, m13, m14, m15, m16, m17, m18, m19, m20, m21, m22, m23, m24, m25, m26, m27, m28, m29, m30, m31, m32, m40, m41, m60, m63, m64, m90, m99, m100, m120, m127, m164, m173, m200, m240, m255, m450, m480, m650, m722, m762, m960, m1000000, m2838, m2988, m4095, pk_mul, nI_add, nI_1, nI_leI, nI_ltI, nI_eq, ix_n, o136, f_needState e1 (show c 1 < 2 ^ 28 by omega), nd_t p1, f_needYear, nd_t p2, gf136_3, o32, a4, b5, gf136_4, gf40_7, hq7, so.o, c_clear hG so, gf32_11, ga39, rs_row L2 (k := n0 + 1) (k' := 39) (fun _ => 0) (by omega), c_addArrows so, eL3, c_nth hG so, c_size so hX2]
          rw [← ev]
          by_cases p : x3 = -1
          · rw [if_neg (not_not_intro p), if_pos p]
          · rw [if_pos p, if_neg p]
        have hT : (up2 I2 163 3 0) 137 = I 137 := by rw [up2_row _ _ (by decide), hI2 137 (by decide) (by decide)]
        have hr6 : RefR (up2 I2 163 3 0) (up2 L3 164 0 v.toInt64) (I 137) c := RefR_c (by rw [up2_i _ _ _ (by decide), hI2 163 (by decide) (by decide)]) (by rw [up2_row _ _ (by decide), hI2 142 (by decide) (by decide)]) (by rw [up2_row _ _ (by decide), hL3 140 (by omega), hL2 140 (by omega)]) (by rw [up2_row _ _ (by decide), hL3 141 (by omega), hL2 141 (by omega)]) q6
        obtain ⟨I4, L4, d1, d2, d3, d4, d5⟩ := m_lay (E := E) (w := w) (I := up2 I2 163 3 0) (L := up2 L3 164 0 v.toInt64) (Q := Q) (y := y) (c := c) hG (by rw [hT]; exact q1) (by rw [hT]; exact hr6) hy
        rw [hT] at d4
        have hY : ∀ q, q < 256 → (b256 (L4 140) (4 * s) q ↔ bq (L3 (n0 + 1)) q) := fun q hq => by
          rw [hX q hq, (d4.2.1 s (by omega) q hq).1]
          exact ⟨fun z => ⟨z.1, z.2.2⟩, fun z => ⟨z.1, hs, z.2⟩⟩
        have hI4 : ∀ k, k ≠ 32 → k ≠ 38 → k ≠ 142 → k ≠ 143 → k ≠ 163 → I4 k = I k := fun k h1 h2 h3 h4 h5 => by rw [d1 k h3 h4 h5, up2_row _ _ h5, hI2 k h1 h2]
        have hI4t : ∀ i, i ≠ 3 → i ≠ 4 → I4 163 i = I 163 i := fun i h3 h4 => by rw [d2 i h4, up2_i _ _ _ h3, hI2 163 (by decide) (by decide)]
        have hL4 : ∀ k, ¬ (32 ≤ k ∧ k < 40) → k ≠ n0 + 1 → k ≠ 140 → k ≠ 164 → L4 k = L k := fun k h1 h2 h3 h4 => by rw [d3 k h3, up2_row _ _ h4, hL3 k h2, hL2 k h1]
        refine ⟨0, v, I2, I4, up2 L3 164 0 v.toInt64, L4, Q, Q, ?_, ?_, Inv_re qc' (fun k i h => ?_) (fun k h => ?_) (fun k _ _ => rfl) ?_ (Or.inr ⟨y, hy, d4⟩) (StepsR_k (fun k h1 h2 => hI4 k (by omega) (by omega) (by omega) (by omega) (by omega)) (fun k h1 h2 => hL4 k (by omega) (by omega) (by omega) (by omega)) q7) q8 q9 q10, by rw [d2 3 (by decide), up2_s], fun _ => by rw [d3 164 (by decide), up2_s]⟩
        · show F_L_on E (rr w 136) (nI s) (nI y) x3 (rr w 164) (Hw E w I L Q) = _
          unfold F_L_on
          simp only [Option.bind_some, Option.map_some, Option.join, cI_r, cL_r, cV_r, xI_r, xL_r, xV_r, xI_t, xL_t, xV_t, lt_r, rtZ_0, rtZ_1, rtZ_zb, o136, hc, pa164, ix01]
        · show F_X12_on E (rr w 163) (nI s) (nI y) x3 _ = _
          unfold F_X12_on
          have k1'' : (up2 I2 163 3 0) 137 1 = nI (c 1) := by rw [hT]; exact k1.1
          simp (disch := omega) only [Option.bind_some, Option.map_some, Option.join, cI_r, cL_r, cV_r, xI_r, xL_r, xV_r, xI_t, xL_t, xV_t, lt_r, rtZ_0, rtZ_1, rtZ_zb, m2, m3, m4, m5, m6, m7, m8, m9, m10, m11, m12, m13, m14, m15, m16, m17, m18, m19, m20, m21, m22, m23, m24, m25, m26, m27, m28, m29, m30, m31, m32, m40, m41, m60, m63, m64, m90, m99, m100, m120, m127, m164, m173, m200, m240, m255, m450, m480, m650, m722, m762, m960, m1000000, m2838, m2988, m4095, pk_mul, nI_add, nI_1, nI_leI, nI_ltI, nI_eq, ix_n, pf163_3, o163, f_isState k1'' (show c 1 < 2 ^ 28 by omega), zn_t p1, f_isYear, zn_t p2, d5, gf163_5, Int32.zero_add, f_numberOf hG la140]
          rw [← ev]
          by_cases p : x3 = -1
          · rw [if_pos p, if_pos p]
            simp only [Option.bind_some, Option.map_some, Option.join, cI_r, cL_r, cV_r, xI_r, xL_r, xV_r, xI_t, xL_t, xV_t, lt_r, rtZ_0, rtZ_1, rtZ_zb]
            rw [cnt_c (n := 240) (fun i hi => hY i (by omega))]
          · rw [if_neg p, if_neg p]
            simp only [Option.bind_some, Option.map_some, Option.join, cI_r, cL_r, cV_r, xI_r, xL_r, xV_r, xI_t, xL_t, xV_t, lt_r, rtZ_0, rtZ_1, rtZ_zb]
            have := nthX_c (x := x3) (X := b256 (L4 140) (4 * s)) (Y := bq (L3 (n0 + 1))) (fun i hi => hY i (by omega))
            rw [← this]; rfl
        · unfold kpI at h
          by_cases e : k = 163
          · subst e; exact hI4t i (by omega) (by omega)
          · rw [hI4 k (by omega) (by omega) (by omega) (by omega) e]
        · unfold kpL at h
          exact hL4 k (by omega) (by omega) (by omega) (by omega)
        · refine MapR_c (I := I2) (L := L2) ?_ ?_ (fun k h1 h2 => ?_) b3.1
          · rw [d1 32 (by decide) (by decide) (by decide), up2_row _ _ (by decide)]
          · rw [d1 38 (by decide) (by decide) (by decide), up2_row _ _ (by decide)]
          · rw [d3 k (by omega), up2_row _ _ (by omega), hL3 k (by omega)]
      rcases q8 with h | h
      · exact main 43 so43 (by decide) (by decide) h.1
      · exact main 45 so45 (by decide) (by decide) h.1
    · refine ⟨2, 0, I, up2 (up2 I 163 3 0) 163 3 2, L, L, Q, Q, ?_, ?_, Inv_t (Inv_t q0), up2_s _ _ _ _, fun e => absurd e (by decide)⟩
      · show F_L_on E (rr w 136) x1 x2 x3 (rr w 164) (Hw E w I L Q) = _
        unfold F_L_on F_X11_on
        simp only [Option.bind_some, Option.map_some, Option.join, cI_r, cL_r, cV_r, xI_r, xL_r, xV_r, xI_t, xL_t, xV_t, lt_r, rtZ_0, rtZ_1, rtZ_zb, o136, f_needState e1 (show c 1 < 2 ^ 28 by omega), nd_t p1, f_needYear, nd_f p2, if_true]
      · show F_X12_on E (rr w 163) x1 x2 x3 _ = _
        unfold F_X12_on
        simp only [Option.bind_some, Option.map_some, Option.join, cI_r, cL_r, cV_r, xI_r, xL_r, xV_r, xI_t, xL_t, xV_t, lt_r, rtZ_0, rtZ_1, rtZ_zb, pf163_3, o163, f_isState k1' (show c 1 < 2 ^ 28 by omega), zn_t p1, f_isYear, zn_f p2, f_fails]
  · refine ⟨1, 0, I, up2 (up2 I 163 3 0) 163 3 1, L, L, Q, Q, ?_, ?_, Inv_t (Inv_t q0), up2_s _ _ _ _, fun e => absurd e (by decide)⟩
    · show F_L_on E (rr w 136) x1 x2 x3 (rr w 164) (Hw E w I L Q) = _
      unfold F_L_on F_X11_on
      simp only [Option.bind_some, Option.map_some, Option.join, cI_r, cL_r, cV_r, xI_r, xL_r, xV_r, xI_t, xL_t, xV_t, lt_r, rtZ_0, rtZ_1, rtZ_zb, o136, f_needState e1 (show c 1 < 2 ^ 28 by omega), nd_f p1, String.reduceEq, if_false, if_true]
    · show F_X12_on E (rr w 163) x1 x2 x3 _ = _
      unfold F_X12_on
      simp only [Option.bind_some, Option.map_some, Option.join, cI_r, cL_r, cV_r, xI_r, xL_r, xV_r, xI_t, xL_t, xV_t, lt_r, rtZ_0, rtZ_1, rtZ_zb, pf163_3, o163, f_isState k1' (show c 1 < 2 ^ 28 by omega), zn_f p1, f_fails]
theorem m_out50 {s y sd : Nat} (hG : 100000 ≤ E.2.2.1) (q1 : WfT (I 137) c) (hs : s < 4 * c 1) (hsd : sd < 3) : L_X12_out_50 E (rr w 163) (nI s) (nI sd) (nI y) E.2.2.1 0 0 (Hw E w I L Q) = rtI (nI (cntP (fun a => isOt (I 137) c (thr0 (I 137) c y) s a ∧ sid (I 137) s a = sd) (2 * c 1))) (Hw E w I L Q) := by
  have k1 : c 1 ≤ 60 := (q1.1 1 (by decide)).2
  have e1 := (q1.1 1 (by decide)).1
  generalize hP : (fun a => isOt (I 137) c (thr0 (I 137) c y) s a ∧ sid (I 137) s a = sd) = P
  refine lpI (σ := Unit) (Lp := fun g i _ => L_X12_out_50 E (rr w 163) (nI s) (nI sd) (nI y) g (nI (cntP P i)) (nI i) (Hw E w I L Q)) (Inv := fun _ _ => True) (N := 2 * c 1) ?_ ?_ E.2.2.1 0 () (by omega) (by omega) trivial
  · intro g a _ ha _
    refine ⟨(), trivial, ?_⟩
    have cr := crI_v q1 hs ha
    have hPa : P a ↔ isOt (I 137) c (thr0 (I 137) c y) s a ∧ sid (I 137) s a = sd := by rw [← hP]
    have J : ∀ t : Nat, t < 3 → J_X12_out_108 E (fun w1 w2 h4 => L_X12_out_50 E (rr w 163) (nI s) (nI sd) (nI y) g w1 w2 h4) (rr w 163) (nI s) (nI sd) (nI y) (nI a) (nI (cntP P a)) (nI sd) (nI t) (Hw E w I L Q) = L_X12_out_50 E (rr w 163) (nI s) (nI sd) (nI y) g (nI (cntP P a + if sd = t then 1 else 0)) (nI (a + 1)) (Hw E w I L Q) := by
      intro t ht
      unfold J_X12_out_108
      by_cases e : sd = t
      · rw [if_neg (not_not_intro (by rw [e])), if_pos e, nI_1, nI_1]
      · rw [if_pos (fun z => e ((nI_eq (by omega) (by omega)).mp z)), if_neg e, Int32.add_zero, nI_1]; rfl
    show L_X12_out_50 E (rr w 163) (nI s) (nI sd) (nI y) (g + 1) (nI (cntP P a)) (nI a) (Hw E w I L Q) = L_X12_out_50 E (rr w 163) (nI s) (nI sd) (nI y) g (nI (cntP P (a + 1))) (nI (a + 1)) (Hw E w I L Q)
    rw [L_X12_out_50]
    simp (disch := omega) only [Option.bind_some, Option.map_some, Option.join, cI_r, cL_r, cV_r, xI_r, xL_r, xV_r, xI_t, xL_t, xV_t, lt_r, rtZ_0, rtZ_1, rtZ_zb, m2, pk_mul, nI_leI, if_neg, gf163_0, ga137, show ix 1 2988 = some 1 from rfl, e1, o163, f_isOut q1 hs ha, f_cross q1 hs ha]
    by_cases p : isOt (I 137) c (thr0 (I 137) c y) s a
    · rw [zn_t p]
      have fin : ∀ t : Nat, sid (I 137) s a = t → cntP P (a + 1) = cntP P a + if sd = t then 1 else 0 := fun t et => by
        by_cases e : sd = t
        · rw [cntP_t (hPa.mpr ⟨p, by rw [et, e]⟩), if_pos e]
        · rw [cntP_f (fun z => e (by rw [← (hPa.mp z).2, et])), if_neg e, Nat.add_zero]
      have z0 : (0 : Int32).toInt = 0 := rfl
      by_cases p1 : crI (I 137) s a ≤ 0
      · rw [if_pos p1]
        have p1' := i32_le0.mp p1
        by_cases p2 : 0 ≤ crI (I 137) s a
        · have p2' := p2
          rw [Int32.le_iff_toInt_le, z0] at p2'
          have es : sid (I 137) s a = 2 := by unfold sid; rw [if_neg (by omega), if_neg (by omega)]
          rw [if_pos p2, fin 2 es]; exact J 2 (by decide)
        · have p2' := p2
          rw [Int32.le_iff_toInt_le, z0] at p2'
          have es : sid (I 137) s a = 1 := by unfold sid; rw [if_neg (by omega), if_pos (by omega)]
          rw [if_neg p2, fin 1 es]; exact J 1 (by decide)
      · rw [if_neg p1]
        have p1' : ¬ (crI (I 137) s a).toInt ≤ 0 := fun z => p1 (i32_le0.mpr z)
        have es : sid (I 137) s a = 0 := by unfold sid; rw [if_pos (by omega)]
        rw [fin 0 es]; exact J 0 (by decide)
    · rw [zn_f p, cntP_f (fun z => p (hPa.mp z).1), nI_1]
  · intro g _ _
    show L_X12_out_50 E (rr w 163) (nI s) (nI sd) (nI y) (g + 1) (nI (cntP P (2 * c 1))) (nI (2 * c 1)) (Hw E w I L Q) = _
    rw [L_X12_out_50]
    simp (disch := omega) only [Option.bind_some, Option.map_some, Option.join, cI_r, cL_r, cV_r, xI_r, xL_r, xV_r, xI_t, xL_t, xV_t, lt_r, rtZ_0, rtZ_1, rtZ_zb, m2, m3, m4, m5, m6, m7, m8, m9, m10, m11, m12, m13, m14, m15, m16, m17, m18, m19, m20, m21, m22, m23, m24, m25, m26, m27, m28, m29, m30, m31, m32, m40, m41, m60, m63, m64, m90, m99, m100, m120, m127, m164, m173, m200, m240, m255, m450, m480, m650, m722, m762, m960, m1000000, m2838, m2988, m4095, pk_mul, nI_add, nI_1, nI_leI, nI_ltI, nI_eq, ix_n, gf163_0, ga137, show ix 1 2988 = some 1 from rfl, e1, if_pos]
theorem op_out (hG : 100000 ≤ E.2.2.1) (q : Inv w I L Q) (x1 x2 x3 : Int32) : OpI E w (fun h => F_L_out E (rr w 136) x1 x2 x3 (rr w 164) h) (fun h => F_X12_out E (rr w 163) x1 x2 x3 h) I L Q := by
  have q0 := q
  obtain ⟨c, qc⟩ := q
  have qc' : InvC w I L Q c := qc
  obtain ⟨q1, q2, q3, q4, q5, q6, q7, q8, q9, q10, q11, q12, q13⟩ := qc
  have k1 := q1.1 1 (by decide)
  simp only [mx] at k1
  have e1 : I 0 3 = nI (c 1) := q2.2.1.1.trans k1.1
  have k1' : (up2 I 163 3 0) 137 1 = nI (c 1) := k1.1
  by_cases p1 : bl x1 (4 * c 1)
  · by_cases p2 : bd x2 0 2
    · have z2 := (bd_iff (by decide)).mp p2
      have z22 : x2 ≤ 2 := Int32.not_lt.mp z2.2
      by_cases p3 : bd x3 0 200
      · obtain ⟨s, rfl, hs⟩ := p1
        obtain ⟨sd, rfl, -, hsd⟩ := p2
        obtain ⟨y, rfl, -, hy⟩ := p3
        have p1 : bl (nI s) (4 * c 1) := ⟨s, rfl, hs⟩
        have p2 : bd (nI sd) 0 2 := ⟨sd, rfl, by omega, hsd⟩
        have p3 : bd (nI y) 0 200 := ⟨y, rfl, by omega, hy⟩
        obtain ⟨I1, L1, a1, a2, a3, a4⟩ := c_prepare (E := E) (w := w) (I := I) (L := L) (Q := Q) hG q1 q2 q5 hy
        have q2a : LandR I1 (I 137) c := LandR_c (fun j hj => a1 j (by omega) (by omega)) q2
        obtain ⟨I2, L2, b1, b2, b3, b4, b5⟩ := c_look (E := E) (w := w) (I := I1) (L := L1) (Q := Q) hG q1 q2a a3 hy hs
        have hI2 : ∀ k, k ≠ 32 → k ≠ 38 → I2 k = I k := fun k h1 h2 => (b1 k h2).trans (a1 k h1 h2)
        have hL2 : ∀ k, ¬ (32 ≤ k ∧ k < 40) → L2 k = L k := fun k h1 => (b2 k (by omega)).trans (a2 k h1)
        generalize hP : (fun a => isOt (I 137) c (thr0 (I 137) c y) s a ∧ sid (I 137) s a = sd) = P
        have ec : cntP (b64 (L2 39 (8 * s + 2 * sd))) 64 + cntP (b64 (L2 39 (8 * s + 2 * sd + 1))) 64 = cntP P (2 * c 1) := by
          have e2 : cntP P 128 = cntP P (2 * c 1) := cnt_gap (by omega) (fun j h1 h2 z => by rw [← hP] at z; have := z.1.1; omega)
          rw [← e2, show 128 = 64 + 64 from rfl, cnt_add]
          have f0 : cntP P 64 = cntP (b64 (L2 39 (8 * s + 2 * sd))) 64 := cnt_c (fun j hj => by
            have z := (b4 0 (by decide) j hj).1 sd (by omega)
            rw [Nat.mul_zero, Nat.zero_add, Nat.add_zero] at z
            rw [z, ← hP])
          have f1 : cntP (fun j => P (64 + j)) 64 = cntP (b64 (L2 39 (8 * s + 2 * sd + 1))) 64 := cnt_c (fun j hj => by
            have z := (b4 1 (by decide) j hj).1 sd (by omega)
            rw [Nat.mul_one] at z
            rw [z, ← hP])
          rw [f0, f1]
        generalize ev : nI (cntP P (2 * c 1)) = v
        have hc : F_X11_out E (rr w 136) (nI s) (nI sd) (nI y) (Hw E w I L Q) = rtI v (Hw E w I2 L2 Q) := by
          unfold F_X11_out
          simp (disch := omega) only [Option.bind_some, Option.map_some, Option.join, cI_r, cL_r, cV_r, xI_r, xL_r, xV_r, xI_t, xL_t, xV_t, lt_r, rtZ_0, rtZ_1, rtZ_zb, o136, f_needState e1 (show c 1 < 2 ^ 28 by omega), nd_t p1, if_neg z2.1, if_pos z22, f_needYear, nd_t p3, gf136_3, o32, a4, b5, gf32_11, ga39, m2, pk_mul, nI_add, nI_1, ix_n, f_bitCount, ec, ev]
          rw [if_pos (show nI sd ≤ nI 2 from z22)]
        have hT : (up2 I2 163 3 0) 137 = I 137 := by rw [up2_row _ _ (by decide), hI2 137 (by decide) (by decide)]
        have k1'' : (up2 I2 163 3 0) 137 1 = nI (c 1) := by rw [hT]; exact k1.1
        have hm := m_out50 (E := E) (w := w) (I := up2 I2 163 3 0) (L := up2 L2 164 0 v.toInt64) (Q := Q) (s := s) (y := y) (sd := sd) (c := c) hG (by rw [hT]; exact q1) hs (by omega)
        rw [hT, hP, ev] at hm
        refine ⟨0, v, I2, up2 I2 163 3 0, up2 L2 164 0 v.toInt64, up2 L2 164 0 v.toInt64, Q, Q, ?_, ?_, Inv_re qc' (fun k i h => ?_) (fun k h => ?_) (fun k _ _ => rfl) ?_ ?_ ?_ q8 q9 q10, up2_s _ _ _ _, fun _ => up2_s _ _ _ _⟩
        · show F_L_out E (rr w 136) (nI s) (nI sd) (nI y) (rr w 164) (Hw E w I L Q) = _
          unfold F_L_out
          simp only [Option.bind_some, Option.map_some, Option.join, cI_r, cL_r, cV_r, xI_r, xL_r, xV_r, xI_t, xL_t, xV_t, lt_r, rtZ_0, rtZ_1, rtZ_zb, o136, hc, pa164, ix01]
        · show F_X12_out E (rr w 163) (nI s) (nI sd) (nI y) _ = _
          unfold F_X12_out
          simp (disch := omega) only [Option.bind_some, Option.map_some, Option.join, cI_r, cL_r, cV_r, xI_r, xL_r, xV_r, xI_t, xL_t, xV_t, lt_r, rtZ_0, rtZ_1, rtZ_zb, pf163_3, o163, f_isState k1'' (show c 1 < 2 ^ 28 by omega), zn_t p1, f_wi 2 (by decide) (show (nI 2).toInt64 = 2 by rfl), zi_t p2, f_isYear, zn_t p3, hm]
        · unfold kpI at h
          rw [up2_ne _ _ _ _ (fun e => by cases e; omega), hI2 k (by omega) (by omega)]
        · unfold kpL at h
          rw [up2_row _ _ (by omega), hL2 k (by omega)]
        · exact MapR_c (I := I2) (L := L2) (up2_row _ _ (by decide)) (up2_row _ _ (by decide)) (fun k h1 h2 => up2_row _ _ (by omega)) b3.1
        · exact RefR_c (by rw [up2_i _ _ _ (by decide), hI2 163 (by decide) (by decide)]) (by rw [up2_row _ _ (by decide), hI2 142 (by decide) (by decide)]) (by rw [up2_row _ _ (by decide), hL2 140 (by omega)]) (by rw [up2_row _ _ (by decide), hL2 141 (by omega)]) q6
        · exact StepsR_k (fun k h1 h2 => by rw [up2_row _ _ (by omega), hI2 k (by omega) (by omega)]) (fun k h1 h2 => by rw [up2_row _ _ (by omega), hL2 k (by omega)]) q7
      · refine ⟨2, 0, I, up2 (up2 I 163 3 0) 163 3 2, L, L, Q, Q, ?_, ?_, Inv_t (Inv_t q0), up2_s _ _ _ _, fun e => absurd e (by decide)⟩
        · show F_L_out E (rr w 136) x1 x2 x3 (rr w 164) (Hw E w I L Q) = _
          unfold F_L_out F_X11_out
          simp only [Option.bind_some, Option.map_some, Option.join, cI_r, cL_r, cV_r, xI_r, xL_r, xV_r, xI_t, xL_t, xV_t, lt_r, rtZ_0, rtZ_1, rtZ_zb, o136, f_needState e1 (show c 1 < 2 ^ 28 by omega), nd_t p1, if_neg z2.1, if_pos z22, f_needYear, nd_f p3, if_true]
        · show F_X12_out E (rr w 163) x1 x2 x3 _ = _
          unfold F_X12_out
          simp only [Option.bind_some, Option.map_some, Option.join, cI_r, cL_r, cV_r, xI_r, xL_r, xV_r, xI_t, xL_t, xV_t, lt_r, rtZ_0, rtZ_1, rtZ_zb, pf163_3, o163, f_isState k1' (show c 1 < 2 ^ 28 by omega), zn_t p1, f_wi 2 (by decide) (show (nI 2).toInt64 = 2 by rfl), zi_t p2, f_isYear, zn_f p3, f_fails]
    · refine ⟨2, 0, I, up2 (up2 I 163 3 0) 163 3 2, L, L, Q, Q, ?_, ?_, Inv_t (Inv_t q0), up2_s _ _ _ _, fun e => absurd e (by decide)⟩
      · show F_L_out E (rr w 136) x1 x2 x3 (rr w 164) (Hw E w I L Q) = _
        unfold F_L_out F_X11_out
        by_cases c1 : x2 < 0
        · simp only [Option.bind_some, Option.map_some, Option.join, cI_r, cL_r, cV_r, xI_r, xL_r, xV_r, xI_t, xL_t, xV_t, lt_r, rtZ_0, rtZ_1, rtZ_zb, o136, f_needState e1 (show c 1 < 2 ^ 28 by omega), nd_t p1, if_pos c1, if_true]
        · have c2 : ¬ x2 ≤ 2 := fun z => p2 ((bd_iff (by decide)).mpr ⟨c1, Int32.not_lt.mpr z⟩)
          simp only [Option.bind_some, Option.map_some, Option.join, cI_r, cL_r, cV_r, xI_r, xL_r, xV_r, xI_t, xL_t, xV_t, lt_r, rtZ_0, rtZ_1, rtZ_zb, o136, f_needState e1 (show c 1 < 2 ^ 28 by omega), nd_t p1, if_neg c1, if_neg c2, if_true]
      · show F_X12_out E (rr w 163) x1 x2 x3 _ = _
        unfold F_X12_out
        simp only [Option.bind_some, Option.map_some, Option.join, cI_r, cL_r, cV_r, xI_r, xL_r, xV_r, xI_t, xL_t, xV_t, lt_r, rtZ_0, rtZ_1, rtZ_zb, pf163_3, o163, f_isState k1' (show c 1 < 2 ^ 28 by omega), zn_t p1, f_wi 2 (by decide) (show (nI 2).toInt64 = 2 by rfl), zi_f p2, f_fails]
  · refine ⟨1, 0, I, up2 (up2 I 163 3 0) 163 3 1, L, L, Q, Q, ?_, ?_, Inv_t (Inv_t q0), up2_s _ _ _ _, fun e => absurd e (by decide)⟩
    · show F_L_out E (rr w 136) x1 x2 x3 (rr w 164) (Hw E w I L Q) = _
      unfold F_L_out F_X11_out
      simp only [Option.bind_some, Option.map_some, Option.join, cI_r, cL_r, cV_r, xI_r, xL_r, xV_r, xI_t, xL_t, xV_t, lt_r, rtZ_0, rtZ_1, rtZ_zb, o136, f_needState e1 (show c 1 < 2 ^ 28 by omega), nd_f p1, String.reduceEq, if_false, if_true]
    · show F_X12_out E (rr w 163) x1 x2 x3 _ = _
      unfold F_X12_out
      simp only [Option.bind_some, Option.map_some, Option.join, cI_r, cL_r, cV_r, xI_r, xL_r, xV_r, xI_t, xL_t, xV_t, lt_r, rtZ_0, rtZ_1, rtZ_zb, pf163_3, o163, f_isState k1' (show c 1 < 2 ^ 28 by omega), zn_f p1, f_fails]
end
