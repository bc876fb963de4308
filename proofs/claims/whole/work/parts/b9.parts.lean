/-! parts -/
def snS (T : Ro) (c : Nat → Nat) (y : Nat) (ks : Int32) (q : Nat) : Prop := ∃ p, p < 64 ∧ spl T q = nI p ∧ senK T c y ks p
theorem b64_all {j : Nat} (hj : j < 64) : b64 (-1) j := by
  have e : (-1 : Int64).toBitVec = BitVec.allOnes 64 := by decide
  unfold b64
  rw [e, BitVec.getLsbD_allOnes]
  exact decide_eq_true hj
theorem b64_but {x : Int64} {i j : Nat} (hi : i < 64) (hj : j < 64) : b64 (x &&& (((1 : Int64) <<< ((nI i).toInt64 &&& 63)) ^^^ -1)) j ↔ b64 x j ∧ j ≠ i := by
  rw [b64_and, b64_xor, b64_one hi]
  exact and_congr_right fun _ => ⟨fun h e => h ⟨fun _ => b64_all hj, fun _ => e⟩, fun h e => h (e.mpr (b64_all hj))⟩
theorem cl_b {L : Nat → Nat → Int64} {k s q : Nat} (hs : s < 256) (hq : q < 256) : b256 (up2 L k (s / 64) (L k (s / 64) &&& (((1 : Int64) <<< ((nI (s % 64)).toInt64 &&& 63)) ^^^ -1)) k) 0 q ↔ b256 (L k) 0 q ∧ q ≠ s := by
  unfold b256
  rw [Nat.zero_add]
  by_cases e : q / 64 = s / 64
  · rw [e, up2_s, b64_but (by omega) (by omega)]
    exact and_congr_right fun _ => by omega
  · rw [up2_i _ _ _ e]
    exact ⟨fun h => ⟨h, fun g => e (by rw [g])⟩, fun h => h.1⟩
section
variable {E : Ev} {w : Wo} {I I1 I2 : Nat → Nat → Int32} {L L1 L2 : Nat → Nat → Int64} {Q Q1 Q2 : Nat → Nat → Option Nat} {c : Nat → Nat} {T : Ro} {y : Nat}
theorem m_parts64 {k n : Nat} (hG : 100000 ≤ E.2.2.1) (q1 : WfT (I 137) c) (hk : k < c 4) (hn : n < 12) (hX : ∀ q, q < 256 → b256 (L 151) 0 q → q < 4 * c 1) : ∃ L', (∀ k', k' ≠ 151 → L' k' = L k') ∧ (∀ q, q < 256 → (b256 (L' 151) 0 q ↔ b256 (L 151) 0 q ∧ snS (I 137) c y (knd (I 137) k n) q)) ∧ ∀ K, L_X12_parts_64 E K (rr w 163) (nI k) (nI y) (nI n) E.2.2.1 0 (Hw E w I L Q) = K (Hw E w I L' Q) := by
  have k0 : c 0 ≤ 40 := (q1.1 0 (by decide)).2
  have k1 : c 1 ≤ 60 := (q1.1 1 (by decide)).2
  generalize hW : snS (I 137) c y (knd (I 137) k n) = W
  refine lpK2 (ρ := (Hp → Rs) → Rs) (σ := Nat → Nat → Int64) (Lp := fun g i s => fun K => L_X12_parts_64 E K (rr w 163) (nI k) (nI y) (nI n) g (nI i) (Hw E w I s Q)) (K := fun s => fun K => K (Hw E w I s Q)) (Iv := fun i s => (∀ k', k' ≠ 151 → s k' = L k') ∧ ∀ q, q < 256 → (b256 (s 151) 0 q ↔ b256 (L 151) 0 q ∧ (q < i → W q))) (N := 240) (g := E.2.2.1) (i := 0) (s := L) ?_ ?_ ?_ (by omega) (by omega) ⟨fun _ _ => rfl, fun q hq => ⟨fun h => ⟨h, fun g => absurd g (by omega)⟩, fun h => h.1⟩⟩
  · rintro L1 ⟨z1, z2⟩ ee
    refine ⟨L1, z1, fun q hq => ?_, fun K => congrFun ee K⟩
    rw [z2 q hq]
    exact and_congr_right fun h => ⟨fun g => g (by have := hX q hq h; omega), fun g _ => g⟩
  · rintro g i L1 hi ⟨z1, z2⟩
    have hh := f_has (E := E) (w := w) (I := I) (L := L1) (Q := Q) (k := 151) (n := 4) (a := 0) (s := i) la151 (by decide) (by omega)
    by_cases p : b256 (L1 151) 0 i
    · have lt : i < 4 * c 1 := hX i (by omega) ((z2 i (by omega)).mp p).1
      obtain ⟨p0, ep, hp0⟩ := spl_w q1 lt
      have sn := m_isSeenAt (E := E) (w := w) (I := I) (L := L1) (Q := Q) (y := y) (k := k) (n := n) (p := p0) hG q1 hk hn
      have eW : W i ↔ senK (I 137) c y (knd (I 137) k n) p0 := by
        rw [← hW]
        refine ⟨fun ⟨p', h1, h2, h3⟩ => ?_, fun h => ⟨p0, by omega, ep, h⟩⟩
        have : p' = p0 := (nI_eq (by omega) (by omega)).mp (by rw [← h2, ep])
        rw [← this]; exact h3
      rw [zb_c eW.symm] at sn
      have st : ∀ K, L_X12_parts_64 E K (rr w 163) (nI k) (nI y) (nI n) (g + 1) (nI i) (Hw E w I L1 Q) = if ¬ zb (W i) = 0 then L_X12_parts_64 E K (rr w 163) (nI k) (nI y) (nI n) g (nI (i + 1)) (Hw E w I L1 Q) else L_X12_parts_64 E K (rr w 163) (nI k) (nI y) (nI n) g (nI (i + 1)) (Hw E w I (up2 L1 151 (i / 64) (L1 151 (i / 64) &&& (((1 : Int64) <<< ((nI (i % 64)).toInt64 &&& 63)) ^^^ -1))) Q) := fun K => by
        rw [L_X12_parts_64]
        simp (disch := omega) only [Option.bind_some, Option.map_some, Option.join, cI_r, cL_r, cV_r, xI_r, xL_r, xV_r, xI_t, xL_t, xV_t, lt_r, rtZ_0, rtZ_1, rtZ_zb, gf163_26, show F_X12_has E (rr w 151) 0 (nI i) (Hw E w I L1 Q) = _ from hh, zi_t p, m240, nI_leI, if_neg, o163, f_placeOf, ep, sn, m6, m31, m63, sh6, ad63, ga151, pa151, ix_n, nI_1]
      by_cases p2 : W i
      · refine ⟨L1, ⟨z1, fun q hq => ?_⟩, by funext K; show L_X12_parts_64 E K (rr w 163) (nI k) (nI y) (nI n) (g + 1) (nI i) (Hw E w I L1 Q) = _; rw [st, zn_t p2]⟩
        rw [z2 q hq]
        refine and_congr_right fun _ => ⟨fun h h2 => ?_, fun h h2 => h (by omega)⟩
        by_cases e : q = i
        · rw [e]; exact p2
        · exact h (by omega)
      · refine ⟨up2 L1 151 (i / 64) (L1 151 (i / 64) &&& (((1 : Int64) <<< ((nI (i % 64)).toInt64 &&& 63)) ^^^ -1)), ⟨fun k' hk' => by rw [up2_row _ _ hk']; exact z1 k' hk', fun q hq => ?_⟩, by funext K; show L_X12_parts_64 E K (rr w 163) (nI k) (nI y) (nI n) (g + 1) (nI i) (Hw E w I L1 Q) = _; rw [st, zn_f p2]⟩
        rw [cl_b (by omega) hq, z2 q hq]
        constructor
        · rintro ⟨⟨h1, h2⟩, h3⟩
          exact ⟨h1, fun h => h2 (by omega)⟩
        · rintro ⟨h1, h2⟩
          exact ⟨⟨h1, fun h => h2 (by omega)⟩, fun e => p2 (by rw [← e]; exact h2 (by omega))⟩
    · refine ⟨L1, ⟨z1, fun q hq => ?_⟩, ?_⟩
      · rw [z2 q hq]
        refine and_congr_right fun h0 => ⟨fun h h2 => ?_, fun h h2 => h (by omega)⟩
        by_cases e : q = i
        · subst e
          exact absurd ((z2 q hq).mpr ⟨h0, fun h => absurd h (by omega)⟩) p
        · exact h (by omega)
      · funext K
        show L_X12_parts_64 E K (rr w 163) (nI k) (nI y) (nI n) (g + 1) (nI i) (Hw E w I L1 Q) = _
        rw [L_X12_parts_64]
        simp (disch := omega) only [Option.bind_some, Option.map_some, Option.join, cI_r, cL_r, cV_r, xI_r, xL_r, xV_r, xI_t, xL_t, xV_t, lt_r, rtZ_0, rtZ_1, rtZ_zb, gf163_26, show F_X12_has E (rr w 151) 0 (nI i) (Hw E w I L1 Q) = _ from hh, zi_f p, m240, nI_leI, if_neg, nI_1]
  · rintro g L1 _
    funext K
    show L_X12_parts_64 E K (rr w 163) (nI k) (nI y) (nI n) (g + 1) (nI 240) (Hw E w I L1 Q) = _
    rw [L_X12_parts_64]
    simp (disch := omega) only [m2, m3, m4, m5, m6, m7, m8, m9, m10, m11, m12, m13, m14, m15, m16, m17, m18, m19, m20, m21, m22, m23, m24, m25, m26, m27, m28, m29, m30, m31, m32, m40, m41, m60, m63, m64, m90, m99, m100, m120, m127, m164, m173, m200, m240, m255, m450, m480, m650, m722, m762, m960, m1000000, m2838, m2988, m4095, pk_mul, nI_add, nI_1, nI_leI, nI_ltI, nI_eq, ix_n, if_pos]
def ptP (T : Ro) (c : Nat → Nat) (y k z s0 t g n : Nat) : Prop := ∀ p, p < 64 → ((lsP T c y k z s0 t p ∧ senK T c y (knd T k n) p) ↔ p = g)
theorem c_parts43 {z k t s0 g : Nat} {v : Int64} (hG : 100000 ≤ E.2.2.1) (hw : WC I L Q T c y k) (hg : Gnd I L T c y k) (g40 : g < 40) (hv : ∀ p, p < 64 → (b64 v p ↔ lsP T c y k z s0 t p)) : L_X11_parts_43 E (rr w 136) v ((1 : Int64) <<< ((nI g).toInt64 &&& 63)) E.2.2.1 0 (Hw E w I L Q) = rtI (fstP (ptP T c y k z s0 t g) 12) (Hw E w I L Q) := by
  generalize hP : ptP T c y k z s0 t g = P
  refine lpE (σ := Unit) (Lp := fun g' i _ => L_X11_parts_43 E (rr w 136) v ((1 : Int64) <<< ((nI g).toInt64 &&& 63)) g' (nI i) (Hw E w I L Q)) (Iv := fun i _ => ∀ j, j < i → ¬ P j) (Post := fun o => o = rtI (fstP P 12) (Hw E w I L Q)) (N := 12) ?_ ?_ E.2.2.1 0 () (by omega) (by omega) (fun j hj => absurd hj (by omega))
  · intro g' i _ hi hn
    obtain ⟨u, u1, u2⟩ := c_sen (E := E) (w := w) (n := i) hG hw hg hi
    have key : (v &&& u) = (1 : Int64) <<< ((nI g).toInt64 &&& 63) ↔ P i := by
      rw [← hP]
      constructor
      · intro e p hp
        rw [← hv p hp, ← u1 p hp, ← b64_and, e, b64_one (by omega)]
      · intro e
        exact b64_ext fun p hp => by rw [b64_and, hv p hp, u1 p hp, b64_one (by omega)]; exact e p hp
    have st : L_X11_parts_43 E (rr w 136) v ((1 : Int64) <<< ((nI g).toInt64 &&& 63)) (g' + 1) (nI i) (Hw E w I L Q) = if ¬ (v &&& u) = (1 : Int64) <<< ((nI g).toInt64 &&& 63) then L_X11_parts_43 E (rr w 136) v ((1 : Int64) <<< ((nI g).toInt64 &&& 63)) g' (nI (i + 1)) (Hw E w I L Q) else rtI (nI i) (Hw E w I L Q) := by
      rw [L_X11_parts_43]
      simp (disch := omega) only [Option.bind_some, Option.map_some, Option.join, cI_r, cL_r, cV_r, xI_r, xL_r, xV_r, xI_t, xL_t, xV_t, lt_r, rtZ_0, rtZ_1, rtZ_zb, m12, nI_leI, nI_1, if_neg, gf136_4, o40, u2]
    by_cases p : P i
    · right
      show L_X11_parts_43 E (rr w 136) v ((1 : Int64) <<< ((nI g).toInt64 &&& 63)) (g' + 1) (nI i) (Hw E w I L Q) = _
      rw [st, if_neg (not_not_intro (key.mpr p)), fstP_at hi p hn]
    · left
      refine ⟨(), fun j hj => ?_, ?_⟩
      · by_cases e : j = i
        · subst e; exact p
        · exact hn j (by omega)
      · show L_X11_parts_43 E (rr w 136) v ((1 : Int64) <<< ((nI g).toInt64 &&& 63)) (g' + 1) (nI i) (Hw E w I L Q) = _
        rw [st, if_pos (fun e => p (key.mp e))]
  · intro g' _ hn
    show L_X11_parts_43 E (rr w 136) v ((1 : Int64) <<< ((nI g).toInt64 &&& 63)) (g' + 1) (nI 12) (Hw E w I L Q) = _
    rw [L_X11_parts_43, fstP_no hn]
    simp (disch := omega) only [m12, nI_leI, if_pos]
theorem MW.l {L' : Nat → Nat → Int64} (h : MW I L T c) (h1 : L' 140 = L 140) (h2 : L' 141 = L 141) : MW I L' T c := ⟨h.1, h.2.1, RefR_c rfl rfl h1 h2 h.2.2⟩
theorem m_parts38 {z k t s0 g : Nat} (hG : 100000 ≤ E.2.2.1) (h : MW I L T c) (hy : y ≤ 200) (hk : k < c 4) (hz : z < c 5) (ht : T (764 + 173 * z) = nI t) (t10 : t ≤ 10) (eg : T (762 + 173 * z) = nI g) (g40 : g < 40) (hs : s0 < 4 * c 1) : ∃ I' L', MF I I' L L' ∧ MW I' L' T c ∧ L_X12_parts_38 E (rr w 163) (nI z) (nI k) (nI s0) (nI y) E.2.2.1 0 (Hw E w I L Q) = rtI (fstP (ptP T c y k z s0 t g) 12) (Hw E w I' L' Q) := by
  have k5 : c 5 ≤ 12 := (h.2.1.1 5 (by decide)).2
  have k1 : c 1 ≤ 60 := (h.2.1.1 1 (by decide)).2
  have k0 : c 0 ≤ 40 := (h.2.1.1 0 (by decide)).2
  generalize hP : ptP T c y k z s0 t g = P
  refine lpE (σ := (Nat → Nat → Int32) × (Nat → Nat → Int64)) (Lp := fun g' i s => L_X12_parts_38 E (rr w 163) (nI z) (nI k) (nI s0) (nI y) g' (nI i) (Hw E w s.1 s.2 Q)) (Iv := fun i s => (MF I s.1 L s.2 ∧ MW s.1 s.2 T c) ∧ ∀ j, j < i → ¬ P j) (Post := fun o => ∃ I' L', MF I I' L L' ∧ MW I' L' T c ∧ o = rtI (fstP P 12) (Hw E w I' L' Q)) (N := 12) ?_ ?_ E.2.2.1 0 (I, L) (by omega) (by omega) ⟨⟨MF.rf, h⟩, fun j hj => absurd hj (by omega)⟩
  · rintro g' i ⟨I1, L1⟩ hi ⟨⟨z1, z2⟩, hn⟩
    dsimp only at *
    obtain ⟨I2, L2, r, d1, d2, -, -, -, d6, d7⟩ := m_go (E := E) (w := w) (Q := Q) (y := y) (k := k) (z := z) (m := t) (t := t) (s0 := s0) hG z2 hy hk hz ht t10 (Nat.le_refl t) hs
    obtain ⟨L3, e1, e2, e3⟩ := m_parts64 (E := E) (w := w) (I := I2) (L := L2) (Q := Q) (y := y) (k := k) (n := i) (c := c) hG (by rw [d2.1]; exact d2.2.1) hk hi (fun q hq g => endS_lt hs ((d6 q hq).mp g))
    obtain ⟨I3, f1, f2, f3⟩ := m_placesOf (E := E) (w := w) (I := I2) (L := L3) (Q := Q) (t := 153) (c := c) hG (by rw [d2.1]; exact d2.2.1) (by omega) (lv153 (w := w)).1 (lv153 (w := w)).2
    rw [d2.1] at e2 f2 f3
    have mf : MF I1 I3 L1 L3 := ⟨fun k' hk' => by rw [f1 k' (by omega)]; exact d1.1 k' hk', fun j hj => by rw [f1 163 (by omega)]; exact d1.2.1 j hj, fun k' hk' => by rw [e1 k' (by omega)]; exact d1.2.2 k' hk'⟩
    have mw : MW I3 L3 T c := (d2.l (e1 140 (by omega)) (e1 141 (by omega))).i (fun k' hk' => f1 k' (by omega))
    have pl : ∀ p, p < 64 → (plO T c (L3 151) (4 * c 1) p ↔ lsP T c y k z s0 t p ∧ senK T c y (knd T k i) p) := fun p hp => by
      constructor
      · rintro ⟨s, h1, h2, h3⟩
        obtain ⟨h4, p', h5, h6, h7⟩ := (e2 s (by omega)).mp h2
        have : p' = p := (nI_eq (by omega) (by omega)).mp (by rw [← h6, h3])
        subst this
        exact ⟨⟨s, h1, (d6 s (by omega)).mp h4, h3⟩, h7⟩
      · rintro ⟨⟨s, h1, h2, h3⟩, h4⟩
        exact ⟨s, h1, (e2 s (by omega)).mpr ⟨(d6 s (by omega)).mpr h2, p, hp, h3, h4⟩, h3⟩
    have key : P i ↔ cntP (plO T c (L3 151) (4 * c 1)) 40 = 1 ∧ plO T c (L3 151) (4 * c 1) g := by
      rw [cnt_one g40, ← hP]
      refine ⟨fun x p hp => (pl p (by omega)).trans (x p (by omega)), fun x p hp => ?_⟩
      by_cases e : p < 40
      · exact (pl p hp).symm.trans (x p e)
      · exact ⟨fun g => by have := lsP_lt h.2.1 (by omega) g.1; omega, fun g => by omega⟩
    generalize plO T c (L3 151) (4 * c 1) = R at *
    have le : cntP R 40 ≤ 40 := cntP_le 40
    have e1' : nI (cntP R 40) = 1 ↔ cntP R 40 = 1 := nI_eq (by omega) (show 1 < 2 ^ 31 by decide)
    have et1 : I1 137 (764 + 173 * z) = nI t := by rw [z2.1]; exact ht
    have eg3 : I3 137 (762 + 173 * z) = nI g := by rw [mw.1]; exact eg
    have st : L_X12_parts_38 E (rr w 163) (nI z) (nI k) (nI s0) (nI y) (g' + 1) (nI i) (Hw E w I1 L1 Q) = if ¬ nI (cntP R 40) = 1 then L_X12_parts_38 E (rr w 163) (nI z) (nI k) (nI s0) (nI y) g' (nI (i + 1)) (Hw E w I3 L3 Q) else if zb (R g) = 0 then L_X12_parts_38 E (rr w 163) (nI z) (nI k) (nI s0) (nI y) g' (nI (i + 1)) (Hw E w I3 L3 Q) else rtI (nI i) (Hw E w I3 L3 Q) := by
      rw [L_X12_parts_38]
      simp (disch := omega) only [Option.bind_some, Option.map_some, Option.join, cI_r, cL_r, cV_r, xI_r, xL_r, xV_r, xI_t, xL_t, xV_t, lt_r, rtZ_0, rtZ_1, rtZ_zb, m12, nI_leI, nI_1, if_neg, o163, f_sayingsOf, et1, d7, e3, gf163_28, f3, f_goalOf, eg3, ga153, ix_n, f2]
    by_cases p : P i
    · right
      have kk := key.mp p
      refine ⟨I3, L3, z1.tr mf, mw, ?_⟩
      show L_X12_parts_38 E (rr w 163) (nI z) (nI k) (nI s0) (nI y) (g' + 1) (nI i) (Hw E w I1 L1 Q) = _
      rw [st, if_neg (not_not_intro (e1'.mpr kk.1)), zi_t kk.2, fstP_at hi p hn]
    · left
      refine ⟨(I3, L3), ⟨⟨z1.tr mf, mw⟩, fun j hj => ?_⟩, ?_⟩
      · by_cases e : j = i
        · subst e; exact p
        · exact hn j (by omega)
      · show L_X12_parts_38 E (rr w 163) (nI z) (nI k) (nI s0) (nI y) (g' + 1) (nI i) (Hw E w I1 L1 Q) = _
        rw [st]
        by_cases c1 : cntP R 40 = 1
        · rw [if_neg (not_not_intro (e1'.mpr c1)), zi_f (fun x => p (key.mpr ⟨c1, x⟩))]
        · rw [if_pos (fun x => c1 (e1'.mp x))]
  · rintro g' ⟨I1, L1⟩ ⟨⟨z1, z2⟩, hn⟩
    dsimp only at *
    refine ⟨I1, L1, z1, z2, ?_⟩
    show L_X12_parts_38 E (rr w 163) (nI z) (nI k) (nI s0) (nI y) (g' + 1) (nI 12) (Hw E w I1 L1 Q) = _
    rw [L_X12_parts_38, fstP_no hn]
    simp (disch := omega) only [m12, nI_leI, if_pos]
theorem op_parts (hG : 100000 ≤ E.2.2.1) (q : Inv w I L Q) (x1 x2 x3 x4 : Int32) : OpI E w (fun h => F_L_parts E (rr w 136) x1 x2 x3 x4 (rr w 164) h) (fun h => F_X12_parts E (rr w 163) x1 x2 x3 x4 h) I L Q := by
  have q0 := q
  obtain ⟨c, qc⟩ := q
  have qc' : InvC w I L Q c := qc
  obtain ⟨q1, q2, q3, q4, q5, q6, q7, q8, q9, q10, q11, q12, q13⟩ := qc
  have hC := q1.1
  have hC' : Cts ((up2 I 163 3 0) 137) c := hC
  have k5 : c 5 ≤ 12 := (hC 5 (by decide)).2
  by_cases p1 : bl x1 (c 5) ∧ bl x2 (c 4) ∧ bl x3 (4 * c 1)
  · have nt := fun e => f_needTold2 (E := E) (w := w) (I := I) (L := L) (Q := Q) (e := e) hC q4.1.1 q3.2.1.1 q2.2.1.1 p1
    have p1' := p1
    obtain ⟨⟨z, rfl, hz⟩, ⟨k, rfl, hk⟩, ⟨s, rfl, hs⟩⟩ := p1'
    obtain ⟨t, et, ht⟩ := say_n q1 hz
    obtain ⟨g, eg, hg⟩ := goal_n q1 hz
    by_cases p2 : bd x4 0 200
    · obtain ⟨y, rfl, -, hy⟩ := p2
      have p2 : bd (nI y) 0 200 := ⟨y, rfl, by omega, hy⟩
      obtain ⟨I1, L1, a1, a2, a3, a4, -, a6⟩ := c_set (E := E) (w := w) (y := y) hG qc'.cw hy hk
      obtain ⟨I2, L2, Q2, v, b1, b2, b3, b4, b5, b6⟩ := c_lastPlaces (E := E) (w := w) (z := z) (t := t) (s0 := s) hG a2 a3 a4 hz et ht hs
      have cf := a1.tr b1
      have e23 : I2 23 z = nI g := (b2.2.2.2.2.1.1.2 z hz).1.trans eg
      have hc : F_X11_parts E (rr w 136) (nI z) (nI k) (nI s) (nI y) (Hw E w I L Q) = rtI (fstP (ptP (I 137) c y k z s t g) 12) (Hw E w I2 L2 Q2) := by
        unfold F_X11_parts
        simp (disch := omega) only [Option.bind_some, Option.map_some, Option.join, cI_r, cL_r, cV_r, xI_r, xL_r, xV_r, xI_t, xL_t, xV_t, lt_r, rtZ_0, rtZ_1, rtZ_zb, o136, nt, nd_t p2, a6, gf136_4, o40, b6, gf136_2, gf22_1, ga23, ix_n, e23, c_parts43 hG b3 (b4 k a4) hg b5]
      obtain ⟨I3, L3, d1, d2, d3⟩ := m_parts38 (E := E) (w := w) (Q := Q2) (y := y) (k := k) (z := z) (t := t) (s0 := s) hG (MW.of qc' (v := (fstP (ptP (I 137) c y k z s t g) 12).toInt64) cf) hy hk hz et ht eg hg hs
      refine OpI_ok qc' cf b2 d1 d2 ?_ ?_
      · show F_L_parts E (rr w 136) (nI z) (nI k) (nI s) (nI y) (rr w 164) (Hw E w I L Q) = _
        unfold F_L_parts
        simp only [Option.bind_some, Option.map_some, Option.join, cI_r, cL_r, cV_r, xI_r, xL_r, xV_r, xI_t, xL_t, xV_t, lt_r, rtZ_0, rtZ_1, rtZ_zb, o136, hc, pa164, ix01]
      · show F_X12_parts E (rr w 163) (nI z) (nI k) (nI s) (nI y) _ = _
        unfold F_X12_parts
        have hT : (up2 I2 163 3 0) 137 = I 137 := by rw [up2_row _ _ (by decide), cf.1 137 (by omega)]
        have hC2 : Cts ((up2 I2 163 3 0) 137) c := by rw [hT]; exact hC
        simp (disch := omega) only [Option.bind_some, Option.map_some, Option.join, cI_r, cL_r, cV_r, xI_r, xL_r, xV_r, xI_t, xL_t, xV_t, lt_r, rtZ_0, rtZ_1, rtZ_zb, pf163_3, o163, f_areThere hC2, zn_t p1, f_isYear, zn_t p2, d3]
    · refine OpI_no (k := 2) (b := 0) q0 (by decide) ?_ ?_
      · show F_L_parts E (rr w 136) (nI z) (nI k) (nI s) x4 (rr w 164) (Hw E w I L Q) = _
        unfold F_L_parts F_X11_parts
        simp only [Option.bind_some, Option.map_some, Option.join, cI_r, cL_r, cV_r, xI_r, xL_r, xV_r, xI_t, xL_t, xV_t, lt_r, rtZ_0, rtZ_1, rtZ_zb, o136, nt, nd_f p2, if_true]
      · show F_X12_parts E (rr w 163) (nI z) (nI k) (nI s) x4 _ = _
        unfold F_X12_parts
        simp only [Option.bind_some, Option.map_some, Option.join, cI_r, cL_r, cV_r, xI_r, xL_r, xV_r, xI_t, xL_t, xV_t, lt_r, rtZ_0, rtZ_1, rtZ_zb, pf163_3, o163, f_areThere hC', zn_t p1, f_isYear, zn_f p2, f_fails]
  · refine OpI_no (k := 1) (b := 0) q0 (by decide) ?_ ?_
    · show F_L_parts E (rr w 136) x1 x2 x3 x4 (rr w 164) (Hw E w I L Q) = _
      unfold F_L_parts F_X11_parts
      simp only [Option.bind_some, Option.map_some, Option.join, cI_r, cL_r, cV_r, xI_r, xL_r, xV_r, xI_t, xL_t, xV_t, lt_r, rtZ_0, rtZ_1, rtZ_zb, o136, f_needTold1 hC q4.1.1 q3.2.1.1 q2.2.1.1 p1, String.reduceEq, if_false, if_true]
    · show F_X12_parts E (rr w 163) x1 x2 x3 x4 _ = _
      unfold F_X12_parts
      simp only [Option.bind_some, Option.map_some, Option.join, cI_r, cL_r, cV_r, xI_r, xL_r, xV_r, xI_t, xL_t, xV_t, lt_r, rtZ_0, rtZ_1, rtZ_zb, pf163_3, o163, f_areThere hC', zn_f p1, f_fails]
end
