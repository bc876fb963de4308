/-! fill of a stretch; look -/
section
variable {E : Ev} {w : Wo} {I : Nat → Nat → Int32} {L : Nat → Nat → Int64} {Q : Nat → Nat → Option Nat} {c : Nat → Nat} {T : Ro} {x : Int32}
def IA (w : Wo) (k n : Nat) : Prop := lvk w k ∧ sh k = .inl (0, n) ∧ n < 100000
theorem IA.ga {k n : Nat} {i : Int32} (h : IA w k n) : gaI E 0 (Hw E w I L Q) (rr w k) i = (ix i n).map (I k) := gaI_w h.1 h.2.1 (by decide) (by decide)
theorem IA.pa {k n : Nat} {i x : Int32} (h : IA w k n) : paI E (Hw E w I L Q) (rr w k) i x = (ix i n).map (fun j => Hw E w (up2 I k j x) L Q) := paI_w h.1 h.2.1
theorem f_range {n lo hi : Nat} {h : Hp} (h1 : lo ≤ hi) (h2 : hi ≤ n) (hn : n < 100000) : F_J7_rangeCheck_23922 E (nI n) (nI lo) (nI hi) h = rtV h := by
  unfold F_J7_rangeCheck_23922
  rw [if_pos (nI_le h1 (by omega)), if_pos (nI_pos' (by omega)), if_pos (nI_le h2 (by omega))]
theorem f_fillLR {k n lo hi : Nat} {v : Int64} (hG : 100000 ≤ E.2.2.1) (hk : LA w k n) (h1 : lo ≤ hi) (h2 : hi ≤ n) : F_J7_fill_bad5a E (rr w k) (nI lo) (nI hi) v (Hw E w I L Q) = rtV (Hw E w I (rs L k lo (hi - lo) (fun _ => v)) Q) := by
  have hn := hk.2.2
  unfold F_J7_fill_bad5a
  rw [aln_w hk.1 hk.2.1]
  simp only [Option.bind_some, Option.map_some, Option.join, cI_r, cL_r, cV_r, xI_r, xL_r, xV_r, xI_t, xL_t, xV_t, lt_r, rtZ_0, rtZ_1, rtZ_zb, show Int32.ofNat n = nI n from rfl, f_range h1 h2 hn]
  refine lpI (σ := Nat → Nat → Int64) (Lp := fun g i s => L_J7_fill_bad5a_10 E (rr w k) (nI hi) v g (nI (lo + i)) (Hw E w I s Q)) (Inv := fun i s => s = rs L k lo i (fun _ => v)) (N := hi - lo) ?_ ?_ E.2.2.1 0 L (by omega) (by omega) (rs_0 L k lo _).symm
  · intro g i s hi es
    subst es
    refine ⟨_, rfl, ?_⟩
    show L_J7_fill_bad5a_10 E (rr w k) (nI _) v (g + 1) (nI (lo + i)) _ = _
    rw [L_J7_fill_bad5a_10]
    simp (disch := omega) only [Option.bind_some, Option.map_some, Option.join, cI_r, cL_r, cV_r, xI_r, xL_r, xV_r, xI_t, xL_t, xV_t, lt_r, rtZ_0, rtZ_1, rtZ_zb, m2, m3, m4, m5, m6, m7, m8, m9, m10, m11, m12, m13, m14, m15, m16, m17, m18, m19, m20, m21, m22, m23, m24, m25, m26, m27, m28, m29, m30, m31, m32, m40, m41, m60, m63, m64, m90, m99, m100, m120, m127, m164, m173, m200, m240, m255, m450, m480, m650, m722, m762, m960, m1000000, m2838, m2988, m4095, pk_mul, nI_add, nI_1, nI_leI, nI_ltI, nI_eq, ix_n, if_neg, hk.pa, rs_s L k lo i (fun _ => v), Nat.add_assoc]
  · intro g s es
    subst es
    show L_J7_fill_bad5a_10 E (rr w k) (nI hi) v (g + 1) (nI (lo + (hi - lo))) _ = _
    rw [L_J7_fill_bad5a_10]
    simp (disch := omega) only [m2, m3, m4, m5, m6, m7, m8, m9, m10, m11, m12, m13, m14, m15, m16, m17, m18, m19, m20, m21, m22, m23, m24, m25, m26, m27, m28, m29, m30, m31, m32, m40, m41, m60, m63, m64, m90, m99, m100, m120, m127, m164, m173, m200, m240, m255, m450, m480, m650, m722, m762, m960, m1000000, m2838, m2988, m4095, pk_mul, nI_add, nI_1, nI_leI, nI_ltI, nI_eq, ix_n, if_pos]
theorem f_fillIR {k n lo hi : Nat} {v : Int32} (hG : 100000 ≤ E.2.2.1) (hk : IA w k n) (h1 : lo ≤ hi) (h2 : hi ≤ n) : F_J7_fill_fda19 E (rr w k) (nI lo) (nI hi) v (Hw E w I L Q) = rtV (Hw E w (rs I k lo (hi - lo) (fun _ => v)) L Q) := by
  have hn := hk.2.2
  unfold F_J7_fill_fda19
  rw [aln_w hk.1 hk.2.1]
  simp only [Option.bind_some, Option.map_some, Option.join, cI_r, cL_r, cV_r, xI_r, xL_r, xV_r, xI_t, xL_t, xV_t, lt_r, rtZ_0, rtZ_1, rtZ_zb, show Int32.ofNat n = nI n from rfl, f_range h1 h2 hn]
  refine lpI (σ := Nat → Nat → Int32) (Lp := fun g i s => L_J7_fill_fda19_10 E (rr w k) (nI hi) v g (nI (lo + i)) (Hw E w s L Q)) (Inv := fun i s => s = rs I k lo i (fun _ => v)) (N := hi - lo) ?_ ?_ E.2.2.1 0 I (by omega) (by omega) (rs_0 I k lo _).symm
  · intro g i s hi es
    subst es
    refine ⟨_, rfl, ?_⟩
    show L_J7_fill_fda19_10 E (rr w k) (nI _) v (g + 1) (nI (lo + i)) _ = _
    rw [L_J7_fill_fda19_10]
    simp (disch := omega) only [Option.bind_some, Option.map_some, Option.join, cI_r, cL_r, cV_r, xI_r, xL_r, xV_r, xI_t, xL_t, xV_t, lt_r, rtZ_0, rtZ_1, rtZ_zb, m2, m3, m4, m5, m6, m7, m8, m9, m10, m11, m12, m13, m14, m15, m16, m17, m18, m19, m20, m21, m22, m23, m24, m25, m26, m27, m28, m29, m30, m31, m32, m40, m41, m60, m63, m64, m90, m99, m100, m120, m127, m164, m173, m200, m240, m255, m450, m480, m650, m722, m762, m960, m1000000, m2838, m2988, m4095, pk_mul, nI_add, nI_1, nI_leI, nI_ltI, nI_eq, ix_n, if_neg, hk.pa, rs_s I k lo i (fun _ => v), Nat.add_assoc]
  · intro g s es
    subst es
    show L_J7_fill_fda19_10 E (rr w k) (nI hi) v (g + 1) (nI (lo + (hi - lo))) _ = _
    rw [L_J7_fill_fda19_10]
    simp (disch := omega) only [m2, m3, m4, m5, m6, m7, m8, m9, m10, m11, m12, m13, m14, m15, m16, m17, m18, m19, m20, m21, m22, m23, m24, m25, m26, m27, m28, m29, m30, m31, m32, m40, m41, m60, m63, m64, m90, m99, m100, m120, m127, m164, m173, m200, m240, m255, m450, m480, m650, m722, m762, m960, m1000000, m2838, m2988, m4095, pk_mul, nI_add, nI_1, nI_leI, nI_ltI, nI_eq, ix_n, if_pos]
theorem f_fillI {k n : Nat} {v : Int32} (hG : 100000 ≤ E.2.2.1) (hk : IA w k n) : F_J7_fill_53178 E (rr w k) v (Hw E w I L Q) = rtV (Hw E w (rs I k 0 n (fun _ => v)) L Q) := by
  have hn := hk.2.2
  unfold F_J7_fill_53178
  rw [aln_w hk.1 hk.2.1]
  show L_J7_fill_53178_5 E (rr w k) v (nI n) E.2.2.1 0 (Hw E w I L Q) = _
  refine lpI (σ := Nat → Nat → Int32) (Lp := fun g i s => L_J7_fill_53178_5 E (rr w k) v (nI n) g (nI i) (Hw E w s L Q)) (Inv := fun i s => s = rs I k 0 i (fun _ => v)) (N := n) ?_ ?_ E.2.2.1 0 I (by omega) (by omega) (rs_0 I k 0 _).symm
  · intro g i s hi es
    subst es
    refine ⟨_, rfl, ?_⟩
    have := rs_s I k 0 i (fun _ => v)
    rw [Nat.zero_add] at this
    show L_J7_fill_53178_5 E (rr w k) v (nI n) (g + 1) (nI i) _ = _
    rw [L_J7_fill_53178_5]
    simp (disch := omega) only [Option.bind_some, Option.map_some, Option.join, cI_r, cL_r, cV_r, xI_r, xL_r, xV_r, xI_t, xL_t, xV_t, lt_r, rtZ_0, rtZ_1, rtZ_zb, m2, m3, m4, m5, m6, m7, m8, m9, m10, m11, m12, m13, m14, m15, m16, m17, m18, m19, m20, m21, m22, m23, m24, m25, m26, m27, m28, m29, m30, m31, m32, m40, m41, m60, m63, m64, m90, m99, m100, m120, m127, m164, m173, m200, m240, m255, m450, m480, m650, m722, m762, m960, m1000000, m2838, m2988, m4095, pk_mul, nI_add, nI_1, nI_leI, nI_ltI, nI_eq, ix_n, if_neg, hk.pa, this]
  · intro g s es
    subst es
    show L_J7_fill_53178_5 E (rr w k) v (nI n) (g + 1) (nI n) _ = _
    rw [L_J7_fill_53178_5]
    simp (disch := omega) only [m2, m3, m4, m5, m6, m7, m8, m9, m10, m11, m12, m13, m14, m15, m16, m17, m18, m19, m20, m21, m22, m23, m24, m25, m26, m27, m28, m29, m30, m31, m32, m40, m41, m60, m63, m64, m90, m99, m100, m120, m127, m164, m173, m200, m240, m255, m450, m480, m650, m722, m762, m960, m1000000, m2838, m2988, m4095, pk_mul, nI_add, nI_1, nI_leI, nI_ltI, nI_eq, ix_n, if_pos]
theorem LkI_c {s : Nat} {D D' : Nat → Prop} {mo mb : Int64} {G : Nat → Int64} (h : ∀ o, D o ↔ D' o) (z : LkI T s D mo mb G) : LkI T s D' mo mb G := by
  have e : D = D' := funext fun o => propext (h o)
  rw [← e]; exact z
theorem c_look120 {S : Nat → Prop} {s hf : Nat} {y4 : Int32} {x0 mo mb : Int64} {K : Int64 → Int64 → Hp → Rs} (hG : 100000 ≤ E.2.2.1) (q1 : WfT T c) (q2 : LandR I T c) (hs : s < 4 * c 1) (hhf : hf < 2) (hS : ∀ v, S v → v < c 1) (hx : ∀ j, j < 64 → (b64 x0 j ↔ S ((64 * hf + j) / 2) ∧ ast T (64 * hf + j) = spl T s)) (hy : ∀ a, a < 120 → (nI a = y4 ↔ ¬ (s % 2 = 1 ∨ a ≠ s / 2 ^^^ 1))) (h : LkI T s (fun o => isOt T c S s o ∧ o < 64 * hf) mo mb (L 39)) : ∃ mo' mb' L', LkI T s (fun o => isOt T c S s o ∧ o < 64 * (hf + 1)) mo' mb' (L' 39) ∧ (∀ k, k ≠ 39 → L' k = L k) ∧ (∀ i, i < 8 * s ∨ 8 * s + 8 ≤ i → L' 39 i = L 39 i) ∧ L_X10_look_120 E K (rr w 32) (nI (8 * s)) y4 (aX T (s / 2)) (aY T (s / 2)) (nI hf) E.2.2.1 mo mb x0 (nI (cntP (b64 x0) 64)) (Hw E w I L Q) = K mo' mb' (Hw E w I L' Q) := by
  have k1 : c 1 ≤ 60 := (q1.1 1 (by decide)).2
  have hN : cntP (b64 x0) 64 ≤ 64 := cntP_le 64
  generalize eN : cntP (b64 x0) 64 = N at hN
  have big : ∀ o, isOt T c S s o → 64 * hf ≤ o → o < 64 * (hf + 1) → ∃ j, o = 64 * hf + j ∧ j < 64 ∧ b64 x0 j := fun o h1 h2 h3 => ⟨o - 64 * hf, by omega, by omega, by
    rw [hx _ (by omega), show 64 * hf + (o - 64 * hf) = o by omega]; exact ⟨h1.2.1, h1.2.2.1⟩⟩
  refine lpK2 (σ := Int64 × Int64 × Int64 × (Nat → Nat → Int64)) (Lp := fun g r t => L_X10_look_120 E K (rr w 32) (nI (8 * s)) y4 (aX T (s / 2)) (aY T (s / 2)) (nI hf) g t.1 t.2.1 t.2.2.1 (nI (N - r)) (Hw E w I t.2.2.2 Q)) (K := fun t => K t.1 t.2.1 (Hw E w I t.2.2.2 Q)) (Iv := fun r t => rem x0 r t.2.2.1 ∧ LkI T s (fun o => isOt T c S s o ∧ (o < 64 * hf ∨ ∃ j, o = 64 * hf + j ∧ j < 64 ∧ b64 x0 j ∧ cntP (b64 x0) j < r)) t.1 t.2.1 (t.2.2.2 39) ∧ (∀ k, k ≠ 39 → t.2.2.2 k = L k) ∧ (∀ i, i < 8 * s ∨ 8 * s + 8 ≤ i → t.2.2.2 39 i = L 39 i)) (N := N) (g := E.2.2.1) (i := 0) (s := (mo, mb, x0, L)) ?_ ?_ ?_ (by omega) (by omega) ⟨rem_0 x0, LkI_c (fun o => ⟨fun z => ⟨z.1, Or.inl z.2⟩, fun z => ⟨z.1, z.2.elim id (fun ⟨j, _, _, _, z⟩ => absurd z (by omega))⟩⟩) h, fun _ _ => rfl, fun _ _ => rfl⟩
  · rintro ⟨mo', mb', xr, L'⟩ ⟨z1, z2, z3, z4⟩ ee
    dsimp only at *
    refine ⟨mo', mb', L', LkI_c (fun o => ?_) z2, z3, z4, ee⟩
    constructor
    · rintro ⟨a1, a2 | ⟨j, a2, a3, a4⟩⟩
      · exact ⟨a1, by omega⟩
      · exact ⟨a1, by omega⟩
    · rintro ⟨a1, a2⟩
      refine ⟨a1, ?_⟩
      by_cases p : o < 64 * hf
      · exact Or.inl p
      · obtain ⟨j, b1, b2, b3⟩ := big o a1 (by omega) a2
        exact Or.inr ⟨j, b1, b2, b3, by rw [← eN]; exact cnt_lt b3 b2⟩
  · rintro g r ⟨mo1, mb1, xr, L1⟩ hr ⟨z1, z2, z3, z4⟩
    dsimp only at *
    obtain ⟨k, hk, b1, b2, b3, b4, -, b6⟩ := rem_k z1 (by rw [eN]; exact hr)
    have hxk := (hx k hk).mp b1
    have ha : (64 * hf + k) / 2 < c 1 := hS _ hxk.1
    have ha2 : 64 * hf + k < 2 * c 1 := by omega
    have dd := dxy q2 ha2
    have hot : isOt T c S s (64 * hf + k) ↔ ¬ nI (64 * hf + k) = y4 := by
      rw [hy _ (by omega)]
      unfold isOt
      exact ⟨fun z => fun y => y z.2.2.2, fun z => ⟨ha2, hxk.1, hxk.2, Classical.not_not.mp z⟩⟩
    have cr := crI_v q1 hs ha2
    have em : nI (N - r) + -1 = nI (N - (r + 1)) := by rw [show N - r = N - (r + 1) + 1 by omega]; exact pk_m1 _
    have elo : xr &&& -xr = bs k := lowE b3 b4
    have step : L_X10_look_120 E K (rr w 32) (nI (8 * s)) y4 (aX T (s / 2)) (aY T (s / 2)) (nI hf) (g + 1) mo1 mb1 xr (nI (N - r)) (Hw E w I L1 Q) = if ¬ nI (64 * hf + k) = y4 then J_X10_look_221 E (fun w4 w5 w6 w7 h23 => L_X10_look_120 E K (rr w 32) (nI (8 * s)) y4 (aX T (s / 2)) (aY T (s / 2)) (nI hf) g w4 w5 w6 w7 h23) (rr w 32) (nI (8 * s)) y4 (aX T (s / 2)) (aY T (s / 2)) mo1 mb1 (nI hf) (xr ^^^ (xr &&& -xr)) (nI (N - r)) (xr &&& -xr) (aX T (64 * hf + k)) (aY T (64 * hf + k)) (nI (sid T s (64 * hf + k))) (Hw E w I L1 Q) else L_X10_look_120 E K (rr w 32) (nI (8 * s)) y4 (aX T (s / 2)) (aY T (s / 2)) (nI hf) g mo1 mb1 (xr ^^^ (xr &&& -xr)) (nI (N - r) + -1) (Hw E w I L1 Q) := by
      rw [L_X10_look_120]
      rw [if_neg (nI_nle (show 0 < N - r by omega) (by omega))]
      simp (disch := omega) only [Option.bind_some, Option.map_some, Option.join, cI_r, cL_r, cV_r, xI_r, xL_r, xV_r, xI_t, xL_t, xV_t, lt_r, rtZ_0, rtZ_1, rtZ_zb, m64, pk_mul, nI_add, f_low b3 b4, gf32_0, gf0_9, gf0_10, ga8, ga9, ix_n, dd.1, dd.2]
      by_cases p : nI (64 * hf + k) = y4
      · rw [if_neg (not_not_intro p), if_neg (not_not_intro p)]
      · rw [if_pos p, if_pos p]
        have e0 : aX T (s / 2) * aY T (64 * hf + k) - aY T (s / 2) * aX T (64 * hf + k) = crI T s (64 * hf + k) := rfl
        rw [e0]
        have z0 : (0 : Int32).toInt = 0 := rfl
        by_cases p1 : crI T s (64 * hf + k) ≤ 0
        · rw [if_pos p1]
          have p1' := i32_le0.mp p1
          by_cases p2 : 0 ≤ crI T s (64 * hf + k)
          · have p2' := p2
            rw [Int32.le_iff_toInt_le, z0] at p2'
            have es : sid T s (64 * hf + k) = 2 := by unfold sid; rw [if_neg (by omega), if_neg (by omega)]
            rw [if_pos p2, es]; rfl
          · have p2' := p2
            rw [Int32.le_iff_toInt_le, z0] at p2'
            have es : sid T s (64 * hf + k) = 1 := by unfold sid; rw [if_neg (by omega), if_pos (by omega)]
            rw [if_neg p2, es]; rfl
        · rw [if_neg p1]
          have p1' : ¬ (crI T s (64 * hf + k)).toInt ≤ 0 := fun z => p1 (i32_le0.mpr z)
          have es : sid T s (64 * hf + k) = 0 := by unfold sid; rw [if_pos (by omega)]
          rw [es]; rfl
    by_cases p : nI (64 * hf + k) = y4
    · refine ⟨(mo1, mb1, xr ^^^ (xr &&& -xr), L1), ⟨b6, LkI_c (fun o => ?_) z2, z3, z4⟩, ?_⟩
      · constructor
        · rintro ⟨a1, a2 | ⟨j, a2, a3, a4, a5⟩⟩
          · exact ⟨a1, Or.inl a2⟩
          · exact ⟨a1, Or.inr ⟨j, a2, a3, a4, by omega⟩⟩
        · rintro ⟨a1, a2 | ⟨j, a2, a3, a4, a5⟩⟩
          · exact ⟨a1, Or.inl a2⟩
          · by_cases ej : cntP (b64 x0) j = r
            · have : j = k := cnt_inj a4 b1 (ej.trans b2.symm)
              subst this
              subst a2
              exact absurd p (hot.mp a1)
            · exact ⟨a1, Or.inr ⟨j, a2, a3, a4, by omega⟩⟩
      · show L_X10_look_120 E K (rr w 32) (nI (8 * s)) y4 (aX T (s / 2)) (aY T (s / 2)) (nI hf) (g + 1) mo1 mb1 xr (nI (N - r)) (Hw E w I L1 Q) = _
        rw [step, if_neg (not_not_intro p), em]
    · have hk64 : (64 * hf + k) / 64 = hf ∧ (64 * hf + k) % 64 = k := by omega
      obtain ⟨mo2, mb2, L2, d1, d2, d3, d4⟩ := c_look221 (E := E) (w := w) (I := I) (L := L1) (Q := Q) (a := 64 * hf + k) (y4 := y4) (y14 := nI (N - r)) (u1 := xr ^^^ (xr &&& -xr)) (K := fun w4 w5 w6 w7 h23 => L_X10_look_120 E K (rr w 32) (nI (8 * s)) y4 (aX T (s / 2)) (aY T (s / 2)) (nI hf) g w4 w5 w6 w7 h23) q1 hs (D := fun o => isOt T c S s o ∧ (o < 64 * hf ∨ ∃ j, o = 64 * hf + j ∧ j < 64 ∧ b64 x0 j ∧ cntP (b64 x0) j < r)) (fun o ho => ho.1.1) ha2 (fun z => by
        rcases z.2 with y | ⟨j, y1, y2, y3, y4⟩
        · omega
        · have : j = k := by omega
          subst this; omega) z2 rfl
      rw [hk64.1, hk64.2] at d4
      refine ⟨(mo2, mb2, xr ^^^ (xr &&& -xr), L2), ⟨b6, LkI_c (fun o => ?_) d1, fun k' hk' => (d2 k' hk').trans (z3 k' hk'), fun i hi => (d3 i hi).trans (z4 i hi)⟩, ?_⟩
      · constructor
        · rintro (⟨a1, a2 | ⟨j, a2, a3, a4, a5⟩⟩ | a1)
          · exact ⟨a1, Or.inl a2⟩
          · exact ⟨a1, Or.inr ⟨j, a2, a3, a4, by omega⟩⟩
          · subst a1; exact ⟨hot.mpr p, Or.inr ⟨k, rfl, hk, b1, by omega⟩⟩
        · rintro ⟨a1, a2 | ⟨j, a2, a3, a4, a5⟩⟩
          · exact Or.inl ⟨a1, Or.inl a2⟩
          · by_cases ej : cntP (b64 x0) j = r
            · have : j = k := cnt_inj a4 b1 (ej.trans b2.symm)
              subst this
              exact Or.inr a2
            · exact Or.inl ⟨a1, Or.inr ⟨j, a2, a3, a4, by omega⟩⟩
      · show L_X10_look_120 E K (rr w 32) (nI (8 * s)) y4 (aX T (s / 2)) (aY T (s / 2)) (nI hf) (g + 1) mo1 mb1 xr (nI (N - r)) (Hw E w I L1 Q) = _
        rw [step, if_pos p, elo]
        rw [elo, em] at d4
        exact d4
  · rintro g ⟨mo1, mb1, xr, L1⟩ _
    dsimp only at *
    show L_X10_look_120 E K (rr w 32) (nI (8 * s)) y4 (aX T (s / 2)) (aY T (s / 2)) (nI hf) (g + 1) mo1 mb1 xr (nI (N - N)) (Hw E w I L1 Q) = _
    rw [L_X10_look_120, Nat.sub_self, if_pos (by decide)]
theorem c_look86 {S : Nat → Prop} {s : Nat} {y4 : Int32} (hG : 100000 ≤ E.2.2.1) (q1 : WfT T c) (q2 : LandR I T c) (hs : s < 4 * c 1) (hS : ∀ v, S v → v < c 1) (hw : WaysOk L T c S) (hy : ∀ a, a < 120 → (nI a = y4 ↔ ¬ (s % 2 = 1 ∨ a ≠ s / 2 ^^^ 1))) (hz : ∀ i, i < 8 → L 39 (8 * s + i) = 0) : ∃ L', RowOk (L' 39) T c S s ∧ (∀ k, k ≠ 39 → L' k = L k) ∧ (∀ i, i < 8 * s ∨ 8 * s + 8 ≤ i → L' 39 i = L 39 i) ∧ L_X10_look_86 E (rr w 32) (nI s) (nI (8 * s)) y4 (aX T (s / 2)) (aY T (s / 2)) E.2.2.1 0 0 0 (Hw E w I L Q) = rtI (nI (8 * s)) (Hw E w I L' Q) := by
  have k0 : c 0 ≤ 40 := (q1.1 0 (by decide)).2
  have k1 : c 1 ≤ 60 := (q1.1 1 (by decide)).2
  have hsp : bl (spl T s) (c 0) := by
    have b := ast_b q1.2.2.1 (show s / 2 / 2 < c 1 by omega)
    unfold spl
    split
    · exact b.2
    · exact b.1
  obtain ⟨p, ep, hp⟩ := hsp
  have e7 : I 7 s = nI p := (spots_spl (q2.2.1.2 (s / 4) (by omega))).trans ep
  refine lpK2 (σ := Int64 × Int64 × (Nat → Nat → Int64)) (Lp := fun g hf t => L_X10_look_86 E (rr w 32) (nI s) (nI (8 * s)) y4 (aX T (s / 2)) (aY T (s / 2)) g t.1 t.2.1 (nI hf) (Hw E w I t.2.2 Q)) (K := fun t => rtI (nI (8 * s)) (Hw E w I t.2.2 Q)) (Iv := fun hf t => LkI T s (fun o => isOt T c S s o ∧ o < 64 * hf) t.1 t.2.1 (t.2.2 39) ∧ (∀ k, k ≠ 39 → t.2.2 k = L k) ∧ (∀ i, i < 8 * s ∨ 8 * s + 8 ≤ i → t.2.2 39 i = L 39 i)) (N := 2) (g := E.2.2.1) (i := 0) (s := (0, 0, L)) ?_ ?_ ?_ (by omega) (by omega) ⟨⟨fun hf h1 j hj => ⟨fun sd h3 => by show b64 (L 39 (8 * s + 2 * sd + hf)) j ↔ _; rw [Nat.add_assoc, hz _ (by omega)]; exact ⟨fun z => absurd z b64_0, fun z => absurd z.1.2 (by omega)⟩, by show b64 (L 39 (8 * s + 6 + hf)) j ↔ _; rw [Nat.add_assoc, hz _ (by omega)]; exact ⟨fun z => absurd z b64_0, fun z => absurd z.1.2 (by omega)⟩⟩, Or.inl ⟨rfl, rfl, fun a z => absurd z.2 (by omega)⟩⟩, fun _ _ => rfl, fun _ _ => rfl⟩
  · rintro ⟨mo', mb', L'⟩ ⟨z2, z3, z4⟩ ee
    dsimp only at *
    refine ⟨L', fun hf h1 j hj => ⟨fun sd h3 => ?_, ?_⟩, z3, z4, ee⟩
    · rw [((z2.1 hf h1 j hj).1 sd h3)]
      exact ⟨fun z => ⟨z.1.1, z.2⟩, fun z => ⟨⟨z.1, by omega⟩, z.2⟩⟩
    · rw [(z2.1 hf h1 j hj).2]
      unfold onD isOn rle
      exact ⟨fun z => ⟨z.1.1, fun o ho => z.2 o ⟨ho, by have := ho.1; omega⟩⟩, fun z => ⟨⟨z.1, by omega⟩, fun o ho => z.2 o ho.1⟩⟩
  · rintro g hf ⟨mo1, mb1, L1⟩ hhf ⟨z2, z3, z4⟩
    dsimp only at *
    have e34 : L1 34 (2 * p + hf) = L 34 (2 * p + hf) := by rw [z3 34 (by decide)]
    obtain ⟨mo2, mb2, L2, d1, d2, d3, d4⟩ := c_look120 (E := E) (w := w) (I := I) (L := L1) (Q := Q) (hf := hf) (x0 := L1 34 (2 * p + hf)) (K := fun w1 w2 h20 => L_X10_look_86 E (rr w 32) (nI s) (nI (8 * s)) y4 (aX T (s / 2)) (aY T (s / 2)) g w1 w2 (nI (hf + 1)) h20) hG q1 q2 hs hhf hS (fun j hj => by rw [e34, ep]; exact hw.2.2.1 p (by omega) hf hhf j hj) hy z2
    refine ⟨(mo2, mb2, L2), ⟨d1, fun k hk => (d2 k hk).trans (z3 k hk), fun i hi => (d3 i hi).trans (z4 i hi)⟩, ?_⟩
    show L_X10_look_86 E (rr w 32) (nI s) (nI (8 * s)) y4 (aX T (s / 2)) (aY T (s / 2)) (g + 1) mo1 mb1 (nI hf) (Hw E w I L1 Q) = _
    rw [L_X10_look_86]
    simp (disch := omega) only [Option.bind_some, Option.map_some, Option.join, cI_r, cL_r, cV_r, xI_r, xL_r, xV_r, xI_t, xL_t, xV_t, lt_r, rtZ_0, rtZ_1, rtZ_zb, m2, m3, m4, m5, m6, m7, m8, m9, m10, m11, m12, m13, m14, m15, m16, m17, m18, m19, m20, m21, m22, m23, m24, m25, m26, m27, m28, m29, m30, m31, m32, m40, m41, m60, m63, m64, m90, m99, m100, m120, m127, m164, m173, m200, m240, m255, m450, m480, m650, m722, m762, m960, m1000000, m2838, m2988, m4095, pk_mul, nI_add, nI_1, nI_leI, nI_ltI, nI_eq, ix_n, if_neg, gf32_6, gf32_0, gf0_8, ga7, e7, ga34, f_bitCount]
    exact d4
  · rintro g ⟨mo1, mb1, L1⟩ _
    dsimp only at *
    show L_X10_look_86 E (rr w 32) (nI s) (nI (8 * s)) y4 (aX T (s / 2)) (aY T (s / 2)) (g + 1) mo1 mb1 (nI 2) (Hw E w I L1 Q) = _
    rw [L_X10_look_86]
    simp (disch := omega) only [m2, m3, m4, m5, m6, m7, m8, m9, m10, m11, m12, m13, m14, m15, m16, m17, m18, m19, m20, m21, m22, m23, m24, m25, m26, m27, m28, m29, m30, m31, m32, m40, m41, m60, m63, m64, m90, m99, m100, m120, m127, m164, m173, m200, m240, m255, m450, m480, m650, m722, m762, m960, m1000000, m2838, m2988, m4095, pk_mul, nI_add, nI_1, nI_leI, nI_ltI, nI_eq, ix_n, if_pos]
theorem la39 : LA w 39 1920 := ⟨lv_of (by decide), rfl, by decide⟩
/-- look: the row of a state is ready then -/
theorem c_look {s y : Nat} (hG : 100000 ≤ E.2.2.1) (q1 : WfT T c) (q2 : LandR I T c) (q5 : MapY I L T c y) (hy : y ≤ 200) (hs : s < 4 * c 1) : ∃ I' L', (∀ k, k ≠ 38 → I' k = I k) ∧ (∀ k, k ≠ 39 → L' k = L k) ∧ MapY I' L' T c y ∧ RowOk (L' 39) T c (thr0 T c y) s ∧ F_X10_look E (rr w 32) (nI s) (Hw E w I L Q) = rtI (nI (8 * s)) (Hw E w I' L' Q) := by
  have k1 : c 1 ≤ 60 := (q1.1 1 (by decide)).2
  obtain ⟨u1, u2, u3, u4⟩ := MapY_use q5 hy
  unfold F_X10_look
  have e8 : nI s * nI 8 = nI (8 * s) := by rw [pk_mul, Nat.mul_comm]
  rcases u3 s (by omega) with h0 | ⟨h1, h2, h3⟩
  · have hS : ∀ v, thr0 T c y v → v < c 1 := fun v h => h.1
    generalize eJ : up2 I 38 s 1 = J
    generalize eM : rs L 39 (8 * s) 8 (fun _ => 0) = M
    have hJ : ∀ k, k ≠ 38 → J k = I k := fun k hk => by rw [← eJ, up2_row _ _ hk]
    have hM : ∀ k, k ≠ 39 → M k = L k := fun k hk => by rw [← eM, rs_row _ _ hk]
    have qJ : LandR J T c := LandR_c (fun j hj => hJ j (by omega)) q2
    have wM : WaysOk M T c (thr0 T c y) := by
      unfold WaysOk at *
      rw [hM 32 (by decide), hM 33 (by decide), hM 34 (by decide), hM 35 (by decide)]; exact u2
    have main : ∀ y4 : Int32, (∀ a, a < 120 → (nI a = y4 ↔ ¬ (s % 2 = 1 ∨ a ≠ s / 2 ^^^ 1))) → ∃ I' L', (∀ k, k ≠ 38 → I' k = I k) ∧ (∀ k, k ≠ 39 → L' k = L k) ∧ MapY I' L' T c y ∧ RowOk (L' 39) T c (thr0 T c y) s ∧ J_X10_look_53 E (rr w 32) (nI s) (nI (8 * s)) (nI (s / 2)) y4 (Hw E w J M Q) = rtI (nI (8 * s)) (Hw E w I' L' Q) := by
      intro y4 hy4
      obtain ⟨L', b1, b2, b3, b4⟩ := c_look86 (E := E) (w := w) (I := J) (L := M) (Q := Q) (y4 := y4) hG q1 qJ hs hS wM hy4 (fun i hi => by rw [← eM, rs_in _ _ (by omega) (by omega)])
      have dd := dxy qJ (show s / 2 < 2 * c 1 by omega)
      have wL : WaysOk L' T c (thr0 T c y) := by
        unfold WaysOk at *
        rw [b2 32 (by decide), b2 33 (by decide), b2 34 (by decide), b2 35 (by decide)]; exact wM
      have mL : ∀ z, MarksOk L T c z → MarksOk L' T c z := fun z h => by
        unfold MarksOk at *
        rw [b2 36 (by decide), b2 37 (by decide), hM 36 (by decide), hM 37 (by decide)]; exact h
      refine ⟨J, L', hJ, fun k hk => (b2 k hk).trans (hM k hk), ⟨⟨Or.inl (by rw [hJ 32 (by decide)]; exact u1), thr0 T c y, hS, fun _ => ⟨wL, fun t ht => ?_⟩, fun z hz h1 h2 => ?_⟩, by rw [hJ 32 (by decide)]; exact q5.2.1, by rw [hJ 32 (by decide)]; exact q5.2.2⟩, b1, ?_⟩
      · by_cases e : t = s
        · subst e; exact Or.inr ⟨by rw [← eJ, up2_s], hs, b1⟩
        · have e38 : J 38 t = I 38 t := by rw [← eJ, up2_i _ _ _ e]
          rw [e38]
          rcases u3 t ht with v | ⟨v1, v2, v3⟩
          · exact Or.inl v
          · refine Or.inr ⟨v1, v2, fun hf hh j hj => ?_⟩
            have e39 : ∀ i, i < 8 → L' 39 (8 * t + i) = L 39 (8 * t + i) := fun i hi => by
              rw [b3 _ (by omega), ← eM, rs_out _ _ (by omega)]
            have := v3 hf hh j hj
            refine ⟨fun sd hsd => ?_, ?_⟩
            · rw [Nat.add_assoc, e39 _ (by omega), ← Nat.add_assoc]; exact this.1 sd hsd
            · rw [Nat.add_assoc, e39 _ (by omega), ← Nat.add_assoc]; exact this.2
      · rw [hJ 32 (by decide)] at h1 h2
        obtain ⟨-, S, -, -, q3⟩ := q5.1
        have z1 := q3 z hz h1 h2
        have z2 := q3 y hy q5.2.1 q5.2.2
        exact ⟨by rw [hJ 32 (by decide)]; exact u1, fun v => by rw [← z2.2.1 v, z1.2.1 v], mL z z1.2.2⟩
      · unfold J_X10_look_53
        simp (disch := omega) only [Option.bind_some, Option.map_some, Option.join, cI_r, cL_r, cV_r, xI_r, xL_r, xV_r, xI_t, xL_t, xV_t, lt_r, rtZ_0, rtZ_1, rtZ_zb, m2, m3, m4, m5, m6, m7, m8, m9, m10, m11, m12, m13, m14, m15, m16, m17, m18, m19, m20, m21, m22, m23, m24, m25, m26, m27, m28, m29, m30, m31, m32, m40, m41, m60, m63, m64, m90, m99, m100, m120, m127, m164, m173, m200, m240, m255, m450, m480, m650, m722, m762, m960, m1000000, m2838, m2988, m4095, pk_mul, nI_add, nI_1, nI_leI, nI_ltI, nI_eq, ix_n, gf32_0, gf0_9, gf0_10, ga8, ga9, dd.1, dd.2]
        exact b4
    have hfl : F_J7_fill_bad5a E (rr w 39) (nI (8 * s)) (nI (8 * s + 8)) 0 (Hw E w J L Q) = rtV (Hw E w J M Q) := by
      rw [f_fillLR hG la39 (by omega) (by omega), show 8 * s + 8 - 8 * s = 8 by omega, eM]
    simp (disch := omega) only [Option.bind_some, Option.map_some, Option.join, cI_r, cL_r, cV_r, xI_r, xL_r, xV_r, xI_t, xL_t, xV_t, lt_r, rtZ_0, rtZ_1, rtZ_zb, m8, m31, nI_add, gf32_10, ga38, ix_n, h0, if_true, pa38, show vp_nar .boolean (1 : Int32) = 1 from rfl, eJ, gf32_11, e8, hfl, sh1, ad1]
    by_cases p : s % 2 = 0
    · rw [p, if_neg (not_not_intro nI_0), xo1 _ (by omega)]
      have hx : s / 2 ^^^ 1 < 2 ^ 31 := by rw [xo_1]; split <;> omega
      exact main _ (fun a ha => by rw [nI_eq (by omega) hx]; exact ⟨fun z y => y.elim (by omega) (fun y => y z), fun z => Classical.not_not.mp (fun y => z (Or.inr y))⟩)
    · rw [if_pos (nI_ne0 (by omega) (by omega))]
      exact main _ (fun a ha => ⟨fun z => absurd z (m1_ne (by omega)), fun z => absurd (Or.inl (by omega)) z⟩)
  · refine ⟨I, L, fun _ _ => rfl, fun _ _ => rfl, q5, h3, ?_⟩
    simp (disch := omega) only [Option.bind_some, Option.map_some, Option.join, cI_r, cL_r, cV_r, xI_r, xL_r, xV_r, xI_t, xL_t, xV_t, lt_r, rtZ_0, rtZ_1, rtZ_zb, m8, gf32_10, ga38, ix_n, h1, show ¬ (1 : Int32) = 0 by decide, if_false, e8]
end
