/-! ask -/
/-- what is lost where one asks behind the m-th saying -/
noncomputable def askR (T : Ro) (c : Nat → Nat) (y k2 z s m : Nat) : Nat → Int32 := shr 1000000 (endS T c y k2 z s m) (fun _ => 0)
noncomputable def askV (T : Ro) (c : Nat → Nat) (y k k2 z s t g m : Nat) : Int32 := 1000000 - smP (oSeq T c y k z m (askR T c y k2 z s m) (t - m)) (fun s => spl T s = nI g) (4 * c 1)
theorem askV_ne {T : Ro} {c : Nat → Nat} {y k k2 z s t g m : Nat} (k1 : c 1 ≤ 60) : ¬ askV T c y k k2 z s t g m = -1 := by
  have b : BR (askR T c y k2 z s m) 1000000 := by
    have := BR_shr (m := 1000000) (X := endS T c y k2 z s m) (a := 1000000) (show (1000000 : Int32) = nI 1000000 from m1000000) BR_0 (by omega)
    rw [Nat.zero_add] at this
    exact this
  obtain ⟨v, e, hv⟩ := BR_sm (P := fun s => spl T s = nI g) (N := 4 * c 1) (BR_seq (T := T) (c := c) (y := y) (k := k) (z := z) (j0 := m) b (t - m)) (by omega)
  unfold askV
  rw [e, m1000000, nI_sub hv (by decide)]
  exact m1_ne (by omega)
noncomputable def askB (P : Nat → Prop) (V : Nat → Int32) (b0 : Int32) : Nat → Int32 × Int32
  | 0 => (b0, 0)
  | n + 1 => @ite _ (P (n + 1) ∧ V (n + 1) < (askB P V b0 n).1) (Classical.propDecidable _) (V (n + 1), nI (n + 1)) (askB P V b0 n)
theorem askB_t {P : Nat → Prop} {V : Nat → Int32} {b0 : Int32} {n : Nat} (h : P (n + 1) ∧ V (n + 1) < (askB P V b0 n).1) : askB P V b0 (n + 1) = (V (n + 1), nI (n + 1)) := by rw [askB, if_pos h]
theorem askB_f {P : Nat → Prop} {V : Nat → Int32} {b0 : Int32} {n : Nat} (h : ¬ (P (n + 1) ∧ V (n + 1) < (askB P V b0 n).1)) : askB P V b0 (n + 1) = askB P V b0 n := by rw [askB, if_neg h]
section
variable {E : Ev} {w : Wo} {I I1 I2 : Nat → Nat → Int32} {L L1 L2 : Nat → Nat → Int64} {Q Q1 Q2 : Nat → Nat → Option Nat} {c : Nat → Nat} {T : Ro} {y : Nat}
theorem c_bec {k : Nat} (h : CW I L Q T c) (hm : MapY I L T c y) (hy : y ≤ 200) (hk : k < c 4) : CF I (up2 I 40 6 (nI k)) L L Q Q ∧ CW (up2 I 40 6 (nI k)) L Q T c ∧ WC (up2 I 40 6 (nI k)) L Q T c y k ∧ (∀ k', Gnd I L T c y k' → Gnd (up2 I 40 6 (nI k)) L T c y k') ∧ F_X9_become E (rr w 40) (nI k) (Hw E w I L Q) = rtV (Hw E w (up2 I 40 6 (nI k)) L Q) := by
  have e6 : up2 I 40 6 (nI k) 40 6 = nI k := up2_s _ _ _ _
  have eo : ∀ j, j ≠ 40 → up2 I 40 6 (nI k) j = I j := fun j hj => up2_row _ _ hj
  have eq : F_X9_become E (rr w 40) (nI k) (Hw E w I L Q) = rtV (Hw E w (up2 I 40 6 (nI k)) L Q) := by
    unfold F_X9_become; simp only [Option.bind_some, Option.map_some, Option.join, cI_r, cL_r, cV_r, xI_r, xL_r, xV_r, xI_t, xL_t, xV_t, lt_r, rtZ_0, rtZ_1, rtZ_zb, pf40_6]
  generalize up2 I 40 6 (nI k) = I' at *
  have cf : CF I I' L L Q Q := ⟨fun j hj => eo j (by omega), fun _ _ => rfl, fun _ _ _ _ => rfl⟩
  have mp : MapY I' L T c y := ⟨MapR_c (eo 32 (by decide)) (eo 38 (by decide)) (fun _ _ _ => rfl) hm.1, by rw [eo 32 (by decide)]; exact hm.2⟩
  have st : StepsR I' L Q := StepsR_c (eo 48 (by decide)) (eo 49 (by decide)) (eo 51 (by decide)) rfl rfl h.2.2.2.2.2.2.1
  have cw := h.set cf mp.1 st h.2.2.2.2.2.2.2.1 h.2.2.2.2.2.2.2.2
  have f := cw.2.2.2.1.2.1.2 k hk
  exact ⟨cf, cw, ⟨cw.2.1, cw.2.2.1, mp, hy, st, hk, e6, f.2.2.1, f.2.2.2.1, f.2.2.2.2⟩, fun k' g n hn => by rw [eo 41 (by decide)]; exact g n hn, eq⟩
theorem c_loss {z k k2 t s m g : Nat} (hG : 100000 ≤ E.2.2.1) (h : CW I L Q T c) (hm : MapY I L T c y) (hy : y ≤ 200) (hk : k < c 4) (hk2 : k2 < c 4) (hg : Gnd I L T c y k) (hg2 : Gnd I L T c y k2) (hz : z < c 5) (ht : T (764 + 173 * z) = nI t) (t10 : t ≤ 10) (hmt : m ≤ t) (eg : T (762 + 173 * z) = nI g) (hs : s < 4 * c 1) : ∃ I' L' Q', CF I I' L L' Q Q' ∧ CW I' L' Q' T c ∧ MapY I' L' T c y ∧ Gnd I' L' T c y k ∧ Gnd I' L' T c y k2 ∧ F_X11_lossBehind E (rr w 136) (nI m) (nI z) (nI k) (nI k2) (nI s) (Hw E w I L Q) = rtI (@ite _ (∃ q, endS T c y k2 z s m q) (Classical.propDecidable _) (askV T c y k k2 z s t g m) (-1)) (Hw E w I' L' Q') := by
  have k1 : c 1 ≤ 60 := (h.2.1.1 1 (by decide)).2
  have k5 : c 5 ≤ 12 := (h.2.1.1 5 (by decide)).2
  obtain ⟨a1, a2, a3, a4, a5⟩ := c_bec (E := E) (w := w) h hm hy hk2
  generalize up2 I 40 6 (nI k2) = I1 at *
  obtain ⟨I2, L2, Q2, a, r, b1, b2, b3, b4, b5, b6, b7, b8, b9⟩ := c_fol (E := E) (w := w) (z := z) (m := m) (t := t) (s0 := s) hG a2 a3 (a4 k2 hg2) hz ht t10 hmt hs
  have so : SO w a := by
    rcases b6 with rfl | rfl
    · exact so43
    · exact so45
  have ie := c_isEmpty (E := E) (w := w) (I := I2) (L := L2) (Q := Q2) so
  have lt : ∀ q, endS T c y k2 z s m q → q < 4 * c 1 := fun q hq => endS_lt hs hq
  have em : (∀ q, q < 256 → ¬ bq (L2 (a + 1)) q) ↔ ¬ ∃ q, endS T c y k2 z s m q := by
    constructor
    · rintro x ⟨q, hq⟩
      have := lt q hq
      exact x q (by omega) ((b8 q (by omega)).mpr hq)
    · intro x q hq z
      exact x ⟨q, (b8 q hq).mp z⟩
  rw [zb_c em] at ie
  by_cases p : ∃ q, endS T c y k2 z s m q
  · obtain ⟨d1, d2, d3, d4, d5⟩ := c_bec (E := E) (w := w) b2 b3.2.2.1 hy hk
    generalize up2 I2 40 6 (nI k) = I3 at *
    have hab : ∃ a b, ((a = 55 ∧ b = 56) ∨ (a = 56 ∧ b = 55)) ∧ Q2 54 1 = some a ∧ Q2 54 2 = some b := by
      rcases d2.2.2.2.2.2.2.2.2 with ⟨e1, e2⟩ | ⟨e1, e2⟩
      · exact ⟨55, 56, Or.inl ⟨rfl, rfl⟩, e1, e2⟩
      · exact ⟨56, 55, Or.inr ⟨rfl, rfl⟩, e1, e2⟩
    obtain ⟨ha, hb, hab, e1, e2⟩ := hab
    have ia : IA w ha 240 := by
      rcases hab with e | e
      · rw [e.1]; exact ia55
      · rw [e.1]; exact ia56
    have fl := f_fillI (E := E) (w := w) (I := I3) (L := L2) (Q := Q2) (v := 0) hG ia
    have oi : ∀ k, k ≠ ha → rs I3 ha 0 240 (fun _ => 0) k = I3 k := fun k hk => rs_row _ _ hk
    have ob : ∀ s, s < 240 → rs I3 ha 0 240 (fun _ => 0) ha s = 0 := fun s hs => rs_in _ _ (by omega) (by omega)
    generalize rs I3 ha 0 240 (fun _ => 0) = I4 at *
    obtain ⟨I5, f1, f2, f3⟩ := c_share (E := E) (w := w) (I := I4) (L := L2) (Q := Q2) (m := 1000000) (b := ha) (so := a) hG so ia (by omega) (fun q hq z => by have := lt q ((b8 q hq).mp z); omega)
    have f5 : OdF I3 I5 L2 L2 Q2 Q2 := ⟨fun k _ _ _ _ g1 g2 _ g4 => by rw [f1 k (by omega) g4, oi k (by omega)], fun _ _ _ _ _ _ => rfl, fun _ _ _ => rfl⟩
    have m5' : MapY I5 L2 T c y := ⟨MapR_c (f5.1 32 (by decide) (by decide) (by decide) (by decide) (by decide) (by decide) (by decide) (by decide)) (by rw [f1 38 (by omega) (by decide), oi 38 (by omega)]) (fun _ _ _ => rfl) d3.2.2.1.1, by rw [f5.1 32 (by decide) (by decide) (by decide) (by decide) (by decide) (by decide) (by decide) (by decide)]; exact d3.2.2.1.2⟩
    have s5 : StepsR I5 L2 Q2 := StepsR_c (by rw [f1 48 (by omega) (by decide), oi 48 (by omega)]) (by rw [f1 49 (by omega) (by decide), oi 49 (by omega)]) (by rw [f1 51 (by omega) (by decide), oi 51 (by omega)]) rfl rfl d3.2.2.2.2.1
    have cw5 := f5.cw d2 m5' s5 d2.2.2.2.2.2.2.2.2
    have hR : ∀ s', s' < 240 → I5 ha s' = askR T c y k2 z s m s' := fun s' hs' => by
      rw [f2 s' hs']
      exact shr_c hs' (fun q hq => b8 q (by omega)) (ob s' hs')
    have hR2 : ∀ s', s' < 240 → ¬ askR T c y k2 z s m s' = 0 → s' < 4 * c 1 := fun s' hs' hn => by
      by_cases px : endS T c y k2 z s m s'
      · exact lt s' px
      · unfold askR at hn
        rw [shr_f px] at hn
        exact absurd rfl hn
    obtain ⟨I6, L6, Q6, a', b', v1, v2, v3, v4, v5, v6, v7, v8⟩ := c_goOn (E := E) (w := w) (I := I5) (L := L2) (Q := Q2) (T := T) (c := c) (y := y) (z := z) (k := k) (t := t) (j0 := m) (R := askR T c y k2 z s m) hG (f5.wc d3 m5' s5) (f5.gnd (d4 k (b4 k (a4 k hg)))) (cw5.2.2.2.2.1.1.2 z hz) hab e1 e2 hz ht t10 hmt hR hR2
    have f6 := f5.tr v1
    have cw6 := f6.cw d2 v2 v3 (odR v4 v5 v6)
    have pa' := c_partsAt (E := E) (w := w) (I := I6) (L := L6) (Q := Q6) (p := g) hG cw6.2.1 cw6.2.2.1 (by omega) v5 v7
    have e23 : I6 23 z = nI g := (cw6.2.2.2.2.1.1.2 z hz).1.trans eg
    refine ⟨I6, L6, Q6, ((a1.tr b1).tr d1).tr f6.cf, cw6, v2, f6.gnd (d4 k (b4 k (a4 k hg))), f6.gnd (d4 k2 (b4 k2 (a4 k2 hg2))), ?_⟩
    rw [if_pos p]
    unfold F_X11_lossBehind
    simp (disch := omega) only [Option.bind_some, Option.map_some, Option.join, cI_r, cL_r, cV_r, xI_r, xL_r, xV_r, xI_t, xL_t, xV_t, lt_r, rtZ_0, rtZ_1, rtZ_zb, gf136_4, o40, a5, b9, gf40_7, b5, so.o, ie, zb_f (not_not_intro p), if_true, d5, gf136_5, o54, gf136_2, gf22_1, ga23, ix_n, e23]
    rw [show F_X4_spread E (rr w 54) (rr w a) (Hw E w I3 L2 Q2) = rtV (Hw E w I5 L2 Q2) by
      unfold F_X4_spread
      rw [gf54_1, e1, Option.map_some, Option.bind_some, fl, cV_r, gf54_1, e1, Option.map_some, Option.bind_some, o54, Option.bind_some, f3, cV_r], cV_r]
    simp (disch := omega) only [Option.bind_some, Option.map_some, Option.join, cI_r, cL_r, cV_r, xI_r, xL_r, xV_r, xI_t, xL_t, xV_t, lt_r, rtZ_0, rtZ_1, rtZ_zb, gf136_5, o54, v8, gf136_2, gf22_1, ga23, ix_n, e23, pa']
    rfl
  · refine ⟨I2, L2, Q2, a1.tr b1, b2, b3.2.2.1, b4 k (a4 k hg), b4 k2 (a4 k2 hg2), ?_⟩
    rw [if_neg p]
    unfold F_X11_lossBehind
    simp (disch := omega) only [Option.bind_some, Option.map_some, Option.join, cI_r, cL_r, cV_r, xI_r, xL_r, xV_r, xI_t, xL_t, xV_t, lt_r, rtZ_0, rtZ_1, rtZ_zb, gf136_4, o40, a5, b9, gf40_7, b5, so.o, ie]
    rw [zi_t p]
theorem m_ask121 (hG : 100000 ≤ E.2.2.1) : ∃ I', (∀ k, k ≠ 155 → I' k = I k) ∧ (∀ s, s < 240 → I' 155 s = 0) ∧ ∀ K, L_X12_ask_121 E K (rr w 163) E.2.2.1 0 (Hw E w I L Q) = K (Hw E w I' L Q) := by
  refine lpK2 (ρ := (Hp → Rs) → Rs) (σ := Nat → Nat → Int32) (Lp := fun g i s => fun K => L_X12_ask_121 E K (rr w 163) g (nI i) (Hw E w s L Q)) (K := fun s => fun K => K (Hw E w s L Q)) (Iv := fun i s => (∀ k, k ≠ 155 → s k = I k) ∧ ∀ p, p < i → s 155 p = 0) (N := 240) (g := E.2.2.1) (i := 0) (s := I) ?_ ?_ ?_ (by omega) (by omega) ⟨fun _ _ => rfl, fun p hp => absurd hp (by omega)⟩
  · rintro I1 ⟨z1, z2⟩ ee
    exact ⟨I1, z1, z2, fun K => congrFun ee K⟩
  · rintro g i I1 hi ⟨z1, z2⟩
    refine ⟨up2 I1 155 i 0, ⟨fun k hk => by rw [up2_row _ _ hk]; exact z1 k hk, fun p hp => ?_⟩, ?_⟩
    · by_cases e : p = i
      · subst e; rw [up2_s]
      · rw [up2_i _ _ _ e]; exact z2 p (by omega)
    · funext K
      show L_X12_ask_121 E K (rr w 163) (g + 1) (nI i) (Hw E w I1 L Q) = _
      rw [L_X12_ask_121]
      simp (disch := omega) only [Option.bind_some, Option.map_some, Option.join, cI_r, cL_r, cV_r, xI_r, xL_r, xV_r, xI_t, xL_t, xV_t, lt_r, rtZ_0, rtZ_1, rtZ_zb, m240, nI_leI, if_neg, gf163_30, pa155, ix_n, nI_1]
  · rintro g I1 _
    funext K
    show L_X12_ask_121 E K (rr w 163) (g + 1) (nI 240) (Hw E w I1 L Q) = _
    rw [L_X12_ask_121]
    simp (disch := omega) only [m240, nI_leI, if_pos]
theorem c_ask96 {z k k2 t s g : Nat} {x6 x7 b0 : Int32} (hG : 100000 ≤ E.2.2.1) (h : CW I L Q T c) (hm : MapY I L T c y) (hy : y ≤ 200) (hk : k < c 4) (hk2 : k2 < c 4) (hg : Gnd I L T c y k) (hg2 : Gnd I L T c y k2) (hz : z < c 5) (ht : T (764 + 173 * z) = nI t) (t10 : t ≤ 10) (eg : T (762 + 173 * z) = nI g) (hs : s < 4 * c 1) : ∃ I' L' Q', CF I I' L L' Q Q' ∧ CW I' L' Q' T c ∧ L_X11_ask_96 E (rr w 136) (nI z) (nI k) (nI k2) (nI s) x6 x7 E.2.2.1 b0 0 1 (Hw E w I L Q) = rtI (if x7 = 0 then (askB (fun m => ∃ q, endS T c y k2 z s m q) (fun m => askV T c y k k2 z s t g m + x6) b0 (t - 1)).2 else (askB (fun m => ∃ q, endS T c y k2 z s m q) (fun m => askV T c y k k2 z s t g m + x6) b0 (t - 1)).1) (Hw E w I' L' Q') := by
  have k1 : c 1 ≤ 60 := (h.2.1.1 1 (by decide)).2
  have k5 : c 5 ≤ 12 := (h.2.1.1 5 (by decide)).2
  generalize hP : (fun m => ∃ q, endS T c y k2 z s m q) = P
  generalize hV : (fun m => askV T c y k k2 z s t g m + x6) = V
  refine lpK2 (σ := (Nat → Nat → Int32) × (Nat → Nat → Int64) × (Nat → Nat → Option Nat)) (Lp := fun g' i s' => L_X11_ask_96 E (rr w 136) (nI z) (nI k) (nI k2) (nI s) x6 x7 g' (askB P V b0 i).1 (askB P V b0 i).2 (nI (i + 1)) (Hw E w s'.1 s'.2.1 s'.2.2)) (K := fun s' => rtI (if x7 = 0 then (askB P V b0 (t - 1)).2 else (askB P V b0 (t - 1)).1) (Hw E w s'.1 s'.2.1 s'.2.2)) (Iv := fun i s' => CF I s'.1 L s'.2.1 Q s'.2.2 ∧ CW s'.1 s'.2.1 s'.2.2 T c ∧ MapY s'.1 s'.2.1 T c y ∧ Gnd s'.1 s'.2.1 T c y k ∧ Gnd s'.1 s'.2.1 T c y k2) (N := t - 1) (g := E.2.2.1) (i := 0) (s := (I, L, Q)) ?_ ?_ ?_ (by omega) (by omega) ⟨CF.rf, h, hm, hg, hg2⟩
  · rintro ⟨I1, L1, Q1⟩ ⟨z1, z2, z3, z4, z5⟩ ee
    exact ⟨I1, L1, Q1, z1, z2, ee⟩
  · rintro g' i ⟨I1, L1, Q1⟩ hi ⟨z1, z2, z3, z4, z5⟩
    dsimp only at *
    obtain ⟨I2, L2, Q2, b1, b2, b3, b4, b5, b6⟩ := c_loss (E := E) (w := w) (z := z) (k := k) (k2 := k2) (t := t) (s := s) (m := i + 1) (g := g) hG z2 z3 hy hk hk2 z4 z5 hz ht t10 (by omega) eg hs
    have e25 : I1 25 z = nI t := (z2.2.2.2.2.1.1.2 z hz).2.2.1.trans ht
    refine ⟨(I2, L2, Q2), ⟨z1.tr b1, b2, b3, b4, b5⟩, ?_⟩
    have hPi : P (i + 1) ↔ ∃ q, endS T c y k2 z s (i + 1) q := by rw [← hP]
    have hVi : askV T c y k k2 z s t g (i + 1) + x6 = V (i + 1) := by rw [← hV]
    show L_X11_ask_96 E (rr w 136) (nI z) (nI k) (nI k2) (nI s) x6 x7 (g' + 1) (askB P V b0 i).1 (askB P V b0 i).2 (nI (i + 1)) (Hw E w I1 L1 Q1) = L_X11_ask_96 E (rr w 136) (nI z) (nI k) (nI k2) (nI s) x6 x7 g' (askB P V b0 (i + 1)).1 (askB P V b0 (i + 1)).2 (nI (i + 1 + 1)) (Hw E w I2 L2 Q2)
    rw [L_X11_ask_96]
    simp (disch := omega) only [Option.bind_some, Option.map_some, Option.join, cI_r, cL_r, cV_r, xI_r, xL_r, xV_r, xI_t, xL_t, xV_t, lt_r, rtZ_0, rtZ_1, rtZ_zb, gf136_2, gf22_3, ga25, ix_n, e25, if_neg (nI_ge (show i + 1 < t by omega) (show t < 2 ^ 31 by omega)), o136, b6, nI_1]
    by_cases p : ∃ q, endS T c y k2 z s (i + 1) q
    · rw [if_pos p, if_neg (askV_ne k1), hVi]
      by_cases p2 : V (i + 1) < (askB P V b0 i).1
      · rw [if_neg (fun z => Int32.not_le.mpr p2 z), askB_t ⟨hPi.mpr p, p2⟩]
      · rw [if_pos (Int32.not_lt.mp p2), askB_f (fun z => p2 z.2)]
    · rw [if_neg p, if_pos rfl, askB_f (fun z => p (hPi.mp z.1))]
  · rintro g' ⟨I1, L1, Q1⟩ ⟨z1, z2, z3, z4, z5⟩
    dsimp only at *
    have e25 : I1 25 z = nI t := (z2.2.2.2.2.1.1.2 z hz).2.2.1.trans ht
    show L_X11_ask_96 E (rr w 136) (nI z) (nI k) (nI k2) (nI s) x6 x7 (g' + 1) (askB P V b0 (t - 1)).1 (askB P V b0 (t - 1)).2 (nI (t - 1 + 1)) (Hw E w I1 L1 Q1) = _
    rw [L_X11_ask_96]
    simp (disch := omega) only [Option.bind_some, Option.map_some, Option.join, cI_r, cL_r, cV_r, xI_r, xL_r, xV_r, xI_t, xL_t, xV_t, lt_r, rtZ_0, rtZ_1, rtZ_zb, gf136_2, gf22_3, ga25, ix_n, e25, if_pos (nI_le (show t ≤ t - 1 + 1 by omega) (show t - 1 + 1 < 2 ^ 31 by omega))]
    split <;> rfl
theorem m_ask88 {z k k2 t s g : Nat} {x6 x7 b0 : Int32} (hG : 100000 ≤ E.2.2.1) (h : MW I L T c) (hy : y ≤ 200) (hk : k < c 4) (hk2 : k2 < c 4) (hz : z < c 5) (ht : T (764 + 173 * z) = nI t) (t10 : t ≤ 10) (eg : T (762 + 173 * z) = nI g) (hs : s < 4 * c 1) : ∃ I' L', MF I I' L L' ∧ MW I' L' T c ∧ L_X12_ask_88 E (rr w 163) (nI z) (nI k) (nI k2) (nI s) (nI y) x6 x7 E.2.2.1 b0 0 1 (Hw E w I L Q) = rtI (if x7 = 0 then (askB (fun m => ∃ q, endS T c y k2 z s m q) (fun m => askV T c y k k2 z s t g m + x6) b0 (t - 1)).2 else (askB (fun m => ∃ q, endS T c y k2 z s m q) (fun m => askV T c y k k2 z s t g m + x6) b0 (t - 1)).1) (Hw E w I' L' Q) := by
  have k1 : c 1 ≤ 60 := (h.2.1.1 1 (by decide)).2
  have k5 : c 5 ≤ 12 := (h.2.1.1 5 (by decide)).2
  generalize hP : (fun m => ∃ q, endS T c y k2 z s m q) = P
  generalize hV : (fun m => askV T c y k k2 z s t g m + x6) = V
  refine lpK2 (σ := (Nat → Nat → Int32) × (Nat → Nat → Int64)) (Lp := fun g' i s' => L_X12_ask_88 E (rr w 163) (nI z) (nI k) (nI k2) (nI s) (nI y) x6 x7 g' (askB P V b0 i).1 (askB P V b0 i).2 (nI (i + 1)) (Hw E w s'.1 s'.2 Q)) (K := fun s' => rtI (if x7 = 0 then (askB P V b0 (t - 1)).2 else (askB P V b0 (t - 1)).1) (Hw E w s'.1 s'.2 Q)) (Iv := fun i s' => MF I s'.1 L s'.2 ∧ MW s'.1 s'.2 T c) (N := t - 1) (g := E.2.2.1) (i := 0) (s := (I, L)) ?_ ?_ ?_ (by omega) (by omega) ⟨MF.rf, h⟩
  · rintro ⟨I1, L1⟩ ⟨z1, z2⟩ ee
    exact ⟨I1, L1, z1, z2, ee⟩
  · rintro g' i ⟨I1, L1⟩ hi ⟨z1, z2⟩
    dsimp only at *
    obtain ⟨I2, L2, r, d1, d2, d3, -, d5, d6, d7⟩ := m_go (E := E) (w := w) (Q := Q) (y := y) (k := k2) (z := z) (m := i + 1) (t := t) (s0 := s) hG z2 hy hk2 hz ht t10 (by omega) hs
    have et1 : I1 137 (764 + 173 * z) = nI t := by rw [z2.1]; exact ht
    have hPi : P (i + 1) ↔ ∃ q, endS T c y k2 z s (i + 1) q := by rw [← hP]
    have hVi : askV T c y k k2 z s t g (i + 1) + x6 = V (i + 1) := by rw [← hV]
    have gone : P (i + 1) ↔ i + 1 ≤ r := by
      rw [hPi]
      constructor
      · rintro ⟨q, hq⟩
        have := (d5.e.mpr hq).1
        omega
      · intro hr
        have er : r = i + 1 := by have := d5.1; omega
        obtain ⟨q, hq⟩ := d5.2.1 i (by omega)
        exact ⟨q, d5.e.mp ⟨er, hq⟩⟩
    have hr10 : r ≤ i + 1 := d5.1
    by_cases p : P (i + 1)
    · obtain ⟨I3, a1, a2, a3⟩ := m_ask121 (E := E) (w := w) (I := I2) (L := L2) (Q := Q) hG
      obtain ⟨I4, b1, b2, b3⟩ := m_parted (E := E) (w := w) (I := I3) (L := L2) (Q := Q) (m := 1000000) hG ia155
      have o4 : ∀ k, k ≠ 155 → I4 k = I2 k := fun k hk => (b1 k hk).trans (a1 k hk)
      have i4 : I4 137 = T := by rw [o4 137 (by decide)]; exact d2.1
      have hR : ∀ s', s' < 240 → I4 155 s' = askR T c y k2 z s (i + 1) s' := fun s' hs' => by
        rw [b2 s' hs']
        exact shr_c hs' (fun q hq => d6 q (by omega)) (a2 s' hs')
      have hR2 : ∀ s', s' < 240 → ¬ askR T c y k2 z s (i + 1) s' = 0 → s' < 4 * c 1 := fun s' hs' hn => by
        by_cases px : endS T c y k2 z s (i + 1) s'
        · exact endS_lt hs px
        · unfold askR at hn
          rw [shr_f px] at hn
          exact absurd rfl hn
      obtain ⟨I5, L5, e1, e2, e3, e4, e5⟩ := m_oddsOn (E := E) (w := w) (I := I4) (L := L2) (Q := Q) (c := c) (y := y) (z := z) (j0 := i + 1) (k := k) (t := t) (R := askR T c y k2 z s (i + 1)) hG (by rw [i4]; exact d2.2.1) (by rw [i4]; exact Laid_k (o4 163 (by decide)) (o4 142 (by decide)) rfl rfl d3) hk hz (by rw [i4]; exact ht) t10 (by omega) hR hR2
      rw [i4] at e3 e4
      have i5 : I5 137 = T := by rw [e1 137 (by decide) (by decide) (by decide)]; exact i4
      have sh' := m_shareAt (E := E) (w := w) (I := I5) (L := L5) (Q := Q) (p := g) (c := c) hG (by rw [i5]; exact d2.2.1) e4
      rw [i5] at sh'
      have eg5 : I5 137 (762 + 173 * z) = nI g := by rw [i5]; exact eg
      have mf : MF I2 I5 L2 L5 := ⟨fun k hk => by rw [e1 k (by omega) (by omega) (by omega)]; exact o4 k (by omega), fun j hj => by rw [e1 163 (by omega) (by omega) (by omega), o4 163 (by decide)], fun k hk => e2 k (by unfold Tmp; omega) (by omega) (by omega)⟩
      refine ⟨(I5, L5), ⟨(z1.tr d1).tr mf, i5, d2.2.1, Or.inr ⟨y, hy, e3⟩⟩, ?_⟩
      show L_X12_ask_88 E (rr w 163) (nI z) (nI k) (nI k2) (nI s) (nI y) x6 x7 (g' + 1) (askB P V b0 i).1 (askB P V b0 i).2 (nI (i + 1)) (Hw E w I1 L1 Q) = L_X12_ask_88 E (rr w 163) (nI z) (nI k) (nI k2) (nI s) (nI y) x6 x7 g' (askB P V b0 (i + 1)).1 (askB P V b0 (i + 1)).2 (nI (i + 1 + 1)) (Hw E w I5 L5 Q)
      rw [L_X12_ask_88]
      simp (disch := omega) only [Option.bind_some, Option.map_some, Option.join, cI_r, cL_r, cV_r, xI_r, xL_r, xV_r, xI_t, xL_t, xV_t, lt_r, rtZ_0, rtZ_1, rtZ_zb, o163, f_sayingsOf, et1, if_neg (nI_ge (show i + 1 < t by omega) (show t < 2 ^ 31 by omega)), d7, if_pos (nI_le (gone.mp p) (show r < 2 ^ 31 by omega)), a3, gf163_26, gf163_30, b3, e5, f_goalOf, eg5, sh', nI_1]
      rw [show (1000000 : Int32) - smP (oSeq T c y k z (i + 1) (askR T c y k2 z s (i + 1)) (t - (i + 1))) (fun s => spl T s = nI g) (4 * c 1) = askV T c y k k2 z s t g (i + 1) from rfl, hVi]
      by_cases p2 : V (i + 1) < (askB P V b0 i).1
      · rw [if_pos p2, askB_t ⟨p, p2⟩]
      · rw [if_neg p2, askB_f (fun z => p2 z.2)]
    · refine ⟨(I2, L2), ⟨z1.tr d1, d2⟩, ?_⟩
      show L_X12_ask_88 E (rr w 163) (nI z) (nI k) (nI k2) (nI s) (nI y) x6 x7 (g' + 1) (askB P V b0 i).1 (askB P V b0 i).2 (nI (i + 1)) (Hw E w I1 L1 Q) = L_X12_ask_88 E (rr w 163) (nI z) (nI k) (nI k2) (nI s) (nI y) x6 x7 g' (askB P V b0 (i + 1)).1 (askB P V b0 (i + 1)).2 (nI (i + 1 + 1)) (Hw E w I2 L2 Q)
      have hnr : r < i + 1 := by
        rcases Nat.lt_or_ge r (i + 1) with g | g
        · exact g
        · exact absurd (gone.mpr g) p
      rw [L_X12_ask_88]
      simp (disch := omega) only [Option.bind_some, Option.map_some, Option.join, cI_r, cL_r, cV_r, xI_r, xL_r, xV_r, xI_t, xL_t, xV_t, lt_r, rtZ_0, rtZ_1, rtZ_zb, o163, f_sayingsOf, et1, if_neg (nI_ge (show i + 1 < t by omega) (show t < 2 ^ 31 by omega)), d7, if_neg (nI_ge hnr (show i + 1 < 2 ^ 31 by omega)), nI_1]
      rw [askB_f (fun z => p z.1)]
  · rintro g' ⟨I1, L1⟩ ⟨z1, z2⟩
    dsimp only at *
    have et1 : I1 137 (764 + 173 * z) = nI t := by rw [z2.1]; exact ht
    show L_X12_ask_88 E (rr w 163) (nI z) (nI k) (nI k2) (nI s) (nI y) x6 x7 (g' + 1) (askB P V b0 (t - 1)).1 (askB P V b0 (t - 1)).2 (nI (t - 1 + 1)) (Hw E w I1 L1 Q) = _
    rw [L_X12_ask_88]
    simp (disch := omega) only [Option.bind_some, Option.map_some, Option.join, cI_r, cL_r, cV_r, xI_r, xL_r, xV_r, xI_t, xL_t, xV_t, lt_r, rtZ_0, rtZ_1, rtZ_zb, o163, f_sayingsOf, et1, if_pos (nI_le (show t ≤ t - 1 + 1 by omega) (show t - 1 + 1 < 2 ^ 31 by omega))]
    split <;> rfl
theorem op_ask (hG : 100000 ≤ E.2.2.1) (q : Inv w I L Q) (x1 x2 x3 x4 x5 x6 x7 : Int32) : OpI E w (fun h => F_L_ask E (rr w 136) x1 x2 x3 x4 x5 x6 x7 (rr w 164) h) (fun h => F_X12_ask E (rr w 163) x1 x2 x3 x4 x5 x6 x7 h) I L Q := by
  have q0 := q
  obtain ⟨c, qc⟩ := q
  have qc' : InvC w I L Q c := qc
  obtain ⟨q1, q2, q3, q4, q5, q6, q7, q8, q9, q10, q11, q12, q13⟩ := qc
  have hC := q1.1
  have hC' : Cts ((up2 I 163 3 0) 137) c := hC
  have k1 := hC 1 (by decide)
  have k4 := hC 4 (by decide)
  have k5 := hC 5 (by decide)
  simp only [mx] at k1 k4 k5
  have e4 : I 15 2 = nI (c 4) := q3.2.1.1.trans k4.1
  have c4' : c 4 < 2 ^ 31 := by omega
  have d4' : c 4 < 2 ^ 30 := by omega
  have k4' : (up2 I 163 3 0) 137 4 = nI (c 4) := k4.1
  by_cases pt : bl x1 (c 5) ∧ bl x2 (c 4) ∧ bl x4 (4 * c 1)
  · by_cases p3 : bl x3 (c 4)
    · have nt := fun e => f_needTold2 (E := E) (w := w) (I := I) (L := L) (Q := Q) (e := e) hC q4.1.1 q3.2.1.1 q2.2.1.1 pt
      by_cases p5 : bd x5 0 200
      · by_cases p6 : bd x6 0 1000000
        · have z6 := (bd_iff (by decide)).mp p6
          have z66 : x6 ≤ 1000000 := Int32.not_lt.mp z6.2
          have p3' := p3
          have pt' := pt
          have p5' := p5
          obtain ⟨k2, rfl, hk2⟩ := p3'
          obtain ⟨⟨z, rfl, hz⟩, ⟨k, rfl, hk⟩, ⟨s, rfl, hs⟩⟩ := pt'
          obtain ⟨y, rfl, -, hy⟩ := p5'
          obtain ⟨t, et, ht⟩ := say_n q1 hz
          obtain ⟨g, eg, hg⟩ := goal_n q1 hz
          obtain ⟨I1, L1, a1, a2, a3, a4, a5, a6⟩ := c_set (E := E) (w := w) (y := y) hG qc'.cw hy hk2
          obtain ⟨I2, L2, b1, b2, b3, b4, b5, b6⟩ := c_set (E := E) (w := w) (y := y) hG a2 hy hk
          have g2 : Gnd I2 L2 (I 137) c y k2 := by
            by_cases e : k2 = k
            · rw [e]; exact b4
            · exact b5 k2 e a4
          obtain ⟨I2', I3, L3, Q3, a, d1, d2, d3, d4, d5, d6, d7, -, d9, d10⟩ := c_run (E := E) (w := w) (z := z) (t := t) (s0 := s) hG b2 b3 b4 hz et ht hs
          have pa' := c_partsAt (E := E) (w := w) (I := I3) (L := L3) (Q := Q3) (p := g) hG d2.2.1 d2.2.2.1 d5 d6 d7
          have e23 : I3 23 z = nI g := (d2.2.2.2.2.1.1.2 z hz).1.trans eg
          generalize eb : (1000000 : Int32) - smP (oSeq (I 137) c y k z 0 (stR s) t) (fun s => spl (I 137) s = nI g) (4 * c 1) = b0
          obtain ⟨I4, L4, Q4, f1, f2, f3⟩ := c_ask96 (E := E) (w := w) (z := z) (k := k) (k2 := k2) (t := t) (s := s) (g := g) (x6 := x6) (x7 := x7) (b0 := b0) hG d2 d3.2.2.1 hy hk hk2 (d4 k b4) (d4 k2 g2) hz et ht eg hs
          have cf := ((a1.tr b1).tr d1).tr f1
          generalize ev : (if x7 = 0 then (askB (fun m => ∃ q, endS (I 137) c y k2 z s m q) (fun m => askV (I 137) c y k k2 z s t g m + x6) b0 (t - 1)).2 else (askB (fun m => ∃ q, endS (I 137) c y k2 z s m q) (fun m => askV (I 137) c y k k2 z s t g m + x6) b0 (t - 1)).1) = r at *
          have hc : F_X11_ask E (rr w 136) (nI z) (nI k) (nI k2) (nI s) (nI y) x6 x7 (Hw E w I L Q) = rtI r (Hw E w I4 L4 Q4) := by
            unfold F_X11_ask
            simp (disch := omega) only [Option.bind_some, Option.map_some, Option.join, cI_r, cL_r, cV_r, xI_r, xL_r, xV_r, xI_t, xL_t, xV_t, lt_r, rtZ_0, rtZ_1, rtZ_zb, o136, f_needWalker e4 c4', nd_t p3, nt, nd_t p5, if_neg z6.1, if_pos z66, a6, b6, gf136_5, o54, d9, d10, gf136_2, gf22_1, ga23, ix_n, e23, pa', eb, f3]
          have mw := MW.of qc' (v := r.toInt64) cf
          obtain ⟨I5, L5, h1, h2, h3, -, h5, h6⟩ := m_oddsFrom (E := E) (w := w) (Q := Q4) (y := y) (k := k) (z := z) (t := t) (s0 := s) hG mw hy hk hz et ht hs
          have sh' := m_shareAt (E := E) (w := w) (I := I5) (L := L5) (Q := Q4) (p := g) (c := c) hG (by rw [h2.1]; exact h2.2.1) h5
          rw [h2.1] at sh'
          have eg5 : I5 137 (762 + 173 * z) = nI g := by rw [h2.1]; exact eg
          obtain ⟨I6, L6, j1, j2, j3⟩ := m_ask88 (E := E) (w := w) (Q := Q4) (y := y) (z := z) (k := k) (k2 := k2) (t := t) (s := s) (g := g) (x6 := x6) (x7 := x7) (b0 := b0) hG h2 hy hk hk2 hz et ht eg hs
          rw [ev] at j3
          refine OpI_ok qc' cf f2 (h1.tr j1) j2 ?_ ?_
          · show F_L_ask E (rr w 136) (nI z) (nI k) (nI k2) (nI s) (nI y) x6 x7 (rr w 164) (Hw E w I L Q) = _
            unfold F_L_ask
            simp only [Option.bind_some, Option.map_some, Option.join, cI_r, cL_r, cV_r, xI_r, xL_r, xV_r, xI_t, xL_t, xV_t, lt_r, rtZ_0, rtZ_1, rtZ_zb, o136, hc, pa164, ix01]
          · show F_X12_ask E (rr w 163) (nI z) (nI k) (nI k2) (nI s) (nI y) x6 x7 _ = _
            unfold F_X12_ask
            have hC2 : Cts ((up2 I4 163 3 0) 137) c := by rw [mw.1]; exact hC
            have k4'' : (up2 I4 163 3 0) 137 4 = nI (c 4) := by rw [mw.1]; exact k4.1
            simp (disch := omega) only [Option.bind_some, Option.map_some, Option.join, cI_r, cL_r, cV_r, xI_r, xL_r, xV_r, xI_t, xL_t, xV_t, lt_r, rtZ_0, rtZ_1, rtZ_zb, pf163_3, o163, f_areThere hC2, zi_t pt, f_isWalker k4'' d4', zn_t p3, f_isYear, zi_t p5, f_wi 1000000 (by decide) (show (nI 1000000).toInt64 = 1000000 by rfl), zn_t p6, h6, f_goalOf, eg5, sh', eb, j3]
        · refine OpI_no (k := 2) (b := 0) q0 (by decide) ?_ ?_
          · show F_L_ask E (rr w 136) x1 x2 x3 x4 x5 x6 x7 (rr w 164) (Hw E w I L Q) = _
            unfold F_L_ask F_X11_ask
            by_cases c1 : x6 < 0
            · simp only [Option.bind_some, Option.map_some, Option.join, cI_r, cL_r, cV_r, xI_r, xL_r, xV_r, xI_t, xL_t, xV_t, lt_r, rtZ_0, rtZ_1, rtZ_zb, o136, f_needWalker e4 c4', nd_t p3, nt, nd_t p5, if_pos c1, if_true]
            · have c2 : ¬ x6 ≤ 1000000 := fun z => p6 ((bd_iff (by decide)).mpr ⟨c1, Int32.not_lt.mpr z⟩)
              simp only [Option.bind_some, Option.map_some, Option.join, cI_r, cL_r, cV_r, xI_r, xL_r, xV_r, xI_t, xL_t, xV_t, lt_r, rtZ_0, rtZ_1, rtZ_zb, o136, f_needWalker e4 c4', nd_t p3, nt, nd_t p5, if_neg c1, if_neg c2, if_true]
          · show F_X12_ask E (rr w 163) x1 x2 x3 x4 x5 x6 x7 _ = _
            unfold F_X12_ask
            simp only [Option.bind_some, Option.map_some, Option.join, cI_r, cL_r, cV_r, xI_r, xL_r, xV_r, xI_t, xL_t, xV_t, lt_r, rtZ_0, rtZ_1, rtZ_zb, pf163_3, o163, f_areThere hC', zi_t pt, f_isWalker k4' d4', zn_t p3, f_isYear, zi_t p5, f_wi 1000000 (by decide) (show (nI 1000000).toInt64 = 1000000 by rfl), zn_f p6, f_fails]
      · refine OpI_no (k := 2) (b := 0) q0 (by decide) ?_ ?_
        · show F_L_ask E (rr w 136) x1 x2 x3 x4 x5 x6 x7 (rr w 164) (Hw E w I L Q) = _
          unfold F_L_ask F_X11_ask
          simp only [Option.bind_some, Option.map_some, Option.join, cI_r, cL_r, cV_r, xI_r, xL_r, xV_r, xI_t, xL_t, xV_t, lt_r, rtZ_0, rtZ_1, rtZ_zb, o136, f_needWalker e4 c4', nd_t p3, nt, nd_f p5, if_true]
        · show F_X12_ask E (rr w 163) x1 x2 x3 x4 x5 x6 x7 _ = _
          unfold F_X12_ask
          simp only [Option.bind_some, Option.map_some, Option.join, cI_r, cL_r, cV_r, xI_r, xL_r, xV_r, xI_t, xL_t, xV_t, lt_r, rtZ_0, rtZ_1, rtZ_zb, pf163_3, o163, f_areThere hC', zi_t pt, f_isWalker k4' d4', zn_t p3, f_isYear, zi_f p5, f_fails]
    · refine OpI_no (k := 1) (b := 0) q0 (by decide) ?_ ?_
      · show F_L_ask E (rr w 136) x1 x2 x3 x4 x5 x6 x7 (rr w 164) (Hw E w I L Q) = _
        unfold F_L_ask F_X11_ask
        simp only [Option.bind_some, Option.map_some, Option.join, cI_r, cL_r, cV_r, xI_r, xL_r, xV_r, xI_t, xL_t, xV_t, lt_r, rtZ_0, rtZ_1, rtZ_zb, o136, f_needWalker e4 c4', nd_f p3, String.reduceEq, if_false, if_true]
      · show F_X12_ask E (rr w 163) x1 x2 x3 x4 x5 x6 x7 _ = _
        unfold F_X12_ask
        simp only [Option.bind_some, Option.map_some, Option.join, cI_r, cL_r, cV_r, xI_r, xL_r, xV_r, xI_t, xL_t, xV_t, lt_r, rtZ_0, rtZ_1, rtZ_zb, pf163_3, o163, f_areThere hC', zi_t pt, f_isWalker k4' d4', zn_f p3, f_fails]
  · refine OpI_no (k := 1) (b := 0) q0 (by decide) ?_ ?_
    · show F_L_ask E (rr w 136) x1 x2 x3 x4 x5 x6 x7 (rr w 164) (Hw E w I L Q) = _
      unfold F_L_ask F_X11_ask
      by_cases p3 : bl x3 (c 4)
      · simp only [Option.bind_some, Option.map_some, Option.join, cI_r, cL_r, cV_r, xI_r, xL_r, xV_r, xI_t, xL_t, xV_t, lt_r, rtZ_0, rtZ_1, rtZ_zb, o136, f_needWalker e4 c4', nd_t p3, f_needTold1 hC q4.1.1 q3.2.1.1 q2.2.1.1 pt, String.reduceEq, if_false, if_true]
      · simp only [Option.bind_some, Option.map_some, Option.join, cI_r, cL_r, cV_r, xI_r, xL_r, xV_r, xI_t, xL_t, xV_t, lt_r, rtZ_0, rtZ_1, rtZ_zb, o136, f_needWalker e4 c4', nd_f p3, String.reduceEq, if_false, if_true]
    · show F_X12_ask E (rr w 163) x1 x2 x3 x4 x5 x6 x7 _ = _
      unfold F_X12_ask
      simp only [Option.bind_some, Option.map_some, Option.join, cI_r, cL_r, cV_r, xI_r, xL_r, xV_r, xI_t, xL_t, xV_t, lt_r, rtZ_0, rtZ_1, rtZ_zb, pf163_3, o163, f_areThere hC', zi_f pt, f_fails]
end
