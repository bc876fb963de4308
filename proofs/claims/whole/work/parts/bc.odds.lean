/-! odds: the class -/
noncomputable def oFold (W : Nat → Nat → Prop) (R : Nat → Int32) : Nat → Nat → Int32
  | 0 => fun _ => 0
  | n + 1 => @ite _ (R n = 0) (Classical.propDecidable _) (oFold W R n) (shr (R n) (W n) (oFold W R n))
theorem oFold_0 {W : Nat → Nat → Prop} {R : Nat → Int32} {n : Nat} (h : R n = 0) : oFold W R (n + 1) = oFold W R n := by rw [oFold, if_pos h]
theorem oFold_s {W : Nat → Nat → Prop} {R : Nat → Int32} {n : Nat} (h : ¬ R n = 0) : oFold W R (n + 1) = shr (R n) (W n) (oFold W R n) := by rw [oFold, if_neg h]
theorem oFold_lt {W : Nat → Nat → Prop} {R : Nat → Int32} {n s : Nat} (h : ¬ oFold W R n s = 0) : ∃ s0, s0 < n ∧ ¬ R s0 = 0 ∧ W s0 s := by
  induction n with
  | zero => exact absurd rfl h
  | succ n ih =>
    by_cases p : R n = 0
    · rw [oFold_0 p] at h
      obtain ⟨s0, h1, h2⟩ := ih h
      exact ⟨s0, by omega, h2⟩
    · by_cases p2 : W n s
      · exact ⟨n, by omega, p, p2⟩
      · rw [oFold_s p, shr_f p2] at h
        obtain ⟨s0, h1, h2⟩ := ih h
        exact ⟨s0, by omega, h2⟩
/-- the row of odds after some sayings -/
noncomputable def oSeq (T : Ro) (c : Nat → Nat) (y k z j0 : Nat) (R : Nat → Int32) : Nat → Nat → Int32
  | 0 => R
  | i + 1 => oFold (fun s => sayW T c y k z (j0 + i) (fun q => q = s)) (oSeq T c y k z j0 R i) 240
theorem sayW_lt {T : Ro} {c : Nat → Nat} {y k z j : Nat} {X : Nat → Prop} (hX : ∀ q, X q → q < 4 * c 1) : ∀ q, sayW T c y k z j X q → q < 4 * c 1 := fun q h => by
  obtain ⟨i, _, h2⟩ := h
  exact wd_lt hX q h2
theorem oSeq_lt {T : Ro} {c : Nat → Nat} {y k z j0 : Nat} {R : Nat → Int32} (hR : ∀ s, s < 240 → ¬ R s = 0 → s < 4 * c 1) : ∀ i s, s < 240 → ¬ oSeq T c y k z j0 R i s = 0 → s < 4 * c 1 := by
  intro i
  induction i with
  | zero => exact hR
  | succ i ih =>
    intro s hs h
    obtain ⟨s0, h1, h2, h3⟩ := oFold_lt h
    have := ih s0 h1 h2
    exact sayW_lt (fun q e => by rw [e]; exact this) s h3
def OdF (I I' : Nat → Nat → Int32) (L L' : Nat → Nat → Int64) (Q Q' : Nat → Nat → Option Nat) : Prop := (∀ k, k ≠ 38 → k ≠ 48 → k ≠ 49 → k ≠ 51 → k ≠ 55 → k ≠ 56 → k ≠ 57 → k ≠ 60 → I' k = I k) ∧ (∀ k, k ≠ 39 → k ≠ 48 → k ≠ 50 → k ≠ 52 → k ≠ 59 → L' k = L k) ∧ ∀ k, k ≠ 48 → k ≠ 54 → Q' k = Q k
section
variable {E : Ev} {w : Wo} {I I1 I2 : Nat → Nat → Int32} {L L1 L2 : Nat → Nat → Int64} {Q Q1 Q2 : Nat → Nat → Option Nat} {c : Nat → Nat} {T : Ro} {y : Nat}
theorem OdF.rf : OdF I I L L Q Q := ⟨fun _ _ _ _ _ _ _ _ _ => rfl, fun _ _ _ _ _ _ => rfl, fun _ _ _ => rfl⟩
theorem OdF.tr (h1 : OdF I I1 L L1 Q Q1) (h2 : OdF I1 I2 L1 L2 Q1 Q2) : OdF I I2 L L2 Q Q2 := ⟨fun k a1 a2 a3 a4 a5 a6 a7 a8 => (h2.1 k a1 a2 a3 a4 a5 a6 a7 a8).trans (h1.1 k a1 a2 a3 a4 a5 a6 a7 a8), fun k a1 a2 a3 a4 a5 => (h2.2.1 k a1 a2 a3 a4 a5).trans (h1.2.1 k a1 a2 a3 a4 a5), fun k a1 a2 => (h2.2.2 k a1 a2).trans (h1.2.2 k a1 a2)⟩
theorem OdF.wc {k : Nat} (h : WC I L Q T c y k) (hf : OdF I I1 L L1 Q Q1) (hm : MapY I1 L1 T c y) (hs : StepsR I1 L1 Q1) : WC I1 L1 Q1 T c y k := by
  obtain ⟨h1, h2, h3, h4, h5, h6, h7, h8, h9, h10⟩ := h
  have e : ∀ j, j < 38 ∨ j = 40 → I1 j = I j := fun j hj => hf.1 j (by omega) (by omega) (by omega) (by omega) (by omega) (by omega) (by omega) (by omega)
  exact ⟨h1, LandR_c (fun j hj => e j (by omega)) h2, hm, h4, hs, h6, by rw [e 40 (by omega)]; exact h7, by rw [e 19 (by omega)]; exact h8, by rw [e 20 (by omega)]; exact h9, by rw [e 21 (by omega)]; exact h10⟩
theorem OdF.gnd {k : Nat} (hf : OdF I I1 L L1 Q Q1) (h : Gnd I L T c y k) : Gnd I1 L1 T c y k := fun n hn => by
  rw [hf.1 41 (by decide) (by decide) (by decide) (by decide) (by decide) (by decide) (by decide) (by decide), hf.2.1 42 (by decide) (by decide) (by decide) (by decide) (by decide)]; exact h n hn
theorem OdF.cf (h : OdF I I1 L L1 Q Q1) : CF I I1 L L1 Q Q1 := ⟨fun k hk => h.1 k (by omega) (by omega) (by omega) (by omega) (by omega) (by omega) (by omega) (by omega), fun k hk => h.2.1 k (by omega) (by omega) (by omega) (by omega) (by omega), fun k _ a b => h.2.2 k a b⟩
theorem OdF.of {I' : Nat → Nat → Int32} {L' : Nat → Nat → Int64} {Q' : Nat → Nat → Option Nat} (h : LdF I I' L L' Q Q' 59) : OdF I I' L L' Q Q' := ⟨fun k a1 a2 a3 a4 _ _ _ _ => h.1 k a1 a2 a3 a4, fun k a1 a2 a3 a4 a5 => h.2.1 k a1 a2 a3 a4 a5, fun k a1 _ => h.2.2 k a1⟩
theorem c_odd78 {z j k nf n nw : Nat} (hG : 100000 ≤ E.2.2.1) (h : WC I L Q T c y k) (hg : Gnd I L T c y k) (hf : Frm w I c 57 nf n) (h1 : n = 1) (hz : z < 12) (hj : j < 10) (en : T (765 + 173 * z + j) = nI nw) (hn : nw ≤ 4) (hc1 : ∀ i, i < nw → I 26 (40 * z + 4 * j + i) = enc (T (775 + 173 * z + 16 * j + 4 * i)) (T (776 + 173 * z + 16 * j + 4 * i)) (T (777 + 173 * z + 16 * j + 4 * i)) ∧ WfW (T (775 + 173 * z + 16 * j + 4 * i)) (T (776 + 173 * z + 16 * j + 4 * i)) (T (777 + 173 * z + 16 * j + 4 * i))) (hc2 : nw < 4 → I 26 (40 * z + 4 * j + nw) = 0) : ∃ I' L' Q', LdF I I' L L' Q Q' 59 ∧ MapY I' L' T c y ∧ StepsR I' L' Q' ∧ (∀ q, q < 256 → (bq (L' 59) q ↔ bq (L 59) q ∨ sayW T c y k z j (frX I 57 n) q)) ∧ ∀ K, L_X4_goOn_78 E K (rr w 54) (nI (40 * z + 4 * j)) E.2.2.1 0 (Hw E w I L Q) = K (Hw E w I' L' Q') := by
  have tN : tn (T (765 + 173 * z + j)) = nw := by rw [en]; exact nI_clamp (by omega)
  have okt : okTo 58 := by unfold okTo; omega
  refine lpK2 (ρ := (Hp → Rs) → Rs) (σ := (Nat → Nat → Int32) × (Nat → Nat → Int64) × (Nat → Nat → Option Nat)) (Lp := fun g i s => fun K => L_X4_goOn_78 E K (rr w 54) (nI (40 * z + 4 * j)) g (nI i) (Hw E w s.1 s.2.1 s.2.2)) (K := fun s => fun K => K (Hw E w s.1 s.2.1 s.2.2)) (Iv := fun i s => LdF I s.1 L s.2.1 Q s.2.2 59 ∧ MapY s.1 s.2.1 T c y ∧ StepsR s.1 s.2.1 s.2.2 ∧ ∀ q, q < 256 → (bq (s.2.1 59) q ↔ bq (L 59) q ∨ ∃ i', i' < i ∧ wd T c y k (tn (T (775 + 173 * z + 16 * j + 4 * i'))) (tn (T (776 + 173 * z + 16 * j + 4 * i'))) (T (777 + 173 * z + 16 * j + 4 * i')) (frX I 57 n) q)) (N := nw) (g := E.2.2.1) (i := 0) (s := (I, L, Q)) ?_ ?_ ?_ (by omega) (by omega) ⟨LdF.rf, h.2.2.1, h.2.2.2.2.1, fun q hq => ⟨Or.inl, fun z => z.elim id (fun ⟨_, z, _⟩ => absurd z (by omega))⟩⟩
  · rintro ⟨I1, L1, Q1⟩ ⟨z1, z2, z3, z4⟩ ee
    dsimp only at *
    refine ⟨I1, L1, Q1, z1, z2, z3, fun q hq => ?_, fun K => congrFun ee K⟩
    rw [z4 q hq]
    unfold sayW
    rw [tN]
  · rintro g i ⟨I1, L1, Q1⟩ hi ⟨z1, z2, z3, z4⟩
    dsimp only at *
    have e26 : I1 26 = I 26 := z1.1 26 (by decide) (by decide) (by decide) (by decide)
    obtain ⟨hf1, e47⟩ := hf.mv z1
    have eX : frX I1 57 n = frX I 57 n := by unfold frX; rw [e47]
    obtain ⟨c1, c2⟩ := hc1 i hi
    obtain ⟨I2, L2, Q2, v1, v2, v3, v4, v5⟩ := c_lead (E := E) (w := w) hG (h.mv z1 z2 z3) (Gnd_mv (by omega) z1 hg) so58 okt (by omega) hf1 c2
    rw [eX] at v4
    rw [h1] at v5
    refine ⟨(I2, L2, Q2), ⟨z1.tr v1, v2, v3, fun q hq => ?_⟩, ?_⟩
    · show bq (L2 59) q ↔ _
      rw [v4 q hq, z4 q hq, or_assoc]
      refine or_congr_right ⟨?_, ?_⟩
      · rintro (⟨i', h1, h2⟩ | h)
        · exact ⟨i', by omega, h2⟩
        · exact ⟨i, by omega, h⟩
      · rintro ⟨i', h1, h2⟩
        by_cases e : i' = i
        · subst e; exact Or.inr h2
        · exact Or.inl ⟨i', by omega, h2⟩
    · funext K
      show L_X4_goOn_78 E K (rr w 54) (nI (40 * z + 4 * j)) (g + 1) (nI i) (Hw E w I1 L1 Q1) = _
      rw [L_X4_goOn_78, m4, if_neg (nI_ge (show i < 4 by omega) (by decide))]
      simp (disch := omega) only [Option.bind_some, Option.map_some, Option.join, cI_r, cL_r, cV_r, xI_r, xL_r, xV_r, xI_t, xL_t, xV_t, lt_r, rtZ_0, rtZ_1, rtZ_zb, gf54_0, gf40_2, gf22_4, nI_add, ga26, ix_n, e26, c1, if_neg (enc_ne c2), gf54_3, gf54_4, o40]
      rw [show F_X9_lead E (rr w 40) (enc (T (775 + 173 * z + 16 * j + 4 * i)) (T (776 + 173 * z + 16 * j + 4 * i)) (T (777 + 173 * z + 16 * j + 4 * i))) (rr w 57) 1 (rr w 58) (Hw E w I1 L1 Q1) = _ from v5, cV_r, nI_1]
  · rintro g ⟨I1, L1, Q1⟩ ⟨z1, z2, z3, z4⟩
    dsimp only at *
    have e26 : I1 26 = I 26 := z1.1 26 (by decide) (by decide) (by decide) (by decide)
    funext K
    show L_X4_goOn_78 E K (rr w 54) (nI (40 * z + 4 * j)) (g + 1) (nI nw) (Hw E w I1 L1 Q1) = _
    by_cases e4 : nw = 4
    · rw [L_X4_goOn_78, m4, e4, if_pos (nI_le (Nat.le_refl 4) (by decide))]
    · rw [L_X4_goOn_78, m4, if_neg (nI_ge (show nw < 4 by omega) (by decide))]
      simp (disch := omega) only [Option.bind_some, Option.map_some, Option.join, cI_r, cL_r, cV_r, xI_r, xL_r, xV_r, xI_t, xL_t, xV_t, lt_r, rtZ_0, rtZ_1, rtZ_zb, gf54_0, gf40_2, gf22_4, nI_add, ga26, ix_n, e26, hc2 (show nw < 4 by omega), if_true]
theorem one_frm {s : Nat} (k1 : c 1 ≤ 60) (hs : s < 4 * c 1) (e : I 57 0 = nI s) : Frm w I c 57 1 1 ∧ frX I 57 1 = fun q => q = s := by
  refine ⟨⟨⟨lv_of (by decide), rfl, by decide⟩, by decide, by omega, by omega, fun i hi => ⟨s, by rw [show i = 0 by omega]; exact e, hs⟩⟩, funext fun q => propext ⟨?_, ?_⟩⟩
  · rintro ⟨h1, i, h2, h3⟩
    rw [show i = 0 by omega, e] at h3
    exact ((nI_eq (by omega) (by omega)).mp h3).symm
  · rintro rfl
    exact ⟨by omega, 0, by omega, e⟩
theorem c_odd39 {z j k a b nw : Nat} {R : Nat → Int32} (hG : 100000 ≤ E.2.2.1) (h : WC I L Q T c y k) (hg : Gnd I L T c y k) (hab : (a = 55 ∧ b = 56) ∨ (a = 56 ∧ b = 55)) (hq1 : Q 54 1 = some a) (hq2 : Q 54 2 = some b) (hR : ∀ s, s < 240 → I a s = R s) (hR2 : ∀ s, s < 240 → ¬ R s = 0 → s < 4 * c 1) (h0 : ∀ s, s < 240 → I b s = 0) (hz : z < 12) (hj : j < 10) (en : T (765 + 173 * z + j) = nI nw) (hn : nw ≤ 4) (hc1 : ∀ i, i < nw → I 26 (40 * z + 4 * j + i) = enc (T (775 + 173 * z + 16 * j + 4 * i)) (T (776 + 173 * z + 16 * j + 4 * i)) (T (777 + 173 * z + 16 * j + 4 * i)) ∧ WfW (T (775 + 173 * z + 16 * j + 4 * i)) (T (776 + 173 * z + 16 * j + 4 * i)) (T (777 + 173 * z + 16 * j + 4 * i))) (hc2 : nw < 4 → I 26 (40 * z + 4 * j + nw) = 0) : ∃ I' L' Q', OdF I I' L L' Q Q' ∧ Q' 54 = Q 54 ∧ MapY I' L' T c y ∧ StepsR I' L' Q' ∧ (∀ s, s < 240 → I' b s = oFold (fun s => sayW T c y k z j (fun q => q = s)) R 240 s) ∧ ∀ K, L_X4_goOn_39 E K (rr w 54) (nI (40 * z + 4 * j)) E.2.2.1 0 (Hw E w I L Q) = K (Hw E w I' L' Q') := by
  have k1 : c 1 ≤ 60 := (h.1.1 1 (by decide)).2
  have ia : IA w a 240 := by
    rcases hab with e | e
    · rw [e.1]; exact ia55
    · rw [e.1]; exact ia56
  have ib : IA w b 240 := by
    rcases hab with e | e
    · rw [e.2]; exact ia56
    · rw [e.2]; exact ia55
  generalize hW : (fun s => sayW T c y k z j (fun q => q = s)) = W
  refine lpK2 (ρ := (Hp → Rs) → Rs) (σ := (Nat → Nat → Int32) × (Nat → Nat → Int64) × (Nat → Nat → Option Nat)) (Lp := fun g i s => fun K => L_X4_goOn_39 E K (rr w 54) (nI (40 * z + 4 * j)) g (nI i) (Hw E w s.1 s.2.1 s.2.2)) (K := fun s => fun K => K (Hw E w s.1 s.2.1 s.2.2)) (Iv := fun i s => OdF I s.1 L s.2.1 Q s.2.2 ∧ s.2.2 54 = Q 54 ∧ MapY s.1 s.2.1 T c y ∧ StepsR s.1 s.2.1 s.2.2 ∧ s.1 a = I a ∧ ∀ s', s' < 240 → s.1 b s' = oFold W R i s') (N := 240) (g := E.2.2.1) (i := 0) (s := (I, L, Q)) ?_ ?_ ?_ (by omega) (by omega) ⟨OdF.rf, rfl, h.2.2.1, h.2.2.2.2.1, rfl, h0⟩
  · rintro ⟨I1, L1, Q1⟩ ⟨z1, z2, z3, z4, z5, z6⟩ ee
    exact ⟨I1, L1, Q1, z1, z2, z3, z4, z6, fun K => congrFun ee K⟩
  · rintro g i ⟨I1, L1, Q1⟩ hi ⟨z1, z2, z3, z4, z5, z6⟩
    dsimp only at *
    have ea : I1 a i = R i := by rw [z5]; exact hR i hi
    have e1 : Q1 54 1 = some a := by rw [z2]; exact hq1
    have e2 : Q1 54 2 = some b := by rw [z2]; exact hq2
    by_cases p : R i = 0
    · refine ⟨(I1, L1, Q1), ⟨z1, z2, z3, z4, z5, fun s' hs' => by rw [oFold_0 p]; exact z6 s' hs'⟩, ?_⟩
      funext K
      show L_X4_goOn_39 E K (rr w 54) (nI (40 * z + 4 * j)) (g + 1) (nI i) (Hw E w I1 L1 Q1) = _
      rw [L_X4_goOn_39, m240, if_neg (nI_ge hi (by decide)), gf54_1, e1, Option.map_some, Option.bind_some, ia.ga, ix_n hi (by decide), Option.map_some, Option.bind_some, ea, if_neg (not_not_intro p), nI_1]
    · have hi4 := hR2 i hi p
      have cl := c_clear (E := E) (w := w) (I := up2 I1 57 0 (nI i)) (L := L1) (Q := Q1) hG so58
      have ob : ∀ q, q < 256 → ¬ bq (rs L1 59 0 4 (fun _ => 0) 59) q := fun q hq => clr_b hq
      have oo : ∀ k, k ≠ 59 → rs L1 59 0 4 (fun _ => 0) k = L1 k := fun k hk => rs_row _ _ hk
      have cl' : F_X6_clear E (rr w 58) (Hw E w (up2 I1 57 0 (nI i)) L1 Q1) = rtV (Hw E w (up2 I1 57 0 (nI i)) (rs L1 59 0 4 (fun _ => 0)) Q1) := cl
      generalize rs L1 59 0 4 (fun _ => 0) = L2 at *
      have oi : ∀ k, k ≠ 57 → up2 I1 57 0 (nI i) k = I1 k := fun k hk => up2_row _ _ hk
      have o57 : up2 I1 57 0 (nI i) 57 0 = nI i := up2_s _ _ _ _
      have p57 : (paI E (Hw E w I1 L1 Q1) (rr w 57) 0 (nI i)) = some (Hw E w (up2 I1 57 0 (nI i)) L1 Q1) := by
        rw [pa57, show ix 0 1 = some 0 from rfl, Option.map_some]
      generalize up2 I1 57 0 (nI i) = I2 at *
      have f2 : OdF I I2 L L2 Q Q1 := z1.tr ⟨fun k _ _ _ _ _ _ a7 _ => oi k a7, fun k _ _ _ _ a5 => oo k a5, fun _ _ _ => rfl⟩
      have mp2 : MapY I2 L2 T c y := ⟨MapR_c (oi 32 (by decide)) (oi 38 (by decide)) (fun k g1 g2 => oo k (by omega)) z3.1, by rw [oi 32 (by decide)]; exact z3.2⟩
      have s2 : StepsR I2 L2 Q1 := StepsR_c (oi 48 (by decide)) (oi 49 (by decide)) (oi 51 (by decide)) (oo 50 (by omega)) (oo 52 (by omega)) z4
      obtain ⟨hf, eX⟩ := one_frm (w := w) k1 hi4 o57
      have e26 : I2 26 = I 26 := f2.1 26 (by decide) (by decide) (by decide) (by decide) (by decide) (by decide) (by decide) (by decide)
      obtain ⟨I3, L3, Q3, v1, v2, v3, v4, v5⟩ := c_odd78 (E := E) (w := w) (I := I2) (L := L2) (Q := Q1) (T := T) (c := c) (y := y) (z := z) (j := j) (k := k) (nw := nw) hG (f2.wc h mp2 s2) (f2.gnd hg) hf rfl hz hj en hn (fun i hi => by rw [e26]; exact hc1 i hi) (fun hi => by rw [e26]; exact hc2 hi)
      rw [eX] at v4
      have hX : ∀ q, q < 256 → (bq (L3 59) q ↔ W i q) := fun q hq => by
        rw [v4 q hq, ← hW]
        exact ⟨fun z => z.elim (fun z => absurd z (ob q hq)) id, Or.inr⟩
      have lt : ∀ q, W i q → q < 4 * c 1 := fun q hq => by
        rw [← hW] at hq
        exact sayW_lt (fun q e => by rw [e]; exact hi4) q hq
      obtain ⟨I4, u1, u2, u3⟩ := c_share (E := E) (w := w) (I := I3) (L := L3) (Q := Q3) (m := R i) (b := b) (so := 58) hG so58 ib (by omega) (fun q hq z => by have := lt q ((hX q hq).mp z); omega)
      have fa : ∀ k, k = a ∨ k = b → I3 k = I1 k := fun k hk => by rw [v1.1 k (by omega) (by omega) (by omega) (by omega), oi k (by omega)]
      have f4 : OdF I3 I4 L3 L3 Q3 Q3 := ⟨fun k _ _ _ _ a5 a6 _ a8 => u1 k (by omega) a8, fun _ _ _ _ _ _ => rfl, fun _ _ _ => rfl⟩
      have q3 : Q3 54 = Q 54 := by rw [v1.2.2 54 (by decide)]; exact z2
      have e31 : Q3 54 1 = some a := by rw [q3]; exact hq1
      have e32 : Q3 54 2 = some b := by rw [q3]; exact hq2
      refine ⟨(I4, L3, Q3), ⟨(f2.tr (OdF.of v1)).tr f4, q3, ?_, ?_, ?_, fun s' hs' => ?_⟩, ?_⟩
      · exact ⟨MapR_c (u1 32 (by omega) (by omega)) (u1 38 (by omega) (by omega)) (fun _ _ _ => rfl) v2.1, by show I4 32 1 ≤ _ ∧ _ ≤ I4 32 2; rw [u1 32 (by omega) (by omega)]; exact v2.2⟩
      · exact StepsR_c (u1 48 (by omega) (by omega)) (u1 49 (by omega) (by omega)) (u1 51 (by omega) (by omega)) rfl rfl v3
      · show I4 a = I a
        rw [u1 a (by omega) (by omega), fa a (Or.inl rfl)]; exact z5
      · show I4 b s' = _
        rw [u2 s' hs', oFold_s p]
        exact shr_c hs' (fun s hs => hX s (by omega)) (by rw [fa b (Or.inr rfl)]; exact z6 s' hs')
      · funext K
        show L_X4_goOn_39 E K (rr w 54) (nI (40 * z + 4 * j)) (g + 1) (nI i) (Hw E w I1 L1 Q1) = _
        have ea3 : I3 a i = R i := by rw [fa a (Or.inl rfl)]; exact ea
        rw [L_X4_goOn_39, m240, if_neg (nI_ge hi (by decide)), gf54_1, e1, Option.map_some, Option.bind_some, ia.ga, ix_n hi (by decide), Option.map_some, Option.bind_some, ea, if_pos p, gf54_3, Option.bind_some, p57, Option.bind_some, gf54_4, Option.bind_some, so58.o, Option.bind_some, cl', cV_r, v5]
        unfold J_X4_goOn_141
        rw [gf54_1, e31, Option.map_some, Option.bind_some, ia.ga, ix_n hi (by decide), Option.map_some, Option.bind_some, ea3, gf54_4, Option.bind_some, gf54_2, e32, Option.map_some, Option.bind_some, o54, Option.bind_some, u3, cV_r, nI_1]
  · rintro g ⟨I1, L1, Q1⟩ _
    funext K
    show L_X4_goOn_39 E K (rr w 54) (nI (40 * z + 4 * j)) (g + 1) (nI 240) (Hw E w I1 L1 Q1) = _
    rw [L_X4_goOn_39, m240, if_pos (nI_le (Nat.le_refl 240) (by decide))]
/-- odds go on: from a saying to the last -/
def OdW (T : Ro) (c : Nat → Nat) (y k : Nat) (I I' : Nat → Nat → Int32) (L L' : Nat → Nat → Int64) (Q Q' : Nat → Nat → Option Nat) : Prop := OdF I I' L L' Q Q' ∧ MapY I' L' T c y ∧ StepsR I' L' Q'
theorem c_goOn {z k t j0 a b : Nat} {R : Nat → Int32} (hG : 100000 ≤ E.2.2.1) (h : WC I L Q T c y k) (hg : Gnd I L T c y k) (hb : BookZ (fun j => I (22 + j)) T z) (hab : (a = 55 ∧ b = 56) ∨ (a = 56 ∧ b = 55)) (hq1 : Q 54 1 = some a) (hq2 : Q 54 2 = some b) (hz : z < c 5) (ht : T (764 + 173 * z) = nI t) (t10 : t ≤ 10) (hj : j0 ≤ t) (hR : ∀ s, s < 240 → I a s = R s) (hR2 : ∀ s, s < 240 → ¬ R s = 0 → s < 4 * c 1) : ∃ I' L' Q' a' b', OdF I I' L L' Q Q' ∧ MapY I' L' T c y ∧ StepsR I' L' Q' ∧ ((a' = 55 ∧ b' = 56) ∨ (a' = 56 ∧ b' = 55)) ∧ Q' 54 1 = some a' ∧ Q' 54 2 = some b' ∧ (∀ s, s < 240 → I' a' s = oSeq T c y k z j0 R (t - j0) s) ∧ F_X4_goOn E (rr w 54) (nI z) (nI j0) (Hw E w I L Q) = rtV (Hw E w I' L' Q') := by
  have k1 : c 1 ≤ 60 := (h.1.1 1 (by decide)).2
  have k5 : c 5 ≤ 12 := (h.1.1 5 (by decide)).2
  have e25 : I 25 z = nI t := hb.2.2.1.trans ht
  unfold F_X4_goOn
  refine lpK2 (σ := (Nat → Nat → Int32) × (Nat → Nat → Int64) × (Nat → Nat → Option Nat)) (Lp := fun g i s => L_X4_goOn_2 E (rr w 54) (nI z) g (nI (j0 + i)) (Hw E w s.1 s.2.1 s.2.2)) (K := fun s => rtV (Hw E w s.1 s.2.1 s.2.2)) (Iv := fun i s => OdF I s.1 L s.2.1 Q s.2.2 ∧ MapY s.1 s.2.1 T c y ∧ StepsR s.1 s.2.1 s.2.2 ∧ ∃ a b, ((a = 55 ∧ b = 56) ∨ (a = 56 ∧ b = 55)) ∧ s.2.2 54 1 = some a ∧ s.2.2 54 2 = some b ∧ ∀ s', s' < 240 → s.1 a s' = oSeq T c y k z j0 R i s') (N := t - j0) (g := E.2.2.1) (i := 0) (s := (I, L, Q)) ?_ ?_ ?_ (by omega) (by omega) ⟨OdF.rf, h.2.2.1, h.2.2.2.2.1, a, b, hab, hq1, hq2, hR⟩
  · rintro ⟨I1, L1, Q1⟩ ⟨z1, z2, z3, a1, b1, z4, z5, z6, z7⟩ ee
    exact ⟨I1, L1, Q1, a1, b1, z1, z2, z3, z4, z5, z6, z7, ee⟩
  · rintro g i ⟨I1, L1, Q1⟩ hi ⟨z1, z2, z3, a1, b1, z4, z5, z6, z7⟩
    dsimp only at *
    have e25' : I1 25 z = nI t := by rw [z1.1 25 (by decide) (by decide) (by decide) (by decide) (by decide) (by decide) (by decide) (by decide)]; exact e25
    have ib : IA w b1 240 := by
      rcases z4 with e | e
      · rw [e.2]; exact ia56
      · rw [e.2]; exact ia55
    have fl := f_fillI (E := E) (w := w) (I := I1) (L := L1) (Q := Q1) (v := 0) hG ib
    have oi : ∀ k, k ≠ b1 → rs I1 b1 0 240 (fun _ => 0) k = I1 k := fun k hk => rs_row _ _ hk
    have ob : ∀ s, s < 240 → rs I1 b1 0 240 (fun _ => 0) b1 s = 0 := fun s hs => rs_in _ _ (by omega) (by omega)
    generalize rs I1 b1 0 240 (fun _ => 0) = I2 at *
    have f2 : OdF I I2 L L1 Q Q1 := z1.tr ⟨fun k _ _ _ _ a5 a6 _ _ => oi k (by omega), fun _ _ _ _ _ _ => rfl, fun _ _ _ => rfl⟩
    have mp2 : MapY I2 L1 T c y := ⟨MapR_c (oi 32 (by omega)) (oi 38 (by omega)) (fun _ _ _ => rfl) z2.1, by rw [oi 32 (by omega)]; exact z2.2⟩
    have s2 : StepsR I2 L1 Q1 := StepsR_c (oi 48 (by omega)) (oi 49 (by omega)) (oi 51 (by omega)) rfl rfl z3
    have lti : nI (j0 + i) < T (764 + 173 * z) := by rw [ht]; exact (nI_ltI (by omega) (by omega)).mpr (by omega)
    obtain ⟨⟨nw, en, hn1, hn2⟩, hW⟩ := (h.1.2.2.2.2.2.2.1 z hz).2.2.2 (j0 + i) lti (by omega)
    have e26 : I2 26 = I 26 := f2.1 26 (by decide) (by decide) (by decide) (by decide) (by decide) (by decide) (by decide) (by decide)
    have bk := hb.2.2.2 (j0 + i) (by omega) lti
    obtain ⟨I3, L3, Q3, v1, v2, v3, v4, v5, v6⟩ := c_odd39 (E := E) (w := w) (I := I2) (L := L1) (Q := Q1) (T := T) (c := c) (y := y) (z := z) (j := j0 + i) (k := k) (nw := nw) (R := oSeq T c y k z j0 R i) hG (f2.wc h mp2 s2) (f2.gnd hg) z4 z5 z6 (fun s hs => by rw [oi a1 (by omega)]; exact z7 s hs) (oSeq_lt hR2 i) ob (by omega) (by omega) en hn2 (fun i' hi' => by
      have lt2 : nI i' < T (765 + 173 * z + (j0 + i)) := by rw [en]; exact (nI_ltI (by omega) (by omega)).mpr hi'
      rw [e26]
      exact ⟨(bk i' (by omega)).1 lt2, hW i' (by omega) lt2⟩) (fun h4 => by
      rw [e26]
      exact (bk nw h4).2 (fun z => by rw [en] at z; have := (nI_ltI (by omega) (by omega)).mp z; omega))
    generalize hQ5 : up2 (up2 Q3 54 1 (some b1)) 54 2 (some a1) = Q5
    have q31 : Q3 54 1 = some a1 := by rw [v2]; exact z5
    have q32 : Q3 54 2 = some b1 := by rw [v2]; exact z6
    have f5 : OdF I3 I3 L3 L3 Q3 Q5 := ⟨fun _ _ _ _ _ _ _ _ _ => rfl, fun _ _ _ _ _ _ => rfl, fun k _ a2 => by rw [← hQ5, up2_row _ _ a2, up2_row _ _ a2]⟩
    refine ⟨(I3, L3, Q5), ⟨(f2.tr v1).tr f5, v3, StepsR_q (by show Q5 48 = Q3 48; rw [← hQ5, up2_row _ _ (by decide), up2_row _ _ (by decide)]) v4, b1, a1, by omega, by show Q5 54 1 = _; rw [← hQ5, up2_i _ _ _ (by decide), up2_s], by show Q5 54 2 = _; rw [← hQ5, up2_s], v5⟩, ?_⟩
    show L_X4_goOn_2 E (rr w 54) (nI z) (g + 1) (nI (j0 + i)) (Hw E w I1 L1 Q1) = _
    have hlt : ¬ nI t ≤ nI (j0 + i) := nI_ge (by omega) (by omega)
    rw [L_X4_goOn_2, gf54_0, Option.bind_some, gf40_2, Option.bind_some, gf22_3, Option.bind_some, ga25, ix_n (show z < 12 by omega) (by decide), Option.map_some, Option.bind_some, e25', if_neg hlt, lt_r, m40, m4, pk_mul, pk_mul, nI_add, show z * 40 + (j0 + i) * 4 = 40 * z + 4 * (j0 + i) by omega, gf54_2, z6, Option.map_some, Option.bind_some, fl, cV_r, v6, gf54_1, q31, Option.map_some, Option.bind_some, gf54_2, q32, Option.map_some, Option.bind_some, pf54_1, Option.bind_some, pf54_2, Option.bind_some, hQ5, nI_1]
    rfl
  · rintro g ⟨I1, L1, Q1⟩ ⟨z1, -⟩
    dsimp only at *
    have e25' : I1 25 z = nI t := by rw [z1.1 25 (by decide) (by decide) (by decide) (by decide) (by decide) (by decide) (by decide) (by decide)]; exact e25
    show L_X4_goOn_2 E (rr w 54) (nI z) (g + 1) (nI (j0 + (t - j0))) (Hw E w I1 L1 Q1) = _
    rw [show j0 + (t - j0) = t by omega, L_X4_goOn_2, gf54_0, Option.bind_some, gf40_2, Option.bind_some, gf22_3, Option.bind_some, ga25, ix_n (show z < 12 by omega) (by decide), Option.map_some, Option.bind_some, e25', if_pos (nI_le (Nat.le_refl t) (by omega))]
end
