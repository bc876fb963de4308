/-! told, teller: records counted -/
noncomputable def cntP (P : Nat → Prop) : Nat → Nat
  | 0 => 0
  | n + 1 => cntP P n + @ite _ (P n) (Classical.propDecidable _) 1 0
theorem cntP_t {P : Nat → Prop} {n : Nat} (h : P n) : cntP P (n + 1) = cntP P n + 1 := by rw [cntP, if_pos h]
theorem cntP_f {P : Nat → Prop} {n : Nat} (h : ¬ P n) : cntP P (n + 1) = cntP P n := by rw [cntP, if_neg h, Nat.add_zero]
theorem cntP_le {P : Nat → Prop} (n : Nat) : cntP P n ≤ n := by
  induction n with
  | zero => exact Nat.le_refl _
  | succ n ih =>
    by_cases h : P n
    · rw [cntP_t h]; omega
    · rw [cntP_f h]; omega
def recP (T : Ro) (x : Int32) (a : Prop) (r : Nat) : Prop := T (763 + 173 * tn (T (2839 + 5 * r))) = x ∧ (a ∨ T (2842 + 5 * r) = T (762 + 173 * tn (T (2839 + 5 * r))))
noncomputable def rcn (T : Ro) (c : Nat → Nat) (x : Int32) (a : Prop) : Int32 := nI (cntP (recP T x a) (c 6))
section
variable {E : Ev} {w : Wo} {I : Nat → Nat → Int32} {L : Nat → Nat → Int64} {Q : Nat → Nat → Option Nat} {c : Nat → Nat} {x y : Int32}
theorem f_recordsOf {z : Int32} (hG : 100000 ≤ E.2.2.1) (q1 : WfT (I 137) c) (q4 : BookR (fun j => I (22 + j)) (I 137) c) : F_X0_recordsOf E (rr w 22) x z (Hw E w I L Q) = rtI (rcn (I 137) c x (z = 0)) (Hw E w I L Q) := by
  have k6 := q1.1 6 (by decide)
  have k5 := q1.1 5 (by decide)
  simp only [mx] at k6 k5
  have e6 : I 22 5 = nI (c 6) := q4.2.1.trans k6.1
  unfold F_X0_recordsOf
  refine lpI (σ := Int32) (Lp := fun g i s => L_X0_recordsOf_5 E (rr w 22) x z g s (nI i) (Hw E w I L Q)) (Inv := fun i s => s = nI (cntP (recP (I 137) x (z = 0)) i)) (N := c 6) ?_ ?_ E.2.2.1 0 0 (by omega) (by omega) rfl
  · intro g i s hi hs
    subst hs
    obtain ⟨t, et, ht⟩ := (q1.2.2.2.2.2.2.2 i hi).2.1
    have tt : tn (I 137 (2839 + 5 * i)) = t := by rw [et]; exact nI_clamp (by omega)
    have r := q4.2.2 i hi
    have r1 : I 28 i = nI t := r.2.1.trans et
    have r2 : I 31 i = I 137 (2842 + 5 * i) := r.2.2.2.2
    have b := q4.1.2 t ht
    have b1 : I 24 t = I 137 (763 + 173 * t) := b.2.1
    have b2 : I 23 t = I 137 (762 + 173 * t) := b.1
    have step : L_X0_recordsOf_5 E (rr w 22) x z (g + 1) (nI (cntP (recP (I 137) x (z = 0)) i)) (nI i) (Hw E w I L Q) = L_X0_recordsOf_5 E (rr w 22) x z g (nI (cntP (recP (I 137) x (z = 0)) (i + 1))) (nI (i + 1)) (Hw E w I L Q) := by
      rw [L_X0_recordsOf_5]
      simp only [Option.bind_some, Option.map_some, Option.join, cI_r, cL_r, cV_r, xI_r, xL_r, xV_r, xI_t, xL_t, xV_t, lt_r, rtZ_0, rtZ_1, rtZ_zb, o22, gf22_0, pf22_0, gf22_1, gf22_2, gf22_3, gf22_4, gf22_5, pf22_5, gf22_6, gf22_7, gf22_8, gf22_9, gf22_10, ga23, pa23, ga24, pa24, ga28, pa28, ga31, pa31, e6, if_neg (nI_ge hi (show c 6 < 2 ^ 31 by omega)), ix_n (show i < 30 by omega) (show 30 < 2 ^ 31 by decide), r1, ix_n (show t < 12 by omega) (show 12 < 2 ^ 31 by decide), b1, b2, r2, nI_1]
      by_cases p1 : I 137 (763 + 173 * t) = x
      · rw [if_neg (not_not_intro p1)]
        by_cases p2 : z = 0
        · rw [if_pos p2, cntP_t ⟨by rw [tt]; exact p1, Or.inl p2⟩]
        · rw [if_neg p2]
          by_cases p3 : I 137 (2842 + 5 * i) = I 137 (762 + 173 * t)
          · rw [if_neg (not_not_intro p3), cntP_t ⟨by rw [tt]; exact p1, Or.inr (by rw [tt]; exact p3)⟩]
          · rw [if_pos p3, cntP_f (fun e => e.2.elim p2 (fun h => p3 (by rw [tt] at h; exact h)))]
      · rw [if_pos p1, cntP_f (fun e => p1 (by have := e.1; rw [tt] at this; exact this))]
    exact ⟨_, rfl, step⟩
  · intro g s hs
    subst hs
    show L_X0_recordsOf_5 E (rr w 22) x z (g + 1) _ (nI (c 6)) (Hw E w I L Q) = _
    rw [L_X0_recordsOf_5]
    simp only [Option.bind_some, Option.map_some, Option.join, cI_r, cL_r, cV_r, xI_r, xL_r, xV_r, xI_t, xL_t, xV_t, lt_r, rtZ_0, rtZ_1, rtZ_zb, o22, gf22_0, pf22_0, gf22_1, gf22_2, gf22_3, gf22_4, gf22_5, pf22_5, gf22_6, gf22_7, gf22_8, gf22_9, gf22_10, e6, if_pos (nI_le (Nat.le_refl (c 6)) (show c 6 < 2 ^ 31 by omega))]
    rfl
theorem f_records {z : Int32} (hG : 100000 ≤ E.2.2.1) (q1 : WfT (I 137) c) : F_X12_records E (rr w 163) x z (Hw E w I L Q) = rtI (rcn (I 137) c x (¬ z = 0)) (Hw E w I L Q) := by
  have k6 := q1.1 6 (by decide)
  have k5 := q1.1 5 (by decide)
  simp only [mx] at k6 k5
  unfold F_X12_records
  refine lpI (σ := Int32) (Lp := fun g i s => L_X12_records_5 E (rr w 163) x z g s (nI i) (Hw E w I L Q)) (Inv := fun i s => s = nI (cntP (recP (I 137) x (¬ z = 0)) i)) (N := c 6) ?_ ?_ E.2.2.1 0 0 (by omega) (by omega) rfl
  · intro g i s hi hs
    subst hs
    obtain ⟨t, et, ht⟩ := (q1.2.2.2.2.2.2.2 i hi).2.1
    have tt : tn (I 137 (2839 + 5 * i)) = t := by rw [et]; exact nI_clamp (by omega)
    have i1 : ix ((2838 : Int32) + (5 : Int32) * nI i + 1) 2988 = some (2839 + 5 * i) := by rw [n2838, n5, pk_mul, nI_add, nI_1, show 2838 + 5 * i + 1 = 2839 + 5 * i by omega]; exact ix_n (by omega) (by decide)
    have i4 : ix ((2838 : Int32) + (5 : Int32) * nI i + 4) 2988 = some (2842 + 5 * i) := by rw [n2838, n5, n4, pk_mul, nI_add, nI_add, show 2838 + 5 * i + 4 = 2842 + 5 * i by omega]; exact ix_n (by omega) (by decide)
    have j1 : ix ((762 : Int32) + (173 : Int32) * nI t + 1) 2988 = some (763 + 173 * t) := by rw [n762, n173, pk_mul, nI_add, nI_1, show 762 + 173 * t + 1 = 763 + 173 * t by omega]; exact ix_n (by omega) (by decide)
    have z0 : ∀ v : Int32, v + 0 = v := fun v => by rw [Int32.add_zero]
    have step : L_X12_records_5 E (rr w 163) x z (g + 1) (nI (cntP (recP (I 137) x (¬ z = 0)) i)) (nI i) (Hw E w I L Q) = L_X12_records_5 E (rr w 163) x z g (nI (cntP (recP (I 137) x (¬ z = 0)) (i + 1))) (nI (i + 1)) (Hw E w I L Q) := by
      rw [L_X12_records_5]
      simp only [Option.bind_some, Option.map_some, Option.join, cI_r, cL_r, cV_r, xI_r, xL_r, xV_r, xI_t, xL_t, xV_t, lt_r, rtZ_0, rtZ_1, rtZ_zb, gf163_0, ga137, show ix 6 2988 = some 6 from rfl, k6.1, if_neg (nI_ge hi (show c 6 < 2 ^ 31 by omega)), i1, et, j1, i4, o163, f_goalOf (show t < 12 by omega), nI_1, z0]
      by_cases p1 : I 137 (763 + 173 * t) = x
      · rw [if_neg (not_not_intro p1)]
        by_cases p2 : z = 0
        · rw [if_neg (not_not_intro p2)]
          by_cases p3 : I 137 (2842 + 5 * i) = I 137 (762 + 173 * t)
          · rw [if_neg (not_not_intro p3), cntP_t ⟨by rw [tt]; exact p1, Or.inr (by rw [tt]; exact p3)⟩]
          · rw [if_pos p3, cntP_f (fun e => e.2.elim (fun h => h p2) (fun h => p3 (by rw [tt] at h; exact h)))]
        · rw [if_pos p2, cntP_t ⟨by rw [tt]; exact p1, Or.inl p2⟩]
      · rw [if_pos p1, cntP_f (fun e => p1 (by have := e.1; rw [tt] at this; exact this))]
    exact ⟨_, rfl, step⟩
  · intro g s hs
    subst hs
    show L_X12_records_5 E (rr w 163) x z (g + 1) _ (nI (c 6)) (Hw E w I L Q) = _
    rw [L_X12_records_5]
    simp only [Option.bind_some, Option.map_some, Option.join, cI_r, cL_r, cV_r, xI_r, xL_r, xV_r, xI_t, xL_t, xV_t, lt_r, rtZ_0, rtZ_1, rtZ_zb, gf163_0, ga137, show ix 6 2988 = some 6 from rfl, k6.1, if_pos (nI_le (Nat.le_refl (c 6)) (show c 6 < 2 ^ 31 by omega))]
    rfl
theorem rcn_c {T : Ro} {a b : Prop} (h : a ↔ b) : rcn T c x a = rcn T c x b := by
  have : a = b := propext h
  subst this; rfl
theorem op_told (hG : 100000 ≤ E.2.2.1) (q : Inv w I L Q) (x1 x2 : Int32) (b2 : x2 = 0 ∨ x2 = 1) : OpI E w (fun h => F_L_told E (rr w 136) x1 x2 (rr w 164) h) (fun h => F_X12_told E (rr w 163) x1 x2 h) I L Q := by
  have q0 := q
  obtain ⟨c, q1, q2, q3, q4, q5, -⟩ := q
  have q1' : WfT (up2 I 163 3 0 137) c := q1
  by_cases p : bl x1 10
  · have p' : bd x1 0 9 := bd_bl.mpr p
    refine ⟨0, rcn (I 137) c x1 (¬ x2 = 0), I, up2 I 163 3 0, up2 L 164 0 (rcn (I 137) c x1 (¬ x2 = 0)).toInt64, up2 L 164 0 (rcn (I 137) c x1 (¬ x2 = 0)).toInt64, Q, Q, ?_, ?_, Inv_t (Inv_o q0), up2_s _ _ _ _, fun _ => up2_s _ _ _ _⟩
    · show F_L_told E (rr w 136) x1 x2 (rr w 164) (Hw E w I L Q) = _
      unfold F_L_told F_X11_told
      rcases b2 with rfl | rfl
      · simp only [Option.bind_some, Option.map_some, Option.join, cI_r, cL_r, cV_r, xI_r, xL_r, xV_r, xI_t, xL_t, xV_t, lt_r, rtZ_0, rtZ_1, rtZ_zb, o136, o22, f_needTeller, nd_t p, gf136_2, not_true_eq_false, if_false, f_recordsOf hG q1 q4, pa164, ix01, show ((1 : Int32) = 0) = False from eq_false (by decide)]
      · simp only [Option.bind_some, Option.map_some, Option.join, cI_r, cL_r, cV_r, xI_r, xL_r, xV_r, xI_t, xL_t, xV_t, lt_r, rtZ_0, rtZ_1, rtZ_zb, o136, o22, f_needTeller, nd_t p, gf136_2, show ((1 : Int32) = 0) = False from eq_false (by decide), not_false_eq_true, if_true, f_recordsOf hG q1 q4, pa164, ix01]
    · show F_X12_told E (rr w 163) x1 x2 _ = _
      unfold F_X12_told
      simp only [Option.bind_some, Option.map_some, Option.join, cI_r, cL_r, cV_r, xI_r, xL_r, xV_r, xI_t, xL_t, xV_t, lt_r, rtZ_0, rtZ_1, rtZ_zb, pf163_3, o163, f_wi 9 (by decide) (show (nI 9).toInt64 = 9 by rfl), zi_t p', f_records hG q1']
      rfl
  · have p' : ¬ bd x1 0 9 := fun e => p (bd_bl.mp e)
    refine ⟨1, 0, I, up2 (up2 I 163 3 0) 163 3 1, L, L, Q, Q, ?_, ?_, Inv_t (Inv_t q0), up2_s _ _ _ _, fun e => absurd e (by decide)⟩
    · show F_L_told E (rr w 136) x1 x2 (rr w 164) (Hw E w I L Q) = _
      unfold F_L_told F_X11_told
      simp only [Option.bind_some, Option.map_some, Option.join, cI_r, cL_r, cV_r, xI_r, xL_r, xV_r, xI_t, xL_t, xV_t, lt_r, rtZ_0, rtZ_1, rtZ_zb, o136, f_needTeller, nd_f p, if_true]
    · show F_X12_told E (rr w 163) x1 x2 _ = _
      unfold F_X12_told
      simp only [Option.bind_some, Option.map_some, Option.join, cI_r, cL_r, cV_r, xI_r, xL_r, xV_r, xI_t, xL_t, xV_t, lt_r, rtZ_0, rtZ_1, rtZ_zb, pf163_3, o163, f_wi 9 (by decide) (show (nI 9).toInt64 = 9 by rfl), zi_f p', f_fails]
noncomputable def bst (T : Ro) (c : Nat → Nat) : Nat → Int32
  | 0 => -1
  | i + 1 => @ite _ (rcn T c (nI i) True = 0) (Classical.propDecidable _) (bst T c i) (@ite _ (bst T c i = -1) (Classical.propDecidable _) (nI i) (@ite _ (rcn T c (nI i) False * rcn T c (bst T c i) True ≤ rcn T c (bst T c i) False * rcn T c (nI i) True) (Classical.propDecidable _) (bst T c i) (nI i)))
theorem op_teller (hG : 100000 ≤ E.2.2.1) (q : Inv w I L Q) : OpD E w (fun h => F_X11_teller E (rr w 136) h) (fun h => F_X12_teller E (rr w 163) h) I L Q := by
  have q0 := q
  obtain ⟨c, q1, q2, q3, q4, q5, -⟩ := q
  have q1' : WfT (up2 I 163 3 0 137) c := q1
  have k6 : c 6 ≤ 30 := (q1.1 6 (by decide)).2
  have tr : ∀ v : Int32, rcn (I 137) c v (¬ (1 : Int32) = 0) = rcn (I 137) c v True := fun v => rcn_c ⟨fun _ => trivial, fun _ => by decide⟩
  have fl : ∀ v : Int32, rcn (I 137) c v (¬ (0 : Int32) = 0) = rcn (I 137) c v False := fun v => rcn_c ⟨fun h => h rfl, fun h => h.elim⟩
  have fl2 : ∀ v : Int32, rcn (I 137) c v (¬ True) = rcn (I 137) c v False := fun v => rcn_c ⟨fun h => h trivial, fun h => h.elim⟩
  have tr' : ∀ v : Int32, rcn (I 137) c v ((0 : Int32) = 0) = rcn (I 137) c v True := fun v => rcn_c ⟨fun _ => trivial, fun _ => rfl⟩
  have fl' : ∀ v : Int32, rcn (I 137) c v ((1 : Int32) = 0) = rcn (I 137) c v False := fun v => rcn_c ⟨fun h => absurd h (by decide), fun h => h.elim⟩
  have le0 : ∀ v : Int32, rcn (I 137) c v True ≤ 0 ↔ rcn (I 137) c v True = 0 := by
    intro v
    have hb := cntP_le (P := recP (I 137) v True) (c 6)
    unfold rcn
    constructor
    · intro h
      rcases Nat.eq_zero_or_pos (cntP (recP (I 137) v True) (c 6)) with e | e
      · rw [e]; rfl
      · exact absurd h (nI_nle e (by omega))
    · intro h; rw [h]; exact Int32.le_refl _
  have nm : ∀ i : Nat, i < 10 → ¬ nI i = -1 := fun i hi => m1_ne (by omega)
  refine ⟨bst (I 137) c 10, I, up2 I 163 3 0, L, L, Q, Q, ?_, ?_, Inv_t q0⟩
  · show F_X11_teller E (rr w 136) (Hw E w I L Q) = _
    unfold F_X11_teller
    refine lpI (σ := Int32 × Int32 × Int32) (Lp := fun g i s => L_X11_teller_9 E (rr w 136) g s.1 s.2.1 s.2.2 (nI i) (Hw E w I L Q)) (Inv := fun i s => s.1 = bst (I 137) c i ∧ (s.1 = -1 ∨ (s.2.1 = rcn (I 137) c s.1 False ∧ s.2.2 = rcn (I 137) c s.1 True))) (N := 10) ?_ ?_ E.2.2.1 0 (-1, 0, 1) (by omega) (by omega) ⟨rfl, Or.inl rfl⟩
    · rintro g i ⟨s1, s2, s3⟩ hi ⟨hs, hd⟩
      show ∃ s' : Int32 × Int32 × Int32, _ ∧ L_X11_teller_9 E (rr w 136) (g + 1) s1 s2 s3 (nI i) (Hw E w I L Q) = _
      have hs : s1 = bst (I 137) c i := hs
      rw [L_X11_teller_9]
      unfold J_X11_teller_61
      simp only [Option.bind_some, Option.map_some, Option.join, cI_r, cL_r, cV_r, xI_r, xL_r, xV_r, xI_t, xL_t, xV_t, lt_r, rtZ_0, rtZ_1, rtZ_zb, gf136_2, o22, n10, if_neg (nI_ge hi (by decide)), f_recordsOf hG q1 q4, tr', fl', nI_1]
      by_cases p1 : rcn (I 137) c (nI i) True = 0
      · refine ⟨(s1, s2, s3), ⟨?_, hd⟩, ?_⟩
        · show s1 = bst (I 137) c (i + 1); rw [bst, if_pos p1]; exact hs
        · rw [if_pos ((le0 _).mpr p1)]
      · have p1' : ¬ rcn (I 137) c (nI i) True ≤ 0 := fun e => p1 ((le0 _).mp e)
        by_cases p2 : s1 = -1
        · refine ⟨(nI i, rcn (I 137) c (nI i) False, rcn (I 137) c (nI i) True), ⟨?_, Or.inr ⟨rfl, rfl⟩⟩, ?_⟩
          · show nI i = bst (I 137) c (i + 1); rw [bst, if_neg p1, if_pos (by rw [← hs]; exact p2)]
          · rw [if_neg p1', if_pos p2]
        · rcases hd with hd | ⟨d2, d3⟩
          · exact absurd hd p2
          · have d2' : s2 = rcn (I 137) c s1 False := d2
            have d3' : s3 = rcn (I 137) c s1 True := d3
            clear d2 d3
            subst d2'
            subst d3'
            by_cases p3 : rcn (I 137) c (nI i) False * rcn (I 137) c s1 True ≤ rcn (I 137) c s1 False * rcn (I 137) c (nI i) True
            · refine ⟨(s1, rcn (I 137) c s1 False, rcn (I 137) c s1 True), ⟨?_, Or.inr ⟨rfl, rfl⟩⟩, ?_⟩
              · show s1 = bst (I 137) c (i + 1); rw [bst, if_neg p1, ← hs, if_neg p2, if_pos p3]
              · rw [if_neg p1', if_neg p2, if_pos p3]
            · refine ⟨(nI i, rcn (I 137) c (nI i) False, rcn (I 137) c (nI i) True), ⟨?_, Or.inr ⟨rfl, rfl⟩⟩, ?_⟩
              · show nI i = bst (I 137) c (i + 1); rw [bst, if_neg p1, ← hs, if_neg p2, if_neg p3]
              · rw [if_neg p1', if_neg p2, if_neg p3]
    · rintro g ⟨s1, s2, s3⟩ ⟨hs, -⟩
      show L_X11_teller_9 E (rr w 136) (g + 1) s1 s2 s3 (nI 10) (Hw E w I L Q) = _
      have hs : s1 = bst (I 137) c 10 := hs
      rw [L_X11_teller_9]
      simp only [n10, if_pos (nI_le (Nat.le_refl 10) (by decide)), hs]
  · show F_X12_teller E (rr w 163) (Hw E w I L Q) = _
    unfold F_X12_teller
    simp only [Option.bind_some, Option.map_some, Option.join, cI_r, cL_r, cV_r, xI_r, xL_r, xV_r, xI_t, xL_t, xV_t, lt_r, rtZ_0, rtZ_1, rtZ_zb, pf163_3]
    refine lpI (σ := Int32) (Lp := fun g i s => L_X12_teller_9 E (rr w 163) g s (nI i) (Hw E w (up2 I 163 3 0) L Q)) (Inv := fun i s => s = bst (I 137) c i) (N := 10) ?_ ?_ E.2.2.1 0 (-1) (by omega) (by omega) rfl
    · intro g i s hi hs
      show ∃ s' : Int32, _ ∧ L_X12_teller_9 E (rr w 163) (g + 1) s (nI i) (Hw E w (up2 I 163 3 0) L Q) = _
      have hT : up2 I 163 3 0 137 = I 137 := up2_row I 0 (by decide)
      rw [L_X12_teller_9]
      simp only [Option.bind_some, Option.map_some, Option.join, cI_r, cL_r, cV_r, xI_r, xL_r, xV_r, xI_t, xL_t, xV_t, lt_r, rtZ_0, rtZ_1, rtZ_zb, o163, n10, if_neg (nI_ge hi (by decide)), f_records hG q1', hT, tr, fl, fl2, nI_1]
      by_cases p1 : rcn (I 137) c (nI i) True = 0
      · exact ⟨s, by rw [bst, if_pos p1]; exact hs, by rw [if_neg (not_not_intro p1)]⟩
      · by_cases p2 : s = -1
        · exact ⟨nI i, by rw [bst, if_neg p1, if_pos (by rw [← hs]; exact p2)], by rw [if_pos p1, if_pos p2]⟩
        · by_cases p3 : rcn (I 137) c (nI i) False * rcn (I 137) c s True ≤ rcn (I 137) c s False * rcn (I 137) c (nI i) True
          · exact ⟨s, by rw [bst, if_neg p1, ← hs, if_neg p2, if_pos p3], by rw [if_pos p1, if_neg p2, if_pos p3]⟩
          · exact ⟨nI i, by rw [bst, if_neg p1, ← hs, if_neg p2, if_neg p3], by rw [if_pos p1, if_neg p2, if_neg p3]⟩
    · intro g s hs
      show L_X12_teller_9 E (rr w 163) (g + 1) s (nI 10) _ = _
      rw [L_X12_teller_9]
      simp only [n10, if_pos (nI_le (Nat.le_refl 10) (by decide)), hs]
end
