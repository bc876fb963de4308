/-! restore -/
theorem WfT_X {T T' : Ro} {c : Nat → Nat} (h : ∀ i, i < 2988 → T' i = T i) (q : WfT T c) : WfT T' c := by
  obtain ⟨q1, q2, q3, q4, q5, q6, q7, q8⟩ := q
  have b0 : c 0 ≤ 40 := (q1 0 (by decide)).2
  have b1 : c 1 ≤ 60 := (q1 1 (by decide)).2
  have b2 : c 2 ≤ 40 := (q1 2 (by decide)).2
  have b3 : c 3 ≤ 6 := (q1 3 (by decide)).2
  have b4 : c 4 ≤ 8 := (q1 4 (by decide)).2
  have b5 : c 5 ≤ 12 := (q1 5 (by decide)).2
  have b6 : c 6 ≤ 30 := (q1 6 (by decide)).2
  refine ⟨fun i hi => by rw [h i (by omega)]; exact q1 i hi, ⟨fun p hp => ?_, fun p p' hp hp' e1 e2 => ?_⟩, fun v hv => WfV_T (fun i _ _ => h i (by omega)) (by omega) (Nat.le_refl _) (q3 v hv), fun m hm => WfM_T (fun i _ _ => h i (by omega)) (by omega) (Nat.le_refl _) (q4 m hm), fun t ht => WfU_T (fun i _ _ => h i (by omega)) (by omega) (q5 t ht), fun k hk => WfK_T (fun i _ _ => h i (by omega)) (by omega) (Nat.le_refl _) (q6 k hk), fun z hz => WfZ_T (fun i _ _ => h i (by omega)) (by omega) (Nat.le_refl _) (q7 z hz), fun r hr => WfR_T (fun i _ _ => h i (by omega)) (by omega) (Nat.le_refl _) (Nat.le_refl _) (Nat.le_refl _) (Nat.le_refl _) (q8 r hr)⟩
  · rw [h _ (by omega), h _ (by omega)]; exact q2.1 p hp
  · rw [h _ (by omega), h _ (by omega)] at e1 e2
    exact q2.2 p p' hp hp' e1 e2
theorem LandR_X {T T' : Ro} {r r' : Nat → Ro} {c : Nat → Nat} (h : ∀ i, i < 2988 → T' i = T i) (q1 : WfT T c) (q : LandR r T c) (h0 : r' 0 0 = r 0 0) (h03 : r' 0 3 = r 0 3) (h011 : r' 0 11 = r 0 11) (h1 : ∀ x, x < 40 → r' 1 x = r 1 x) (h2 : ∀ x, x < 40 → r' 2 x = r 2 x) (h3 : ∀ x, x < 60 → r' 3 x = r 3 x) (h4 : ∀ x, x < 60 → r' 4 x = r 4 x) (h5 : ∀ x, x < 60 → r' 5 x = r 5 x) (h6 : ∀ x, x < 60 → r' 6 x = r 6 x) (h7 : ∀ x, x < 240 → r' 7 x = r 7 x) (h8 : ∀ x, x < 120 → r' 8 x = r 8 x) (h9 : ∀ x, x < 120 → r' 9 x = r 9 x) (h10 : ∀ x, x < 40 → r' 10 x = r 10 x) (h11 : ∀ x, x < 40 → r' 11 x = r 11 x) (h12 : ∀ x, x < 40 → r' 12 x = r 12 x) (h13 : ∀ x, x < 40 → r' 13 x = r 13 x) (h14 : ∀ x, x < 40 → r' 14 x = r 14 x) : LandR r' T' c := by
  have b0 : c 0 ≤ 40 := (q1.1 0 (by decide)).2
  have b1 : c 1 ≤ 60 := (q1.1 1 (by decide)).2
  have b2 : c 2 ≤ 40 := (q1.1 2 (by decide)).2
  obtain ⟨⟨p1, p2⟩, ⟨p3, p4⟩, ⟨p5, p6⟩, p7⟩ := q
  refine ⟨⟨by rw [h0, h 0 (by omega)]; exact p1, fun p hp => by rw [h1 p (by omega), h2 p (by omega), h _ (by omega), h _ (by omega)]; exact p2 p hp⟩, ⟨by rw [h03, h 1 (by omega)]; exact p3, fun v hv => ?_⟩, ⟨by rw [h011, h 2 (by omega)]; exact p5, fun m hm => ?_⟩, fun m hm => by rw [h12 m hm]; exact p7 m hm⟩
  · have z := LandV_T (T' := T') (fun i _ _ => h i (by omega)) (fun p hp => ⟨h _ (by omega), h _ (by omega)⟩) (show v < 60 by omega) b0 (q1.2.2.1 v hv) (p4 v hv)
    unfold LandV at *
    rw [h3 v (by omega), h4 v (by omega), h5 v (by omega), h6 v (by omega), h7 _ (by omega), h7 _ (by omega), h7 _ (by omega), h7 _ (by omega), h8 _ (by omega), h8 _ (by omega), h9 _ (by omega), h9 _ (by omega)]
    exact z
  · have z := LandM_T (T' := T') (fun i _ _ => h i (by omega)) (show m < 40 by omega) (p6 m hm)
    unfold LandM at *
    rw [h10 m (by omega), h11 m (by omega), h12 m (by omega), h13 m (by omega), h14 m (by omega)]
    exact z
theorem FolkR_X {T T' : Ro} {r r' : Nat → Ro} {c : Nat → Nat} (h : ∀ i, i < 2988 → T' i = T i) (q1 : WfT T c) (q : FolkR r T c) (h0 : r' 0 0 = r 0 0) (h02 : r' 0 2 = r 0 2) (h1 : ∀ x, x < 72 → r' 1 x = r 1 x) (h2 : ∀ x, x < 8 → r' 2 x = r 2 x) (h3 : ∀ x, x < 8 → r' 3 x = r 3 x) (h4 : ∀ x, x < 8 → r' 4 x = r 4 x) (h5 : ∀ x, x < 8 → r' 5 x = r 5 x) (h6 : ∀ x, x < 8 → r' 6 x = r 6 x) : FolkR r' T' c := by
  have b3 : c 3 ≤ 6 := (q1.1 3 (by decide)).2
  have b4 : c 4 ≤ 8 := (q1.1 4 (by decide)).2
  obtain ⟨⟨p1, p2⟩, ⟨p3, p4⟩, p5⟩ := q
  refine ⟨⟨by rw [h0, h 3 (by omega)]; exact p1, fun t ht n hn => by rw [h1 _ (by omega), h _ (by omega)]; exact p2 t ht n hn⟩, ⟨by rw [h02, h 4 (by omega)]; exact p3, fun k hk => ?_⟩, fun k hk => by rw [h4 k hk, h5 k hk]; exact p5 k hk⟩
  have z := FolkK_T (T' := T') (fun i _ _ => h i (by omega)) (show k < 8 by omega) (p4 k hk)
  unfold FolkK at *
  rw [h2 k (by omega), h3 k (by omega), h4 k (by omega), h5 k (by omega), h6 k (by omega)]
  exact z
theorem BookR_X {T T' : Ro} {r r' : Nat → Ro} {c : Nat → Nat} (h : ∀ i, i < 2988 → T' i = T i) (q1 : WfT T c) (q : BookR r T c) (h0 : r' 0 0 = r 0 0) (h05 : r' 0 5 = r 0 5) (h1 : ∀ x, x < 12 → r' 1 x = r 1 x) (h2 : ∀ x, x < 12 → r' 2 x = r 2 x) (h3 : ∀ x, x < 12 → r' 3 x = r 3 x) (h4 : ∀ x, x < 480 → r' 4 x = r 4 x) (h5 : ∀ x, x < 30 → r' 5 x = r 5 x) (h6 : ∀ x, x < 30 → r' 6 x = r 6 x) (h7 : ∀ x, x < 30 → r' 7 x = r 7 x) (h8 : ∀ x, x < 30 → r' 8 x = r 8 x) (h9 : ∀ x, x < 30 → r' 9 x = r 9 x) : BookR r' T' c := by
  have b5 : c 5 ≤ 12 := (q1.1 5 (by decide)).2
  have b6 : c 6 ≤ 30 := (q1.1 6 (by decide)).2
  obtain ⟨⟨p1, p2⟩, ⟨p3, p4⟩⟩ := q
  refine ⟨⟨by rw [h0, h 5 (by omega)]; exact p1, fun z hz => ?_⟩, ⟨by rw [h05, h 6 (by omega)]; exact p3, fun k hk => ?_⟩⟩
  · have zz := BookZ_T (T' := T') (fun i _ _ => h i (by omega)) (show z < 12 by omega) (p2 z hz)
    obtain ⟨z1, z2, z3, z4⟩ := zz
    refine ⟨by rw [h1 z (by omega)]; exact z1, by rw [h2 z (by omega)]; exact z2, by rw [h3 z (by omega)]; exact z3, fun j hj g i hi => ?_⟩
    rw [h4 _ (by omega)]; exact z4 j hj g i hi
  · have z := BookK_T (T' := T') (fun i _ _ => h i (by omega)) (show k < 30 by omega) (p4 k hk)
    unfold BookK at *
    rw [h5 k (by omega), h6 k (by omega), h7 k (by omega), h8 k (by omega), h9 k (by omega)]
    exact z
section
variable {E : Ev} {w : Wo} {I : Nat → Nat → Int32} {L : Nat → Nat → Int64} {Q : Nat → Nat → Option Nat} {c : Nat → Nat} {x y : Int32}
theorem LdO_0 : LdO w 0 := by
  unfold LdO
  refine ⟨⟨lv_of (by decide), rfl⟩, ⟨lv_of (by decide), rfl⟩, ⟨lv_of (by decide), rfl⟩, ⟨lv_of (by decide), rfl⟩, ⟨lv_of (by decide), rfl⟩, ⟨lv_of (by decide), rfl⟩, ⟨lv_of (by decide), rfl⟩, ⟨lv_of (by decide), rfl⟩, ⟨lv_of (by decide), rfl⟩, ⟨lv_of (by decide), rfl⟩, ⟨lv_of (by decide), rfl⟩, ⟨lv_of (by decide), rfl⟩, ⟨lv_of (by decide), rfl⟩, ⟨lv_of (by decide), rfl⟩, ⟨lv_of (by decide), rfl⟩⟩
theorem FkO_0 : FkO w 15 := by
  unfold FkO
  refine ⟨⟨lv_of (by decide), rfl⟩, ⟨lv_of (by decide), rfl⟩, ⟨lv_of (by decide), rfl⟩, ⟨lv_of (by decide), rfl⟩, ⟨lv_of (by decide), rfl⟩, ⟨lv_of (by decide), rfl⟩, ⟨lv_of (by decide), rfl⟩⟩
theorem BkO_0 : BkO w 22 := by
  unfold BkO
  refine ⟨⟨lv_of (by decide), rfl⟩, ⟨lv_of (by decide), rfl⟩, ⟨lv_of (by decide), rfl⟩, ⟨lv_of (by decide), rfl⟩, ⟨lv_of (by decide), rfl⟩, ⟨lv_of (by decide), rfl⟩, ⟨lv_of (by decide), rfl⟩, ⟨lv_of (by decide), rfl⟩, ⟨lv_of (by decide), rfl⟩, ⟨lv_of (by decide), rfl⟩⟩
theorem LdO_i {i : Nat} (hi : i < 3) (h : ∀ j, j < 32 → lvk w (165 + 32 * i + j)) : LdO w (165 + 32 * i) := by
  have : i = 0 ∨ i = 1 ∨ i = 2 := by omega
  unfold LdO
  rcases this with rfl | rfl | rfl <;> exact ⟨⟨h 0 (by decide), rfl⟩, ⟨h 1 (by decide), rfl⟩, ⟨h 2 (by decide), rfl⟩, ⟨h 3 (by decide), rfl⟩, ⟨h 4 (by decide), rfl⟩, ⟨h 5 (by decide), rfl⟩, ⟨h 6 (by decide), rfl⟩, ⟨h 7 (by decide), rfl⟩, ⟨h 8 (by decide), rfl⟩, ⟨h 9 (by decide), rfl⟩, ⟨h 10 (by decide), rfl⟩, ⟨h 11 (by decide), rfl⟩, ⟨h 12 (by decide), rfl⟩, ⟨h 13 (by decide), rfl⟩, ⟨h 14 (by decide), rfl⟩⟩
theorem FkO_i {i : Nat} (hi : i < 3) (h : ∀ j, j < 32 → lvk w (165 + 32 * i + j)) : FkO w (180 + 32 * i) := by
  have : i = 0 ∨ i = 1 ∨ i = 2 := by omega
  unfold FkO
  rcases this with rfl | rfl | rfl <;> exact ⟨⟨h 15 (by decide), rfl⟩, ⟨h 16 (by decide), rfl⟩, ⟨h 17 (by decide), rfl⟩, ⟨h 18 (by decide), rfl⟩, ⟨h 19 (by decide), rfl⟩, ⟨h 20 (by decide), rfl⟩, ⟨h 21 (by decide), rfl⟩⟩
theorem BkO_i {i : Nat} (hi : i < 3) (h : ∀ j, j < 32 → lvk w (165 + 32 * i + j)) : BkO w (187 + 32 * i) := by
  have : i = 0 ∨ i = 1 ∨ i = 2 := by omega
  unfold BkO
  rcases this with rfl | rfl | rfl <;> exact ⟨⟨h 22 (by decide), rfl⟩, ⟨h 23 (by decide), rfl⟩, ⟨h 24 (by decide), rfl⟩, ⟨h 25 (by decide), rfl⟩, ⟨h 26 (by decide), rfl⟩, ⟨h 27 (by decide), rfl⟩, ⟨h 28 (by decide), rfl⟩, ⟨h 29 (by decide), rfl⟩, ⟨h 30 (by decide), rfl⟩, ⟨h 31 (by decide), rfl⟩⟩
theorem m_restore49 {i : Nat} (hG : 100000 ≤ E.2.2.1) (hi : i < 3) : ∃ I', (∀ k, k ≠ 137 → I' k = I k) ∧ (∀ j, j < 2988 → I' 137 j = I 138 (2988 * i + j)) ∧ L_X12_restore_49 E (rr w 163) (nI i) E.2.2.1 0 (Hw E w I L Q) = rtV (Hw E w I' L Q) := by
  refine lpK2 (σ := Nat → Nat → Int32) (Lp := fun g j s => L_X12_restore_49 E (rr w 163) (nI i) g (nI j) (Hw E w s L Q)) (K := fun s => rtV (Hw E w s L Q)) (Iv := fun m s => (∀ k, k ≠ 137 → s k = I k) ∧ ∀ j, j < m → s 137 j = I 138 (2988 * i + j)) (N := 2988) (g := E.2.2.1) (i := 0) (s := I) ?_ ?_ ?_ (by omega) (by omega) ⟨fun _ _ => rfl, fun p hp => absurd hp (by omega)⟩
  · rintro I1 ⟨z1, z2⟩ ee
    exact ⟨I1, z1, z2, ee⟩
  · rintro g j I1 hj ⟨z1, z2⟩
    have e8 : I1 138 (2988 * i + j) = I 138 (2988 * i + j) := by rw [z1 138 (by decide)]
    refine ⟨up2 I1 137 j (I 138 (2988 * i + j)), ⟨fun k hk => by rw [up2_row _ _ hk]; exact z1 k hk, fun p hp => ?_⟩, ?_⟩
    · by_cases e : p = j
      · subst e; rw [up2_s]
      · rw [up2_i _ _ _ e]; exact z2 p (by omega)
    · show L_X12_restore_49 E (rr w 163) (nI i) (g + 1) (nI j) (Hw E w I1 L Q) = _
      rw [L_X12_restore_49]
      simp (disch := omega) only [Option.bind_some, Option.map_some, Option.join, cI_r, cL_r, cV_r, xI_r, xL_r, xV_r, xI_t, xL_t, xV_t, lt_r, rtZ_0, rtZ_1, rtZ_zb, m2988, pk_mul, nI_add, nI_leI, nI_1, if_neg, gf163_0, gf163_1, ga138, pa137, ix_n, e8]
  · rintro g I1 _
    show L_X12_restore_49 E (rr w 163) (nI i) (g + 1) (nI 2988) (Hw E w I1 L Q) = _
    rw [L_X12_restore_49]
    simp (disch := omega) only [m2988, nI_leI, if_pos]
theorem op_restore (hG : 100000 ≤ E.2.2.1) (q : Inv w I L Q) (x1 : Int32) : OpV E w (fun h => F_L_restore E (rr w 136) x1 h) (fun h => F_X12_restore E (rr w 163) x1 h) I L Q := by
  have q0 := q
  obtain ⟨c, q1, q2, q3, q4, q5, q6, q7, q8, q9, q10, q11, q12, q13⟩ := q
  by_cases p1 : bl x1 3
  · have p1b : bd x1 0 2 := bd_bl.mpr p1
    have p1' := p1
    obtain ⟨i, rfl, hi⟩ := p1'
    rcases q13 i hi with ⟨o1, o2, o3, o4, o5⟩ | ⟨o1, o2, o3, o4, o5, c', w1, w2, w3, w4⟩
    · refine ⟨2, I, up2 I 163 3 2, L, L, Q, Q, ?_, ?_, Inv_t q0, up2_s _ _ _ _⟩
      · show F_L_restore E (rr w 136) (nI i) (Hw E w I L Q) = _
        unfold F_L_restore F_X11_restore
        simp only [Option.bind_some, Option.map_some, Option.join, cI_r, cL_r, cV_r, xI_r, xL_r, xV_r, xI_t, xL_t, xV_t, lt_r, rtZ_0, rtZ_1, rtZ_zb, o136, f_needImage, nd_t p1, gf136_9, ga125, ix_n hi (show 3 < 2 ^ 31 by decide), o1, Option.map_none, if_true]
      · show F_X12_restore E (rr w 163) (nI i) (Hw E w I L Q) = _
        unfold F_X12_restore J_X12_restore_31
        simp only [Option.bind_some, Option.map_some, Option.join, cI_r, cL_r, cV_r, xI_r, xL_r, xV_r, xI_t, xL_t, xV_t, lt_r, rtZ_0, rtZ_1, rtZ_zb, f_wi 2 (by decide) (show (nI 2).toInt64 = 2 by rfl), zn_t p1b, gf163_2, ga139, ix_n hi (show 3 < 2 ^ 31 by decide), o4, not_true_eq_false, if_false, pf163_3, gf163_3, up2_s, show ¬ (2 : Int32) ≤ 0 by decide]
    · obtain ⟨J1, a1, a2, a3⟩ := take_Ld (E := E) (w := w) (I := I) (L := L) (Q := Q) (d := 0) (s := 165 + 32 * i) hG LdO_0 (LdO_i hi o5) (by omega) (fun x hx => w2.2.2.2 x hx)
      obtain ⟨J2, b1, b2, b3⟩ := take_Fk (E := E) (w := w) (I := J1) (L := L) (Q := Q) (d := 15) (s := 180 + 32 * i) hG FkO_0 (FkO_i hi o5) (by omega) (fun x hx => by rw [a1 _ (by omega)]; exact (w3.2.2 x hx).1) (fun x hx => by rw [a1 _ (by omega)]; exact (w3.2.2 x hx).2)
      obtain ⟨J3, d1, d2, d3⟩ := take_Bk (E := E) (w := w) (I := J2) (L := L) (Q := Q) (d := 22) (s := 187 + 32 * i) BkO_0 (BkO_i hi o5) (by omega)
      have oi : ∀ k, 32 ≤ k → J3 k = I k := fun k hk => by rw [d1 k (by omega), b1 k (by omega), a1 k (by omega)]
      have oL : ∀ k, k < 15 → J3 k = J1 k := fun k hk => by rw [d1 k (by omega), b1 k (by omega)]
      have oF : ∀ k, 15 ≤ k → k < 22 → J3 k = J2 k := fun k h1 h2 => by rw [d1 k (by omega)]
      have sF : ∀ k, 165 ≤ k → J1 k = I k := fun k hk => a1 k (by omega)
      have sB : ∀ k, 165 ≤ k → J2 k = I k := fun k hk => by rw [b1 k (by omega), a1 k (by omega)]
      generalize eJ : up2 (up2 (up2 J3 32 1 0) 32 2 (-1)) 32 3 1 = J4
      have r4 : ∀ k, k ≠ 32 → J4 k = J3 k := fun k hk => by rw [← eJ, up2_row _ _ hk, up2_row _ _ hk, up2_row _ _ hk]
      have f1 : J4 32 1 = 0 := by rw [← eJ, up2_i _ _ _ (by decide), up2_i _ _ _ (by decide), up2_s]
      have f2 : J4 32 2 = -1 := by rw [← eJ, up2_i _ _ _ (by decide), up2_s]
      have f3 : J4 32 3 = 1 := by rw [← eJ, up2_s]
      obtain ⟨M, m1', m2', m3'⟩ := m_restore49 (E := E) (w := w) (I := up2 (up2 J4 163 3 0) 163 4 (-1)) (L := L) (Q := Q) (i := i) hG hi
      have rM : ∀ k, k ≠ 137 → k ≠ 163 → M k = J4 k := fun k h1 h2 => by rw [m1' k h1, up2_row _ _ h2, up2_row _ _ h2]
      have rI : ∀ k, 33 ≤ k → k ≠ 137 → k ≠ 163 → M k = I k := fun k h0 h1 h2 => by rw [rM k h1 h2, r4 k (by omega), oi k (by omega)]
      have r163 : ∀ j, j ≠ 3 → j ≠ 4 → M 163 j = I 163 j := fun j h1 h2 => by rw [m1' 163 (by decide), up2_i _ _ _ h2, up2_i _ _ _ h1, r4 163 (by decide), oi 163 (by decide)]
      have hT : ∀ j, j < 2988 → M 137 j = (fun k => I 138 (2988 * i + k)) j := fun j hj => by
        rw [m2' j hj, up2_row _ _ (by decide), up2_row _ _ (by decide), r4 138 (by decide), oi 138 (by decide)]
      have rL : ∀ k, k < 15 → M k = J1 k := fun k hk => by rw [rM k (by omega) (by omega), r4 k (by omega), oL k hk]
      have rF : ∀ k, 15 ≤ k → k < 22 → M k = J2 k := fun k h1 h2 => by rw [rM k (by omega) (by omega), r4 k (by omega), oF k h1 h2]
      have rB : ∀ k, 22 ≤ k → k < 32 → M k = J3 k := fun k h1 h2 => by rw [rM k (by omega) (by omega), r4 k (by omega)]
      obtain ⟨g0, g3, g11, g1, g2, g4, g5, g6, g7, g8, g9, g10, g12, g13, g14, g15, g16⟩ := a2
      obtain ⟨k0, k2, k1, k3, k4, k5, k6, k7⟩ := b2
      obtain ⟨l0, l5, l1, l2, l3, l4, l6, l7, l8, l9, l10⟩ := d2
      refine ⟨0, J4, M, L, L, Q, Q, ?_, ?_, ?_, ?_⟩
      · show F_L_restore E (rr w 136) (nI i) (Hw E w I L Q) = _
        unfold F_L_restore F_X11_restore
        simp only [Option.bind_some, Option.map_some, Option.join, cI_r, cL_r, cV_r, xI_r, xL_r, xV_r, xI_t, xL_t, xV_t, lt_r, rtZ_0, rtZ_1, rtZ_zb, o136, f_needImage, nd_t p1, gf136_9, gf136_10, gf136_11, gf136_0, gf136_1, gf136_2, gf136_3, ga125, ga126, ga127, ix_n hi (show 3 < 2 ^ 31 by decide), o1, o2, o3, id_eq, reduceCtorEq, if_false, o0, o15, o22, o32, a3, b3, d3, f_forget, eJ]
      · show F_X12_restore E (rr w 163) (nI i) (Hw E w J4 L Q) = _
        unfold F_X12_restore J_X12_restore_31
        have o4' : J4 139 i = 1 := by rw [r4 139 (by decide), oi 139 (by decide)]; exact o4
        simp only [Option.bind_some, Option.map_some, Option.join, cI_r, cL_r, cV_r, xI_r, xL_r, xV_r, xI_t, xL_t, xV_t, lt_r, rtZ_0, rtZ_1, rtZ_zb, f_wi 2 (by decide) (show (nI 2).toInt64 = 2 by rfl), zn_t p1b, gf163_2, ga139, ix_n hi (show 3 < 2 ^ 31 by decide), o4', if_pos (show ¬ (1 : Int32) = 0 by decide), pf163_3, gf163_3, up2_s, show (0 : Int32) ≤ 0 by decide, if_true, pf163_4, m3']
      · refine ⟨c', WfT_X hT w1, LandR_X hT w1 w2 ?_ ?_ ?_ ?_ ?_ ?_ ?_ ?_ ?_ ?_ ?_ ?_ ?_ ?_ ?_ ?_ ?_, FolkR_X hT w1 w3 ?_ ?_ ?_ ?_ ?_ ?_ ?_ ?_, BookR_X hT w1 w4 ?_ ?_ ?_ ?_ ?_ ?_ ?_ ?_ ?_ ?_ ?_, MapR_f (by rw [rM 32 (by decide) (by decide)]; exact f1) (by rw [rM 32 (by decide) (by decide)]; exact f2) (by rw [rM 32 (by decide) (by decide)]; exact f3), Or.inl (by rw [m1' 163 (by decide), up2_s]), StepsR_c (rI 48 (by decide) (by decide) (by decide)) (rI 49 (by decide) (by decide) (by decide)) (rI 51 (by decide) (by decide) (by decide)) rfl rfl q7, q8, q9, q10, ReadR_c (fun f _ _ => by rw [rI 121 (by decide) (by decide) (by decide)]) (rI 122 (by decide) (by decide) (by decide)) (rI 144 (by decide) (by decide) (by decide)) (r163 10 (by decide) (by decide)) (r163 18 (by decide) (by decide)) (r163 19 (by decide) (by decide)) q11, fun t ht => TrayR_c (rI _ (by omega) (by omega) (by omega)) (rI 160 (by decide) (by decide) (by decide)) (rI 161 (by decide) (by decide) (by decide)) rfl rfl (q12 t ht), fun t ht => ImgR_c (rI 138 (by decide) (by decide) (by decide)) (rI 139 (by decide) (by decide) (by decide)) (fun j hj => rI _ (by omega) (by omega) (by omega)) (q13 t ht)⟩
        · rw [rL 0 (by decide)]; exact g0
        · rw [rL 0 (by decide)]; exact g3
        · rw [rL 0 (by decide)]; exact g11
        · intro x hx; rw [rL 1 (by decide)]; exact g1 x hx
        · intro x hx; rw [rL 2 (by decide)]; exact g2 x hx
        · intro x hx; rw [rL 3 (by decide)]; exact g4 x hx
        · intro x hx; rw [rL 4 (by decide)]; exact g5 x hx
        · intro x hx; rw [rL 5 (by decide)]; exact g6 x hx
        · intro x hx; rw [rL 6 (by decide)]; exact g7 x hx
        · intro x hx; rw [rL 7 (by decide)]; exact g8 x hx
        · intro x hx; rw [rL 8 (by decide)]; exact g9 x hx
        · intro x hx; rw [rL 9 (by decide)]; exact g10 x hx
        · intro x hx; rw [rL 10 (by decide)]; exact g12 x hx
        · intro x hx; rw [rL 11 (by decide)]; exact g13 x hx
        · intro x hx; rw [rL 12 (by decide)]; exact g14 x hx
        · intro x hx; rw [rL 13 (by decide)]; exact g15 x hx
        · intro x hx; rw [rL 14 (by decide)]; exact g16 x hx
        · show M 15 0 = I (180 + 32 * i) 0
          rw [rF 15 (by decide) (by decide), k0, sF _ (by omega)]
        · show M 15 2 = I (180 + 32 * i) 2
          rw [rF 15 (by decide) (by decide), k2, sF _ (by omega)]
        · intro x hx; show M 16 x = I (180 + 32 * i + 1) x; rw [rF 16 (by decide) (by decide), k1 x hx, sF _ (by omega)]
        · intro x hx; show M 17 x = I (180 + 32 * i + 2) x; rw [rF 17 (by decide) (by decide), k3 x hx, sF _ (by omega)]
        · intro x hx; show M 18 x = I (180 + 32 * i + 3) x; rw [rF 18 (by decide) (by decide), k4 x hx, sF _ (by omega)]
        · intro x hx; show M 19 x = I (180 + 32 * i + 4) x; rw [rF 19 (by decide) (by decide), k5 x hx, sF _ (by omega)]
        · intro x hx; show M 20 x = I (180 + 32 * i + 5) x; rw [rF 20 (by decide) (by decide), k6 x hx, sF _ (by omega)]
        · intro x hx; show M 21 x = I (180 + 32 * i + 6) x; rw [rF 21 (by decide) (by decide), k7 x hx, sF _ (by omega)]
        · show M 22 0 = I (187 + 32 * i) 0
          rw [rB 22 (by decide) (by decide), l0, sB _ (by omega)]
        · show M 22 5 = I (187 + 32 * i) 5
          rw [rB 22 (by decide) (by decide), l5, sB _ (by omega)]
        · intro x hx; show M 23 x = I (187 + 32 * i + 1) x; rw [rB 23 (by decide) (by decide), l1 x hx, sB _ (by omega)]
        · intro x hx; show M 24 x = I (187 + 32 * i + 2) x; rw [rB 24 (by decide) (by decide), l2 x hx, sB _ (by omega)]
        · intro x hx; show M 25 x = I (187 + 32 * i + 3) x; rw [rB 25 (by decide) (by decide), l3 x hx, sB _ (by omega)]
        · intro x hx; show M 26 x = I (187 + 32 * i + 4) x; rw [rB 26 (by decide) (by decide), l4 x hx, sB _ (by omega)]
        · intro x hx; show M 27 x = I (187 + 32 * i + 5) x; rw [rB 27 (by decide) (by decide), l6 x hx, sB _ (by omega)]
        · intro x hx; show M 28 x = I (187 + 32 * i + 6) x; rw [rB 28 (by decide) (by decide), l7 x hx, sB _ (by omega)]
        · intro x hx; show M 29 x = I (187 + 32 * i + 7) x; rw [rB 29 (by decide) (by decide), l8 x hx, sB _ (by omega)]
        · intro x hx; show M 30 x = I (187 + 32 * i + 8) x; rw [rB 30 (by decide) (by decide), l9 x hx, sB _ (by omega)]
        · intro x hx; show M 31 x = I (187 + 32 * i + 9) x; rw [rB 31 (by decide) (by decide), l10 x hx, sB _ (by omega)]
      · rw [m1' 163 (by decide), up2_i _ _ _ (by decide), up2_s]
  · have p1b : ¬ bd x1 0 2 := fun z => p1 (bd_bl.mp z)
    refine ⟨1, I, up2 I 163 3 1, L, L, Q, Q, ?_, ?_, Inv_t q0, up2_s _ _ _ _⟩
    · show F_L_restore E (rr w 136) x1 (Hw E w I L Q) = _
      unfold F_L_restore F_X11_restore
      simp only [Option.bind_some, Option.map_some, Option.join, cI_r, cL_r, cV_r, xI_r, xL_r, xV_r, xI_t, xL_t, xV_t, lt_r, rtZ_0, rtZ_1, rtZ_zb, o136, f_needImage, nd_f p1, String.reduceEq, if_false, if_true]
    · show F_X12_restore E (rr w 163) x1 (Hw E w I L Q) = _
      unfold F_X12_restore J_X12_restore_31
      simp only [Option.bind_some, Option.map_some, Option.join, cI_r, cL_r, cV_r, xI_r, xL_r, xV_r, xI_t, xL_t, xV_t, lt_r, rtZ_0, rtZ_1, rtZ_zb, f_wi 2 (by decide) (show (nI 2).toInt64 = 2 by rfl), zn_f p1b, pf163_3, gf163_3, up2_s, show ¬ (1 : Int32) ≤ 0 by decide, if_false]
end
