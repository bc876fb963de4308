/-! stretches of rows; Arrays.fill; tongue; tray -/
def rs {α : Type} (f : Nat → Nat → α) (k lo m : Nat) (g : Nat → α) : Nat → Nat → α := fun k' i => if k' = k ∧ lo ≤ i ∧ i < lo + m then g (i - lo) else f k' i
theorem rs_0 {α : Type} (f : Nat → Nat → α) (k lo : Nat) (g : Nat → α) : rs f k lo 0 g = f := by
  funext k' i; unfold rs; rw [if_neg (by omega)]
theorem rs_s {α : Type} (f : Nat → Nat → α) (k lo m : Nat) (g : Nat → α) : up2 (rs f k lo m g) k (lo + m) (g m) = rs f k lo (m + 1) g := by
  funext k' i
  unfold up2 rs
  by_cases c : k' = k ∧ i = lo + m
  · rw [if_pos c, if_pos (by omega), show i - lo = m by omega]
  · rw [if_neg c]
    by_cases c2 : k' = k ∧ lo ≤ i ∧ i < lo + m
    · rw [if_pos c2, if_pos (by omega)]
    · rw [if_neg c2, if_neg (by omega)]
theorem rs_row {α : Type} (f : Nat → Nat → α) {k lo m k' : Nat} (g : Nat → α) (h : k' ≠ k) : rs f k lo m g k' = f k' := by
  funext i; unfold rs; rw [if_neg (by omega)]
theorem rs_in {α : Type} (f : Nat → Nat → α) {k lo m i : Nat} (g : Nat → α) (h1 : lo ≤ i) (h2 : i < lo + m) : rs f k lo m g k i = g (i - lo) := by unfold rs; rw [if_pos ⟨rfl, h1, h2⟩]
theorem rs_out {α : Type} (f : Nat → Nat → α) {k lo m i : Nat} (g : Nat → α) (h : ¬ (lo ≤ i ∧ i < lo + m)) : rs f k lo m g k i = f k i := by unfold rs; rw [if_neg (by omega)]
section
variable {E : Ev} {w : Wo} {I : Nat → Nat → Int32} {L : Nat → Nat → Int64} {Q : Nat → Nat → Option Nat} {c : Nat → Nat} {x y : Int32}
theorem f_fillL {k n : Nat} {v : Int64} (hG : 100000 ≤ E.2.2.1) (hk : lvk w k) (hs : sh k = .inl (1, n)) (hn : n < 100000) : F_J7_fill_d0a16 E (rr w k) v (Hw E w I L Q) = rtV (Hw E w I (rs L k 0 n (fun _ => v)) Q) := by
  unfold F_J7_fill_d0a16
  rw [aln_w hk hs]
  show L_J7_fill_d0a16_6 E (rr w k) v (nI n) E.2.2.1 0 (Hw E w I L Q) = _
  refine lpI (σ := Nat → Nat → Int64) (Lp := fun g i s => L_J7_fill_d0a16_6 E (rr w k) v (nI n) g (nI i) (Hw E w I s Q)) (Inv := fun i s => s = rs L k 0 i (fun _ => v)) (N := n) ?_ ?_ E.2.2.1 0 L (by omega) (by omega) (rs_0 L k 0 _).symm
  · intro g i s hi es
    subst es
    refine ⟨rs L k 0 (i + 1) (fun _ => v), rfl, ?_⟩
    show L_J7_fill_d0a16_6 E (rr w k) v (nI n) (g + 1) (nI i) (Hw E w I (rs L k 0 i fun _ => v) Q) = _
    rw [L_J7_fill_d0a16_6, if_neg (nI_ge hi (by omega)), paL_w hk hs, ix_n hi (by omega)]
    have := rs_s L k 0 i (fun _ => v)
    rw [Nat.zero_add] at this
    simp only [Option.bind_some, Option.map_some, Option.join, cI_r, cL_r, cV_r, xI_r, xL_r, xV_r, xI_t, xL_t, xV_t, lt_r, rtZ_0, rtZ_1, rtZ_zb, nI_1, this]
  · intro g s es
    subst es
    show L_J7_fill_d0a16_6 E (rr w k) v (nI n) (g + 1) (nI n) _ = _
    rw [L_J7_fill_d0a16_6, if_pos (nI_le (Nat.le_refl n) (by omega))]
/-- a call of the law without an answer -/
def OpV (E : Ev) (w : Wo) (fc fm : Hp → Rs) (I : Nat → Nat → Int32) (L : Nat → Nat → Int64) (Q : Nat → Nat → Option Nat) : Prop := ∃ (k : Int32) (I1 I2 : Nat → Nat → Int32) (L1 L2 : Nat → Nat → Int64) (Q1 Q2 : Nat → Nat → Option Nat), fc (Hw E w I L Q) = rtI k (Hw E w I1 L1 Q1) ∧ fm (Hw E w I1 L1 Q1) = rtV (Hw E w I2 L2 Q2) ∧ Inv w I2 L2 Q2 ∧ I2 163 3 = k
theorem Inv_tr {I' : Nat → Nat → Int32} {L' : Nat → Nat → Int64} (q : Inv w I L Q) (hI : ∀ k, ¬ (128 ≤ k ∧ k < 136) → k ≠ 160 → k ≠ 161 → k ≠ 163 → I' k = I k) (h3 : ∀ i, i ≠ 3 → I' 163 i = I 163 i) (hL : ∀ k, ¬ (128 ≤ k ∧ k < 136) → k ≠ 162 → k ≠ 164 → L' k = L k) (hT : ∀ t, t < 4 → TrayR I' L' t) : Inv w I' L' Q := by
  obtain ⟨c, q1, q2, q3, q4, q5, q6, q7, q8, q9, q10, q11, -, q13⟩ := q
  have e := hI 137 (by omega) (by decide) (by decide) (by decide)
  refine ⟨c, by rw [e]; exact q1, by rw [e]; exact LandR_c (fun j hj => hI j (by omega) (by omega) (by omega) (by omega)) q2, by rw [e]; exact FolkR_c (fun j hj => hI (15 + j) (by omega) (by omega) (by omega) (by omega)) q3, by rw [e]; exact BookR_c (fun j hj => hI (22 + j) (by omega) (by omega) (by omega) (by omega)) q4, by rw [e]; exact MapR_c (hI 32 (by omega) (by decide) (by decide) (by decide)) (hI 38 (by omega) (by decide) (by decide) (by decide)) (fun k h1 h2 => hL k (by omega) (by omega) (by omega)) q5, by rw [e]; exact RefR_c (h3 4 (by decide)) (hI 142 (by omega) (by decide) (by decide) (by decide)) (hL 140 (by omega) (by decide) (by decide)) (hL 141 (by omega) (by decide) (by decide)) q6, StepsR_c (hI 48 (by omega) (by decide) (by decide) (by decide)) (hI 49 (by omega) (by decide) (by decide) (by decide)) (hI 51 (by omega) (by decide) (by decide) (by decide)) (hL 50 (by omega) (by decide) (by decide)) (hL 52 (by omega) (by decide) (by decide)) q7, q8, q9, q10, ReadR_c (fun f _ _ => by rw [hI 121 (by omega) (by decide) (by decide) (by decide)]) (hI 122 (by omega) (by decide) (by decide) (by decide)) (hI 144 (by omega) (by decide) (by decide) (by decide)) (h3 10 (by decide)) (h3 18 (by decide)) (h3 19 (by decide)) q11, hT, fun i hi => ImgR_c (hI 138 (by omega) (by decide) (by decide) (by decide)) (hI 139 (by omega) (by decide) (by decide) (by decide)) (fun j hj => hI _ (by omega) (by omega) (by omega) (by omega)) (q13 i hi)⟩
theorem sh_tray {t : Nat} (ht : t < 4) : sh (128 + 2 * t) = .inr (8, [0, 0, 0, 128 + 2 * t + 1 + 3]) ∧ sh (129 + 2 * t) = .inl (1, 12) := by
  have : t = 0 ∨ t = 1 ∨ t = 2 ∨ t = 3 := by omega
  rcases this with rfl | rfl | rfl | rfl <;> exact ⟨rfl, rfl⟩
theorem f_lay {t : Nat} {a b : Int32} (hG : 100000 ≤ E.2.2.1) (ht : t < 4) : F_X8_lay E (rr w (128 + 2 * t)) a b (Hw E w I L Q) = rtV (Hw E w (up2 (up2 (up2 I (128 + 2 * t) 0 0) (128 + 2 * t) 1 a) (128 + 2 * t) 2 b) (rs L (129 + 2 * t) 0 12 (fun _ => 0)) Q) := by
  have hs := sh_tray ht
  have hk : lvk w (128 + 2 * t) := lv_of (by omega)
  have hk2 : lvk w (129 + 2 * t) := lv_of (by omega)
  have g3 : ∀ I' : Nat → Nat → Int32, gfR (Hw E w I' L Q) (rr w (128 + 2 * t)) 8 3 = some (rr w (129 + 2 * t)) := fun I' => by
    rw [show 129 + 2 * t = 128 + 2 * t + 1 by omega]; exact gfC_w hk hs.1 rfl
  unfold F_X8_lay
  rw [pfZ_w hk hs.1 rfl, if_pos (Or.inl rfl)]
  simp only [Option.bind_some, Option.map_some, Option.join, cI_r, cL_r, cV_r, xI_r, xL_r, xV_r, xI_t, xL_t, xV_t, lt_r, rtZ_0, rtZ_1, rtZ_zb, pfI_w hk hs.1 (show [0, 0, 0, 128 + 2 * t + 1 + 3][1]? = some 0 from rfl), pfI_w hk hs.1 (show [0, 0, 0, 128 + 2 * t + 1 + 3][2]? = some 0 from rfl), g3, f_fillL hG hk2 hs.2 (show 12 < 100000 by decide)]
theorem m_trayL {t : Nat} (hG : 100000 ≤ E.2.2.1) (ht : t < 4) : L_X12_tray_69 E (rr w 163) (nI t) E.2.2.1 0 (Hw E w I L Q) = rtV (Hw E w I (rs L 162 (12 * t) 12 (fun _ => 0)) Q) := by
  refine lpI (σ := Nat → Nat → Int64) (Lp := fun g i s => L_X12_tray_69 E (rr w 163) (nI t) g (nI i) (Hw E w I s Q)) (Inv := fun i s => s = rs L 162 (12 * t) i (fun _ => 0)) (N := 12) ?_ ?_ E.2.2.1 0 L (by omega) (by omega) (rs_0 L 162 _ _).symm
  · intro g i s hi es
    subst es
    refine ⟨rs L 162 (12 * t) (i + 1) (fun _ => 0), rfl, ?_⟩
    show L_X12_tray_69 E (rr w 163) (nI t) (g + 1) (nI i) (Hw E w I (rs L 162 (12 * t) i fun _ => 0) Q) = _
    have e : ix ((12 : Int32) * nI t + nI i) 48 = some (12 * t + i) := by rw [n12, pk_mul, nI_add]; exact ix_n (by omega) (by decide)
    rw [L_X12_tray_69, n12, if_neg (nI_ge hi (by decide)), ← n12]
    simp only [Option.bind_some, Option.map_some, Option.join, cI_r, cL_r, cV_r, xI_r, xL_r, xV_r, xI_t, xL_t, xV_t, lt_r, rtZ_0, rtZ_1, rtZ_zb, gf163_39, pa162, e, nI_1, rs_s L 162 (12 * t) i (fun _ => 0)]
  · intro g s es
    subst es
    show L_X12_tray_69 E (rr w 163) (nI t) (g + 1) (nI 12) _ = _
    rw [L_X12_tray_69, n12, if_pos (nI_le (Nat.le_refl 12) (by decide))]
theorem op_tray (hG : 100000 ≤ E.2.2.1) (q : Inv w I L Q) (x1 x2 x3 : Int32) : OpV E w (fun h => F_L_tray E (rr w 136) x1 x2 x3 h) (fun h => F_X12_tray E (rr w 163) x1 x2 x3 h) I L Q := by
  have q0 := q
  obtain ⟨c, q1, q2, q3, q4, q5, q6, q7, q8, q9, q10, q11, q12, q13⟩ := q
  by_cases p1 : bl x1 4
  · by_cases p2 : bl x2 4 ∧ bd x3 0 12
    · have p1' := p1
      obtain ⟨t, rfl, ht⟩ := p1'
      have z2 := (bl_iff (by decide)).mp p2.1
      have z2' : ¬ (4 : Int32) ≤ x2 := Int32.not_le.mpr z2.2
      have z3 := (bd_iff (by decide)).mp p2.2
      have z3' : x3 ≤ 12 := Int32.not_lt.mp z3.2
      have qt : Q 124 t = some (128 + 2 * t) := q10.2 t ht
      refine ⟨0, up2 (up2 (up2 I (128 + 2 * t) 0 0) (128 + 2 * t) 1 x2) (128 + 2 * t) 2 x3, up2 (up2 (up2 (up2 (up2 (up2 I (128 + 2 * t) 0 0) (128 + 2 * t) 1 x2) (128 + 2 * t) 2 x3) 163 3 0) 160 t x2) 161 t x3, rs L (129 + 2 * t) 0 12 (fun _ => 0), rs (rs L (129 + 2 * t) 0 12 (fun _ => 0)) 162 (12 * t) 12 (fun _ => 0), Q, Q, ?_, ?_, ?_, ?_⟩
      · show F_L_tray E (rr w 136) (nI t) x2 x3 (Hw E w I L Q) = _
        unfold F_L_tray F_X11_tray
        simp only [Option.bind_some, Option.map_some, Option.join, cI_r, cL_r, cV_r, xI_r, xL_r, xV_r, xI_t, xL_t, xV_t, lt_r, rtZ_0, rtZ_1, rtZ_zb, o136, f_needTray, nd_t p1, if_neg z2.1, if_neg z2', if_neg z3.1, if_pos z3', gf136_8, ga124, ix_n ht (show 4 < 2 ^ 31 by decide), qt, id_eq, isO_w (w := w) (lv_of (show 128 + 2 * t < 165 by omega)) (sh_tray ht).1, f_lay hG ht]
      · show F_X12_tray E (rr w 163) (nI t) x2 x3 _ = _
        unfold F_X12_tray J_X12_tray_41
        have p2' : bd x2 0 3 := bd_bl.mpr p2.1
        generalize ea : up2 (up2 (up2 I (128 + 2 * t) 0 0) (128 + 2 * t) 1 x2) (128 + 2 * t) 2 x3 = J
        simp only [Option.bind_some, Option.map_some, Option.join, cI_r, cL_r, cV_r, xI_r, xL_r, xV_r, xI_t, xL_t, xV_t, lt_r, rtZ_0, rtZ_1, rtZ_zb, f_isTray, zn_t p1, f_wi 3 (by decide) (show (nI 3).toInt64 = 3 by rfl), zi_t p2', f_wi 12 (by decide) (show (nI 12).toInt64 = 12 by rfl), zn_t p2.2, pf163_3, gf163_3, up2_s, show (0 : Int32) ≤ 0 by decide, if_true, gf163_37, gf163_38, pa160, pa161, ix_n ht (show 4 < 2 ^ 31 by decide), m_trayL hG ht]
      · refine Inv_tr q0 ?_ ?_ ?_ ?_
        · intro k h1 h2 h3 h4
          rw [up2_row _ _ h3, up2_row _ _ h2, up2_row _ _ h4, up2_row _ _ (by omega), up2_row _ _ (by omega), up2_row _ _ (by omega)]
        · intro i hi
          rw [up2_k _ _ _ (by decide), up2_k _ _ _ (by decide), up2_i _ _ _ hi, up2_k _ _ _ (by omega), up2_k _ _ _ (by omega), up2_k _ _ _ (by omega)]
        · intro k h1 h2 h3
          rw [rs_row _ _ h2, rs_row _ _ (by omega)]
        · intro j hj
          by_cases e : j = t
          · subst e
            refine Or.inr ⟨?_, ?_, ?_, ?_, ?_, fun k hk => ?_⟩
            · simp only [up2_lit, show ¬ 128 + 2 * j = 161 by omega, show ¬ 128 + 2 * j = 160 by omega, show ¬ 128 + 2 * j = 163 by omega, false_and, true_and, if_false, Nat.reduceEqDiff, if_true]
            · simp only [up2_lit, Nat.reduceEqDiff, false_and, if_false, and_self, if_true]; exact p2.1
            · simp only [up2_lit, show ¬ 128 + 2 * j = 161 by omega, show ¬ 128 + 2 * j = 160 by omega, show ¬ 128 + 2 * j = 163 by omega, false_and, true_and, if_false, Nat.reduceEqDiff, and_self, if_true]
            · simp only [up2_lit, and_self, if_true]; exact p2.2
            · simp only [up2_lit, show ¬ 128 + 2 * j = 161 by omega, show ¬ 128 + 2 * j = 160 by omega, show ¬ 128 + 2 * j = 163 by omega, false_and, if_false, and_self, if_true]
            · rw [rs_row _ _ (by omega), rs_in _ _ (by omega) (by omega), rs_in _ _ (by omega) (by omega)]
          · have o := q12 j hj
            unfold TrayR at *
            have ek : ∀ f, (up2 (up2 (up2 (up2 (up2 (up2 I (128 + 2 * t) 0 0) (128 + 2 * t) 1 x2) (128 + 2 * t) 2 x3) 163 3 0) 160 t x2) 161 t x3) (128 + 2 * j) f = I (128 + 2 * j) f := fun f => by
              rw [up2_k _ _ _ (by omega), up2_k _ _ _ (by omega), up2_k _ _ _ (by omega), up2_k _ _ _ (by omega), up2_k _ _ _ (by omega), up2_k _ _ _ (by omega)]
            have e0 : (up2 (up2 (up2 (up2 (up2 (up2 I (128 + 2 * t) 0 0) (128 + 2 * t) 1 x2) (128 + 2 * t) 2 x3) 163 3 0) 160 t x2) 161 t x3) 160 j = I 160 j := by
              rw [up2_k _ _ _ (by decide), up2_i _ _ _ e, up2_k _ _ _ (by decide), up2_k _ _ _ (by omega), up2_k _ _ _ (by omega), up2_k _ _ _ (by omega)]
            have e1 : (up2 (up2 (up2 (up2 (up2 (up2 I (128 + 2 * t) 0 0) (128 + 2 * t) 1 x2) (128 + 2 * t) 2 x3) 163 3 0) 160 t x2) 161 t x3) 161 j = I 161 j := by
              rw [up2_i _ _ _ e, up2_k _ _ _ (by decide), up2_k _ _ _ (by decide), up2_k _ _ _ (by omega), up2_k _ _ _ (by omega), up2_k _ _ _ (by omega)]
            rw [ek, ek, ek, e0, e1]
            rcases o with o | ⟨o1, o2, o3, o4, o5, o6⟩
            · exact Or.inl o
            · refine Or.inr ⟨o1, o2, o3, o4, o5, fun k hk => ?_⟩
              rw [rs_row _ _ (by omega), rs_row _ _ (by omega), rs_out _ _ (by omega), rs_row _ _ (by omega)]
              exact o6 k hk
      · simp only [up2_lit, Nat.reduceEqDiff, false_and, if_false, and_self, if_true]
    · refine ⟨2, I, up2 I 163 3 2, L, L, Q, Q, ?_, ?_, Inv_t q0, up2_s _ _ _ _⟩
      · show F_L_tray E (rr w 136) x1 x2 x3 (Hw E w I L Q) = _
        unfold F_L_tray F_X11_tray
        simp only [Option.bind_some, Option.map_some, Option.join, cI_r, cL_r, cV_r, xI_r, xL_r, xV_r, xI_t, xL_t, xV_t, lt_r, rtZ_0, rtZ_1, rtZ_zb, o136, f_needTray, nd_t p1]
        by_cases c1 : x2 < 0
        · simp only [Option.bind_some, Option.map_some, Option.join, cI_r, cL_r, cV_r, xI_r, xL_r, xV_r, xI_t, xL_t, xV_t, lt_r, rtZ_0, rtZ_1, rtZ_zb, if_pos c1, if_true]
        · by_cases c2 : (4 : Int32) ≤ x2
          · simp only [Option.bind_some, Option.map_some, Option.join, cI_r, cL_r, cV_r, xI_r, xL_r, xV_r, xI_t, xL_t, xV_t, lt_r, rtZ_0, rtZ_1, rtZ_zb, if_neg c1, if_pos c2, if_true]
          · by_cases c3 : x3 < 0
            · simp only [Option.bind_some, Option.map_some, Option.join, cI_r, cL_r, cV_r, xI_r, xL_r, xV_r, xI_t, xL_t, xV_t, lt_r, rtZ_0, rtZ_1, rtZ_zb, if_neg c1, if_neg c2, if_pos c3, if_true]
            · have c4 : ¬ x3 ≤ 12 := fun e => p2 ⟨(bl_iff (by decide)).mpr ⟨c1, Int32.not_le.mp c2⟩, (bd_iff (by decide)).mpr ⟨c3, Int32.not_lt.mpr e⟩⟩
              simp only [Option.bind_some, Option.map_some, Option.join, cI_r, cL_r, cV_r, xI_r, xL_r, xV_r, xI_t, xL_t, xV_t, lt_r, rtZ_0, rtZ_1, rtZ_zb, if_neg c1, if_neg c2, if_neg c3, if_neg c4, if_true]
      · show F_X12_tray E (rr w 163) x1 x2 x3 _ = _
        unfold F_X12_tray J_X12_tray_41
        by_cases p3 : bd x2 0 3
        · have p4 : ¬ bd x3 0 12 := fun e => p2 ⟨bd_bl.mp p3, e⟩
          simp only [Option.bind_some, Option.map_some, Option.join, cI_r, cL_r, cV_r, xI_r, xL_r, xV_r, xI_t, xL_t, xV_t, lt_r, rtZ_0, rtZ_1, rtZ_zb, f_isTray, zn_t p1, f_wi 3 (by decide) (show (nI 3).toInt64 = 3 by rfl), zi_t p3, f_wi 12 (by decide) (show (nI 12).toInt64 = 12 by rfl), zn_f p4, pf163_3, gf163_3, up2_s, show ¬ (2 : Int32) ≤ 0 by decide, if_false]
        · simp only [Option.bind_some, Option.map_some, Option.join, cI_r, cL_r, cV_r, xI_r, xL_r, xV_r, xI_t, xL_t, xV_t, lt_r, rtZ_0, rtZ_1, rtZ_zb, f_isTray, zn_t p1, f_wi 3 (by decide) (show (nI 3).toInt64 = 3 by rfl), zi_f p3, pf163_3, gf163_3, up2_s, show ¬ (2 : Int32) ≤ 0 by decide, if_false]
  · refine ⟨1, I, up2 I 163 3 1, L, L, Q, Q, ?_, ?_, Inv_t q0, up2_s _ _ _ _⟩
    · show F_L_tray E (rr w 136) x1 x2 x3 (Hw E w I L Q) = _
      unfold F_L_tray F_X11_tray
      simp only [Option.bind_some, Option.map_some, Option.join, cI_r, cL_r, cV_r, xI_r, xL_r, xV_r, xI_t, xL_t, xV_t, lt_r, rtZ_0, rtZ_1, rtZ_zb, o136, f_needTray, nd_f p1, String.reduceEq, if_false, if_true]
    · show F_X12_tray E (rr w 163) x1 x2 x3 _ = _
      unfold F_X12_tray J_X12_tray_41
      simp only [Option.bind_some, Option.map_some, Option.join, cI_r, cL_r, cV_r, xI_r, xL_r, xV_r, xI_t, xL_t, xV_t, lt_r, rtZ_0, rtZ_1, rtZ_zb, f_isTray, zn_f p1, pf163_3, gf163_3, up2_s, show ¬ (1 : Int32) ≤ 0 by decide, if_false]
end
