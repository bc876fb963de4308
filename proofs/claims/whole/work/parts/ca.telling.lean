/-! telling: the call -/
def SayAll (I : Nat → Nat → Int32) (R : Nat → Int32) (x : Nat) : Prop := (∀ y, y < x → ∃ m, (1 ≤ m ∧ m ≤ 4) ∧ SayW I R y m ∧ ∀ i, m ≤ i → i < 4 → R (4 * y + i) = 0) ∧ ∀ j, 4 * x ≤ j → j < 40 → R j = 0
section
variable {E : Ev} {w : Wo} {I I1 I2 : Nat → Nat → Int32} {L L1 : Nat → Nat → Int64} {Q : Nat → Nat → Option Nat} {B : Nat → Nat} {n : Nat} {c : Nat → Nat}
theorem SayAll_add {x m : Nat} {R R' : Nat → Int32} (hx : x < 10) (h : SayAll I R x) (hm : 1 ≤ m ∧ m ≤ 4) (hw : SayW I1 R' x m) (hf : SayF I I1 R R' x m) : SayAll I1 R' (x + 1) := by
  refine ⟨fun y hy => ?_, fun j h1 h2 => by rw [hf.2.2 j h2 (by omega)]; exact h.2 j (by omega) h2⟩
  by_cases c : y = x
  · subst c
    exact ⟨m, hm, hw, fun i h1 h2 => by rw [hf.2.2 _ (by omega) (by omega)]; exact h.2 _ (by omega) (by omega)⟩
  · obtain ⟨m', a1, ⟨a2, a3⟩, a4⟩ := h.1 y (by omega)
    refine ⟨m', a1, ⟨by rw [hf.2.1 _ (by omega) (by omega)]; exact a2, fun i hi => ?_⟩, fun i h1 h2 => by rw [hf.2.2 _ (by omega) (by omega)]; exact a4 i h1 h2⟩
    rw [hf.2.1 _ (by omega) (by omega), hf.2.1 _ (by omega) (by omega), hf.2.1 _ (by omega) (by omega), hf.2.2 _ (by omega) (by omega)]
    exact a3 i hi
theorem m_tell91 (hG : 100000 ≤ E.2.2.1) (hn : n ≤ 200) : ∀ d x p am R (I1 : Nat → Nat → Int32) g, 11 - x = d → x ≤ 10 → d < g → TR B n I1 p → MfT I I1 → SayAll I1 R x → (∃ I' f pos, (f ≠ 0 ∧ f ≤ 4) ∧ rn B n p (0, 0, am, x, 0, R) = (f, pos, 0, fun _ => 0) ∧ FL I I' f pos ∧ ∃ xx, ∀ K, L_X12_telling_91 E K (rr w 163) g (nI x) (Hw E w I1 L Q) = K xx (Hw E w I' L Q)) ∨ (∃ I' X R', X ≤ 10 ∧ rn B n p (0, 0, am, x, 0, R) = (0, 0, X, R') ∧ MfT I I' ∧ I' 163 16 = 0 ∧ SayAll I' R' X ∧ ∀ K, L_X12_telling_91 E K (rr w 163) g (nI x) (Hw E w I1 L Q) = K (nI X) (Hw E w I' L Q)) := by
  intro d
  induction d with
  | zero => intro x p am R I1 g hd hx; omega
  | succ d ih =>
    intro x p am R I1 g hd hx hg h hf hs
    obtain ⟨g, rfl⟩ : ∃ m, g = m + 1 := ⟨g - 1, by omega⟩
    have le28 := tkn_le (B := B) (n := n) (p := p)
    have h14 := h.2.2.2.2.1
    have h16 := h.2.2.1
    by_cases c26 : tkn B n p = 26
    · right
      refine ⟨I1, x, R, hx, rn_end h.1 c26 rfl, hf, h16, hs, fun K => ?_⟩
      rw [L_X12_telling_91, gf163_16, h16, Option.bind_some, if_neg (not_not_intro rfl), gf163_14, h14, Option.bind_some, if_pos ((rkd_0 le28).mpr c26)]
    · have st : ∀ K, L_X12_telling_91 E K (rr w 163) (g + 1) (nI x) (Hw E w I1 L Q) = cV (F_X12_readSaying E (rr w 163) (nI x) (Hw E w I1 L Q)) fun h108 => L_X12_telling_91 E K (rr w 163) g (nI (x + 1)) h108 := fun K => by
        rw [L_X12_telling_91, gf163_16, h16, Option.bind_some, if_neg (not_not_intro rfl), gf163_14, h14, Option.bind_some, if_neg (fun z => c26 ((rkd_0 le28).mp z)), o163, Option.bind_some, nI_1]
      rcases m_readSaying (E := E) (w := w) (I := I1) (L := L) (Q := Q) (am := am) (R := R) hG hn hx h c26 with ⟨I2, f, pos, z1, z2, z3, z4⟩ | ⟨I2, p', am', R', m, z0, z1, z2, z3, z4, z5⟩
      · left
        have n16 : ¬ I2 163 16 = 0 := by rw [z3.2.1]; exact fun z => z1.1 ((nI_eq (b := 0) (by omega) (by decide)).mp z)
        refine ⟨I2, f, pos, z1, z2, hf.fl z3, nI (x + 1), fun K => ?_⟩
        obtain ⟨g, rfl⟩ : ∃ m, g = m + 1 := ⟨g - 1, by omega⟩
        rw [st K, z4, cV_r, L_X12_telling_91, gf163_16, Option.bind_some, if_pos n16]
      · have y := SayAll_add z0.2.2 hs ⟨z0.1, z0.2.1⟩ z3 z4
        have xl := z0.2.2
        rcases ih (x + 1) p' am' R' I2 g (by omega) (by omega) (by omega) z2 (hf.tr z4.1) y with ⟨I3, f, pos, y1, y2, y3, xx, y4⟩ | ⟨I3, X, R3, y1, y2, y3, y4, y5, y6⟩
        · exact Or.inl ⟨I3, f, pos, y1, z1.trans y2, y3, xx, fun K => by rw [st K, z5, cV_r]; exact y4 K⟩
        · exact Or.inr ⟨I3, X, R3, y1, z1.trans y2, y3, y4, y5, fun K => by rw [st K, z5, cV_r]; exact y6 K⟩
theorem cp2_at {k k2 x y i : Nat} (h1 : x ≤ i) (h2 : i < x + y) : cp2 I k k2 0 x y k2 i = I k (i - x) := by
  unfold cp2 va_cpy
  rw [if_pos rfl, if_pos ⟨h1, h2⟩]
  congr 1; omega
theorem cp2_out {k k2 x y i : Nat} (h : ¬ (x ≤ i ∧ i < x + y)) : cp2 I k k2 0 x y k2 i = I k2 i := by
  unfold cp2 va_cpy
  rw [if_pos rfl, if_neg h]
theorem c_addTelling {z X : Nat} {x2 x3 : Int32} (ez : I 22 0 = nI z) (hz : z < 12) : ∃ I', (∀ k, k ≠ 22 → k ≠ 23 → k ≠ 24 → k ≠ 25 → k ≠ 26 → I' k = I k) ∧ (∀ f, f ≠ 0 → I' 22 f = I 22 f) ∧ I' 22 0 = nI (z + 1) ∧ (∀ x, x ≠ z → I' 23 x = I 23 x ∧ I' 24 x = I 24 x ∧ I' 25 x = I 25 x) ∧ I' 23 z = x2 ∧ I' 24 z = x3 ∧ I' 25 z = nI X ∧ (∀ x, ¬ (40 * z ≤ x ∧ x < 40 * z + 40) → I' 26 x = I 26 x) ∧ (∀ j, j < 40 → I' 26 (40 * z + j) = I 123 j) ∧ F_X0_addTelling E (rr w 22) (rr w 123) (nI X) x2 x3 (Hw E w I L Q) = rtI (nI z) (Hw E w I' L Q) := by
  have ac : acp E 0 (Hw E w I L Q) (rr w 123) 0 (rr w 26) (nI (40 * z)) 40 = some (Hw E w (cp2 I 123 26 0 (40 * z) 40) L Q) := acp_w (k := 123) (k2 := 26) (t := 0) (n := 40) (n2 := 480) (lv_of (by decide)) (lv_of (by decide)) rfl rfl (by decide) (by decide) ⟨by decide, by decide⟩ ⟨nI_pos (by omega), nI_clamp (by omega)⟩ ⟨by decide, by decide⟩ (by decide) (by omega) (Or.inl rfl)
  have o1 : ∀ k, k ≠ 26 → cp2 I 123 26 0 (40 * z) 40 k = I k := fun k hk => cp2_row hk
  have o2 : ∀ x, ¬ (40 * z ≤ x ∧ x < 40 * z + 40) → cp2 I 123 26 0 (40 * z) 40 26 x = I 26 x := fun x hx => cp2_out hx
  have o3 : ∀ j, j < 40 → cp2 I 123 26 0 (40 * z) 40 26 (40 * z + j) = I 123 j := fun j hj => by rw [cp2_at (by omega) (by omega)]; congr 1; omega
  generalize cp2 I 123 26 0 (40 * z) 40 = B at *
  have eB : B 22 0 = nI z := by rw [o1 22 (by decide)]; exact ez
  generalize eC : up2 (up2 (up2 (up2 B 23 z x2) 24 z x3) 25 z (nI X)) 22 0 (nI (z + 1)) = C
  have c1 : ∀ k, k ≠ 22 → k ≠ 23 → k ≠ 24 → k ≠ 25 → C k = B k := fun k h1 h2 h3 h4 => by rw [← eC, up2_row _ _ h1, up2_row _ _ h4, up2_row _ _ h3, up2_row _ _ h2]
  refine ⟨C, fun k h1 h2 h3 h4 h5 => by rw [c1 k h1 h2 h3 h4, o1 k h5], fun f hf => by rw [← eC, up2_i _ _ _ hf, up2_row _ _ (by decide), up2_row _ _ (by decide), up2_row _ _ (by decide), o1 22 (by decide)], by rw [← eC, up2_s], fun x hx => ⟨?_, ?_, ?_⟩, ?_, ?_, ?_, fun x hx => ?_, fun j hj => ?_, ?_⟩
  · rw [← eC, up2_row _ _ (by decide), up2_row _ _ (by decide), up2_row _ _ (by decide), up2_i _ _ _ hx, o1 23 (by decide)]
  · rw [← eC, up2_row _ _ (by decide), up2_row _ _ (by decide), up2_i _ _ _ hx, up2_row _ _ (by decide), o1 24 (by decide)]
  · rw [← eC, up2_row _ _ (by decide), up2_i _ _ _ hx, up2_row _ _ (by decide), up2_row _ _ (by decide), o1 25 (by decide)]
  · rw [← eC, up2_row _ _ (by decide), up2_row _ _ (by decide), up2_row _ _ (by decide), up2_s]
  · rw [← eC, up2_row _ _ (by decide), up2_row _ _ (by decide), up2_s]
  · rw [← eC, up2_row _ _ (by decide), up2_s]
  · rw [c1 26 (by decide) (by decide) (by decide) (by decide), o2 x hx]
  · rw [c1 26 (by decide) (by decide) (by decide) (by decide)]; exact o3 j hj
  · have e2 : ∀ v, (up2 B 23 z v) 22 0 = nI z := fun v => by rw [up2_row _ _ (by decide)]; exact eB
    have e3 : ∀ v v', (up2 (up2 B 23 z v) 24 z v') 22 0 = nI z := fun v v' => by rw [up2_row _ _ (by decide), up2_row _ _ (by decide)]; exact eB
    have e5 : ∀ v v' v'', (up2 (up2 (up2 B 23 z v) 24 z v') 25 z v'') 22 0 = nI z := fun v v' v'' => by rw [up2_row _ _ (by decide), up2_row _ _ (by decide), up2_row _ _ (by decide)]; exact eB
    unfold F_X0_addTelling
    rw [gf22_0, Option.bind_some, ez, m12, if_pos (nI_lt hz (by decide)), gf22_4, Option.bind_some, Option.bind_some, show nI z * (40 : Int32) = nI (40 * z) by rw [m40, pk_mul, Nat.mul_comm], ac, Option.bind_some]
    simp (disch := omega) only [Option.bind_some, Option.map_some, Option.join, cI_r, cL_r, cV_r, xI_r, xL_r, xV_r, xI_t, xL_t, xV_t, lt_r, rtZ_0, rtZ_1, rtZ_zb, gf22_0, gf22_1, gf22_2, gf22_3, eB, pa23, pa24, pa25, ix_n, e2, e3, e5, pf22_0, nI_1, eC]
theorem InvC_rd (q : InvC w I L Q c) (hk : ∀ k, k ≠ 121 → k ≠ 123 → k ≠ 145 → k ≠ 163 → I1 k = I k) (h4 : I1 163 4 = I 163 4) (hr : ReadR I1) (hL : ∀ k, k ≠ 164 → L1 k = L k) : InvC w I1 L1 Q c := by
  obtain ⟨q1, q2, q3, q4, q5, q6, q7, q8, q9, q10, q11, q12, q13⟩ := q
  have hT : I1 137 = I 137 := hk 137 (by decide) (by decide) (by decide) (by decide)
  unfold InvC
  rw [hT]
  exact ⟨q1, LandR_c (fun j hj => hk j (by omega) (by omega) (by omega) (by omega)) q2, FolkR_c (fun j hj => hk (15 + j) (by omega) (by omega) (by omega) (by omega)) q3, BookR_c (fun j hj => hk (22 + j) (by omega) (by omega) (by omega) (by omega)) q4, MapR_c (hk 32 (by decide) (by decide) (by decide) (by decide)) (hk 38 (by decide) (by decide) (by decide) (by decide)) (fun k g1 g2 => hL k (by omega)) q5, RefR_c h4 (hk 142 (by decide) (by decide) (by decide) (by decide)) (hL 140 (by decide)) (hL 141 (by decide)) q6, StepsR_k (fun k g1 g2 => hk k (by omega) (by omega) (by omega) (by omega)) (fun k g1 g2 => hL k (by omega)) q7, q8, q9, q10, hr, fun t ht => TrayR_c (hk _ (by omega) (by omega) (by omega) (by omega)) (hk 160 (by decide) (by decide) (by decide) (by decide)) (hk 161 (by decide) (by decide) (by decide) (by decide)) (hL _ (by omega)) (hL 162 (by decide)) (q12 t ht), fun i hi => ImgR_c (hk 138 (by decide) (by decide) (by decide) (by decide)) (hk 139 (by decide) (by decide) (by decide) (by decide)) (fun j hj => hk _ (by omega) (by omega) (by omega) (by omega)) (q13 i hi)⟩
theorem InvC.inv (q : InvC w I L Q c) : Inv w I L Q := ⟨c, q⟩
theorem op_telling (hG : 100000 ≤ E.2.2.1) (q : Inv w I L Q) (x1 x2 x3 : Int32) : OpI E w (fun h => F_L_telling E (rr w 136) x1 x2 x3 (rr w 164) h) (fun h => F_X12_telling E (rr w 163) x1 x2 x3 h) I L Q := by
  have q0 := q
  obtain ⟨c, qc⟩ := q
  have qc' : InvC w I L Q c := qc
  obtain ⟨q1, q2, q3, q4, q5, q6, q7, q8, q9, q10, q11, q12, q13⟩ := qc
  have k0 := q1.1 0 (by decide)
  have k5 := q1.1 5 (by decide)
  simp only [mx] at k0 k5
  have e0 : I 0 0 = nI (c 0) := q2.1.1.trans k0.1
  have e5 : I 22 0 = nI (c 5) := q4.1.1.trans k5.1
  have c0' : c 0 < 2 ^ 31 := by omega
  have d0' : c 0 < 2 ^ 30 := by omega
  have k0' : (up2 I 163 3 0) 137 0 = nI (c 0) := k0.1
  obtain ⟨⟨N, r1, r2, r3, r4⟩, r5, r6⟩ := q11
  have r2' : (up2 I 163 3 0) 163 10 = nI N := r2
  by_cases p2 : bl x2 (c 0)
  · by_cases p1 : bd x1 0 N
    · by_cases p3 : bl x3 10
      · have p3d : bd x3 0 9 := bd_bl.mpr p3
        have p1' := p1
        obtain ⟨n, rfl, -, hnN⟩ := p1'
        have hn : n ≤ 200 := by omega
        have z1 : ¬ nI n < 0 := nI_pos (by omega)
        have z2 : nI n ≤ nI N := nI_le hnN (by omega)
        by_cases p5 : c 5 = 12
        · generalize ev : (-1 : Int32) = v
          refine ⟨0, v, I, up2 I 163 3 0, up2 L 164 0 v.toInt64, up2 L 164 0 v.toInt64, Q, Q, ?_, ?_, Inv_o (Inv_t q0), up2_s _ _ _ _, fun _ => up2_s _ _ _ _⟩
          · show F_L_telling E (rr w 136) (nI n) x2 x3 (rr w 164) (Hw E w I L Q) = _
            unfold F_L_telling F_X11_telling
            rw [p5] at e5
            simp only [Option.bind_some, Option.map_some, Option.join, cI_r, cL_r, cV_r, xI_r, xL_r, xV_r, xI_t, xL_t, xV_t, lt_r, rtZ_0, rtZ_1, rtZ_zb, o136, f_needPlace e0 c0', nd_t p2, if_neg z1, gf136_7, gf121_1, r1, if_pos z2, f_needTeller, nd_t p3, gf136_2, gf22_0, e5, m12, not_true_eq_false, if_false, ev, pa164, ix01]
          · show F_X12_telling E (rr w 163) (nI n) x2 x3 _ = _
            unfold F_X12_telling
            have t5 : (up2 I 163 3 0) 137 5 = nI 12 := by rw [up2_row _ _ (by decide), k5.1, p5]
            simp only [Option.bind_some, Option.map_some, Option.join, cI_r, cL_r, cV_r, xI_r, xL_r, xV_r, xI_t, xL_t, xV_t, lt_r, rtZ_0, rtZ_1, rtZ_zb, pf163_3, o163, f_isPlace k0' d0', zn_t p2, gf163_10, r2', f_wi N (by omega) rfl, zi_t p1, f_wi 9 (by decide) (show (nI 9).toInt64 = 9 by rfl), zn_t p3d, gf163_0, ga137, show ix 5 2988 = some 5 from rfl, t5, m12, not_true_eq_false, if_false, ev]
        · have hz : c 5 < 12 := by omega
          have n12' : ¬ nI (c 5) = (12 : Int32) := fun e => p5 ((nI_eq (by omega) (show 12 < 2 ^ 31 by decide)).mp e)
          obtain ⟨B, hB⟩ : ∃ B : Nat → Nat, ∀ i, i < n → I 144 i = nI (B i) ∧ B i < 256 := ⟨fun i => tn (I 144 i), fun i hi => by
            obtain ⟨b, eb, -, hb⟩ := (r4 i (by omega)).1
            have tb : tn (nI b) = b := nI_clamp (by omega)
            show I 144 i = nI (tn (I 144 i)) ∧ tn (I 144 i) < 256
            rw [eb, tb]; exact ⟨rfl, by omega⟩⟩
          have hcB : cBy B n I := fun i hi => ⟨by rw [(r4 i (by omega)).2, (hB i hi).1]; rfl, (hB i hi).2⟩
          obtain ⟨C, a1, a2, a3, a4, a5, a6, a7⟩ := c_read (E := E) (w := w) (I := I) (L := L) (Q := Q) (B := B) (n := n) hG hn hcB
          -- the class' reading
          have cls : F_X11_telling E (rr w 136) (nI n) x2 x3 (Hw E w I L Q) = if ¬ nI (rn B n 0 (0, 0, 0, 0, 0, fun _ => 0)).1 = 0 then rtI ((-10 : Int32) - nI (rn B n 0 (0, 0, 0, 0, 0, fun _ => 0)).1) (Hw E w C L Q) else cI (F_X0_addTelling E (rr w 22) (rr w 123) (C 121 5) x2 x3 (Hw E w C L Q)) fun v82 h82 => rtI v82 h82 := by
            unfold F_X11_telling
            simp only [Option.bind_some, Option.map_some, Option.join, cI_r, cL_r, cV_r, xI_r, xL_r, xV_r, xI_t, xL_t, xV_t, lt_r, rtZ_0, rtZ_1, rtZ_zb, o136, f_needPlace e0 c0', nd_t p2, if_neg z1, gf136_7, gf121_1, r1, if_pos z2, f_needTeller, nd_t p3, gf136_2, gf22_0, e5, if_pos n12', o121, a7, gf121_4, gf121_5, o22]
          -- the reference's beginning
          have refB : ∀ (J : Nat → Nat → Int32) (L1 : Nat → Nat → Int64), (∀ k, k ≠ 22 → k ≠ 23 → k ≠ 24 → k ≠ 25 → k ≠ 26 → k ≠ 121 → k ≠ 123 → J k = I k) → ∃ A T0, (∀ k, k ≠ 163 → A k = J k) ∧ (∀ i, i ≠ 3 → i ≠ 10 → i ≠ 11 → i ≠ 12 → i ≠ 16 → A 163 i = I 163 i) ∧ A 163 3 = 0 ∧ A 163 10 = 0 ∧ Mx5 A T0 ∧ TR B n T0 0 ∧ F_X12_telling E (rr w 163) (nI n) x2 x3 (Hw E w J L1 Q) = L_X12_telling_91 E (fun w1 h2 => J_X12_telling_117 E (rr w 163) x2 x3 w1 h2) (rr w 163) E.2.2.1 0 (Hw E w T0 L1 Q) := fun J L1 hJ => by
            generalize eA : up2 (up2 (up2 (up2 (up2 J 163 3 0) 163 11 (nI n)) 163 10 0) 163 12 0) 163 16 0 = A
            have Ak : ∀ k, k ≠ 163 → A k = J k := fun k hk => by rw [← eA, up2_row _ _ hk, up2_row _ _ hk, up2_row _ _ hk, up2_row _ _ hk, up2_row _ _ hk]
            have Ai : ∀ i, i ≠ 3 → i ≠ 10 → i ≠ 11 → i ≠ 12 → i ≠ 16 → A 163 i = I 163 i := fun i h1 h2 h3 h4 h5 => by rw [← eA, up2_i _ _ _ h5, up2_i _ _ _ h4, up2_i _ _ _ h2, up2_i _ _ _ h3, up2_i _ _ _ h1, hJ 163 (by decide) (by decide) (by decide) (by decide) (by decide) (by decide) (by decide)]
            have A11 : A 163 11 = nI n := by rw [← eA]; rfl
            have A12 : A 163 12 = nI 0 := by rw [← eA]; rfl
            have A16 : A 163 16 = 0 := by rw [← eA]; rfl
            have A3 : A 163 3 = 0 := by rw [← eA]; rfl
            have A10 : A 163 10 = 0 := by rw [← eA]; rfl
            have mb : mBy B n A := fun i hi => by rw [Ak 144 (by decide), hJ 144 (by decide) (by decide) (by decide) (by decide) (by decide) (by decide) (by decide)]; exact hB i hi
            obtain ⟨T0, b1, b2, b3, b4, b5, b6⟩ := m_next (E := E) (w := w) (I := A) (L := L1) (Q := Q) (B := B) (p := 0) hG hn (by omega) A12 A11 mb
            refine ⟨A, T0, Ak, Ai, A3, A10, b1, ⟨by omega, by rw [b1.2 11 (by omega)]; exact A11, by rw [b1.2 16 (by omega)]; exact A16, b2, b3, b4, b5, mBy_k mb (b1.1 144 (by decide))⟩, ?_⟩
            have J137 : J 137 = I 137 := hJ 137 (by decide) (by decide) (by decide) (by decide) (by decide) (by decide) (by decide)
            have J163 : J 163 = I 163 := hJ 163 (by decide) (by decide) (by decide) (by decide) (by decide) (by decide) (by decide)
            have t0 : (up2 J 163 3 0) 137 0 = nI (c 0) := by rw [up2_row _ _ (by decide), J137]; exact k0.1
            have t5 : (up2 J 163 3 0) 137 5 = nI (c 5) := by rw [up2_row _ _ (by decide), J137]; exact k5.1
            have t10 : (up2 J 163 3 0) 163 10 = nI N := by rw [up2_i _ _ _ (by decide), J163]; exact r2
            unfold F_X12_telling
            simp only [Option.bind_some, Option.map_some, Option.join, cI_r, cL_r, cV_r, xI_r, xL_r, xV_r, xI_t, xL_t, xV_t, lt_r, rtZ_0, rtZ_1, rtZ_zb, pf163_3, o163, f_isPlace t0 d0', zn_t p2, gf163_10, t10, f_wi N (by omega) rfl, zi_t p1, f_wi 9 (by decide) (show (nI 9).toInt64 = 9 by rfl), zn_t p3d, gf163_0, ga137, show ix 5 2988 = some 5 from rfl, t5, if_pos n12', pf163_11, pf163_10, pf163_12, pf163_16, eA, b6]
          by_cases f0 : (rn B n 0 (0, 0, 0, 0, 0, fun _ => 0)).1 = 0
          · -- it is kept
            obtain ⟨a6, a6'⟩ := a6 f0
            rw [if_pos f0] at a5
            have C22 : C 22 0 = nI (c 5) := by rw [a1 22 (by decide) (by decide)]; exact e5
            obtain ⟨D, d1, d2, d3, d4, d5, d6, d7, d8, d9, d10⟩ := c_addTelling (E := E) (w := w) (I := C) (L := L) (Q := Q) (z := c 5) (X := (rn B n 0 (0, 0, 0, 0, 0, fun _ => 0)).2.2.1) (x2 := x2) (x3 := x3) C22 hz
            obtain ⟨v, ev⟩ : ∃ v, v = nI (c 5) := ⟨_, rfl⟩
            rw [← ev] at d10
            have rD : ∀ k, k ≠ 22 → k ≠ 23 → k ≠ 24 → k ≠ 25 → k ≠ 26 → k ≠ 121 → k ≠ 123 → D k = I k := fun k h1 h2 h3 h4 h5 h6 h7 => by rw [d1 k h1 h2 h3 h4 h5, a1 k h6 h7]
            have hc : F_L_telling E (rr w 136) (nI n) x2 x3 (rr w 164) (Hw E w I L Q) = rtI 0 (Hw E w D (up2 L 164 0 v.toInt64) Q) := by
              unfold F_L_telling
              rw [o136, Option.bind_some, cls, if_neg (not_not_intro (by rw [f0]; rfl)), a6, d10, cI_r]
              simp only [Option.bind_some, Option.map_some, Option.join, cI_r, cL_r, cV_r, xI_r, xL_r, xV_r, xI_t, xL_t, xV_t, lt_r, rtZ_0, rtZ_1, rtZ_zb, pa164, ix01]
            obtain ⟨A, T0, b1, b2, b3, b4, b5, b6, b7⟩ := refB D (up2 L 164 0 v.toInt64) rD
            rcases m_tell91 (E := E) (w := w) (I := T0) (L := up2 L 164 0 v.toInt64) (Q := Q) (B := B) (n := n) hG hn 11 0 0 0 (fun _ => 0) T0 E.2.2.1 rfl (by omega) (by omega) b6 MfT.rf ⟨fun y hy => absurd hy (by omega), fun _ _ _ => rfl⟩ with ⟨F, f, pos, g1, g2, g3, xx, g4⟩ | ⟨F, X, R, g1, g2, g3, g4, g5, g6⟩
            · rw [g2] at f0; exact absurd f0 g1.1
            · rw [g2] at a3 a6' d7
              -- what J_117 writes
              generalize eH : up2 (up2 F 163 18 0) 163 19 (-1) = H
              have Hk : ∀ k, k ≠ 163 → H k = F k := fun k hk => by rw [← eH, up2_row _ _ hk, up2_row _ _ hk]
              have Hi : ∀ i, i ≠ 18 → i ≠ 19 → H 163 i = F 163 i := fun i h1 h2 => by rw [← eH, up2_i _ _ _ h2, up2_i _ _ _ h1]
              have H18 : H 163 18 = 0 := by rw [← eH]; rfl
              have H19 : H 163 19 = -1 := by rw [← eH]; rfl
              have H16 : H 163 16 = 0 := by rw [Hi 16 (by decide) (by decide)]; exact g4
              have Fk : ∀ k, k ≠ 145 → k ≠ 163 → F k = D k := fun k h1 h2 => by rw [g3.1 k h1 h2, b5.1 k h2, b1 k h2]
              have Fi : ∀ i, i ≠ 3 → i ≠ 10 → i ≠ 11 → ¬ (12 ≤ i ∧ i ≤ 17) → F 163 i = I 163 i := fun i h1 h2 h3 h4 => by rw [g3.2 i h4, b5.2 i (by omega), b2 i h1 h2 h3 (by omega) (by omega)]
              have H5 : H 137 5 = nI (c 5) := by rw [Hk 137 (by decide), Fk 137 (by decide) (by decide), rD 137 (by decide) (by decide) (by decide) (by decide) (by decide) (by decide) (by decide)]; exact k5.1
              obtain ⟨K, m1', m2', m3', m4', m5', m6', m7', m8', m9', m10'⟩ := m_keeps (E := E) (w := w) (I := H) (L := up2 L 164 0 v.toInt64) (Q := Q) (z := c 5) (x1 := x2) (x2 := x3) (x3 := nI X) hG H5 hz
              rw [← ev] at m10'
              have rK : ∀ k, k ≠ 137 → k ≠ 145 → k ≠ 163 → K k = D k := fun k h1 h2 h3 => by rw [m1' k h1 h2 h3, Hk k h3, Fk k h2 h3]
              have K121 : ∀ i, K 121 i = C 121 i := fun i => by rw [rK 121 (by decide) (by decide) (by decide), d1 121 (by decide) (by decide) (by decide) (by decide) (by decide)]
              have K163 : ∀ i, i ≠ 4 → K 163 i = H 163 i := m2'
              have K10 : K 163 10 = 0 := by rw [K163 10 (by decide), Hi 10 (by decide) (by decide), g3.2 10 (by omega), b5.2 10 (by omega)]; exact b4
              refine ⟨0, v, D, K, up2 L 164 0 v.toInt64, up2 L 164 0 v.toInt64, Q, Q, hc, ?_, ?_, ?_, fun _ => up2_s _ _ _ _⟩
              · show F_X12_telling E (rr w 163) (nI n) x2 x3 _ = _
                have g6' : ∀ K, L_X12_telling_91 E K (rr w 163) E.2.2.1 0 (Hw E w T0 (up2 L 164 0 v.toInt64) Q) = K (nI X) (Hw E w F (up2 L 164 0 v.toInt64) Q) := g6
                rw [b7, g6']
                unfold J_X12_telling_117 J_X12_telling_141
                have e16 : ∀ v', (up2 F 163 18 v') 163 16 = 0 := fun v' => by rw [up2_i _ _ _ (by decide)]; exact g4
                simp only [Option.bind_some, Option.map_some, Option.join, cI_r, cL_r, cV_r, xI_r, xL_r, xV_r, xI_t, xL_t, xV_t, lt_r, rtZ_0, rtZ_1, rtZ_zb, gf163_16, g4, pf163_18, e16, not_true_eq_false, if_false, pf163_19, eH, H16, if_true, o163, m10']
              · -- the invariant: first the reading, then the telling
                obtain ⟨M, M1, M2, M3⟩ : ∃ M : Nat → Nat → Int32, (∀ k, k ≠ 121 → k ≠ 123 → k ≠ 145 → k ≠ 163 → M k = I k) ∧ (∀ k, k = 121 ∨ k = 123 ∨ k = 145 → M k = K k) ∧ M 163 = fun i => if i = 4 then I 163 4 else K 163 i :=
                  ⟨fun k => if k = 163 then (fun i => if i = 4 then I 163 4 else K 163 i) else if k = 121 ∨ k = 123 ∨ k = 145 then K k else I k, fun k h1 h2 h3 h4 => (if_neg h4).trans (if_neg (by omega)), fun k hk => (if_neg (by omega)).trans (if_pos hk), if_pos rfl⟩
                have M163 : ∀ i, i ≠ 4 → M 163 i = K 163 i := fun i hi => by rw [M3]; exact if_neg hi
                have rM : ReadR M := by
                  refine ⟨⟨0, ?_, ?_, by omega, fun i hi => absurd hi (by omega)⟩, ?_, ?_⟩
                  · rw [M2 121 (by decide), K121]; exact a2
                  · rw [M163 10 (by decide)]; exact K10
                  · rw [M2 121 (by decide), K121, M163 18 (by decide), K163 18 (by decide), H18]; exact a3
                  · rw [M2 121 (by decide), K121, M163 19 (by decide), K163 19 (by decide), H19]; exact a5
                have qM := InvC_rd (L1 := L) qc' M1 (by rw [M3]; rfl) rM (fun _ _ => rfl)
                have qM' := qM
                obtain ⟨s1, s2, s3, s4, s5, -⟩ := qM
                have M137 : M 137 = I 137 := M1 137 (by decide) (by decide) (by decide) (by decide)
                have DC : ∀ k, k ≠ 22 → k ≠ 23 → k ≠ 24 → k ≠ 25 → k ≠ 26 → K k = C k ∨ k = 137 ∨ k = 145 ∨ k = 163 := fun k h1 h2 h3 h4 h5 => by
                  by_cases e1 : k = 137
                  · exact Or.inr (Or.inl e1)
                  · by_cases e2 : k = 145
                    · exact Or.inr (Or.inr (Or.inl e2))
                    · by_cases e3 : k = 163
                      · exact Or.inr (Or.inr (Or.inr e3))
                      · exact Or.inl (by rw [rK k e1 e2 e3, d1 k h1 h2 h3 h4 h5])
                have KI : ∀ k, k ≠ 22 → k ≠ 23 → k ≠ 24 → k ≠ 25 → k ≠ 26 → k ≠ 121 → k ≠ 123 → k ≠ 137 → k ≠ 145 → k ≠ 163 → K k = I k := fun k h1 h2 h3 h4 h5 h6 h7 h8 h9 h10 => by rw [rK k h8 h9 h10, rD k h1 h2 h3 h4 h5 h6 h7]
                have MI : ∀ k, k < 32 → M k = I k := fun k hk => M1 k (by omega) (by omega) (by omega) (by omega)
                have CI : ∀ k, k < 32 → C k = I k := fun k hk => a1 k (by omega) (by omega)
                have K137 : ∀ i, i ≠ 5 → ¬ (762 + 173 * c 5 ≤ i ∧ i < 935 + 173 * c 5) → K 137 i = I 137 i := fun i h1 h2 => by
                  rw [m5' i h1 h2, Hk 137 (by decide), Fk 137 (by decide) (by decide), rD 137 (by decide) (by decide) (by decide) (by decide) (by decide) (by decide) (by decide)]
                have K145 : ∀ i, 3 ≤ i → i < 173 → K 137 (762 + 173 * c 5 + i) = F 145 i := fun i h1 h2 => by rw [m9' i h1 h2, Hk 145 (by decide)]
                have cnt : ∀ j, j < X → ∃ m, (1 ≤ m ∧ m ≤ 4) ∧ K 137 (765 + 173 * c 5 + j) = nI m ∧ (∀ i, i < m → WfW (K 137 (775 + 173 * c 5 + 16 * j + 4 * i)) (K 137 (776 + 173 * c 5 + 16 * j + 4 * i)) (K 137 (777 + 173 * c 5 + 16 * j + 4 * i)) ∧ R (4 * j + i) = enc (K 137 (775 + 173 * c 5 + 16 * j + 4 * i)) (K 137 (776 + 173 * c 5 + 16 * j + 4 * i)) (K 137 (777 + 173 * c 5 + 16 * j + 4 * i))) ∧ ∀ i, m ≤ i → i < 4 → R (4 * j + i) = 0 := fun j hj => by
                  obtain ⟨m, hm, ⟨y1, y2⟩, y3⟩ := g5.1 j hj
                  refine ⟨m, hm, ?_, fun i hi => ?_, y3⟩
                  · have := K145 (3 + j) (by omega) (by omega)
                    rw [show 762 + 173 * c 5 + (3 + j) = 765 + 173 * c 5 + j by omega] at this
                    rw [this]; exact y1
                  · have w0 := K145 (13 + 16 * j + 4 * i) (by omega) (by omega)
                    have w1 := K145 (14 + 16 * j + 4 * i) (by omega) (by omega)
                    have w2 := K145 (15 + 16 * j + 4 * i) (by omega) (by omega)
                    rw [show 762 + 173 * c 5 + (13 + 16 * j + 4 * i) = 775 + 173 * c 5 + 16 * j + 4 * i by omega] at w0
                    rw [show 762 + 173 * c 5 + (14 + 16 * j + 4 * i) = 776 + 173 * c 5 + 16 * j + 4 * i by omega] at w1
                    rw [show 762 + 173 * c 5 + (15 + 16 * j + 4 * i) = 777 + 173 * c 5 + 16 * j + 4 * i by omega] at w2
                    rw [w0, w1, w2]; exact y2 i hi
                refine inv_tell (z := c 5) ⟨c, qM'⟩ s1 s2 s3 s4 s5 rfl hz (fun k hk => ?_) (fun i hi => (M163 i (by omega)).symm) m3' (fun k hk => up2_row _ _ hk) (fun i h1 h2 => ?_) m4' (fun k h0 h1 h2 h3 h4 h5 => ?_) (fun f hf => ?_) ?_ (fun x hx => ?_) (fun x hx => ?_) ?_ ?_
                · by_cases e : k = 121
                  · rw [e, M2 121 (by decide)]
                  · rw [KI k (by omega) (by omega) (by omega) (by omega) (by omega) e (by omega) (by omega) (by omega) (by omega), M1 k e (by omega) (by omega) (by omega)]
                · rw [M137]; exact K137 i h1 h2
                · rw [M1 k (by omega) (by omega) (by omega) (by omega), KI k h5 h1 h2 h3 h4 (by omega) (by omega) (by omega) (by omega) (by omega)]
                · rw [rK 22 (by decide) (by decide) (by decide), d2 f hf, CI 22 (by decide), MI 22 (by decide)]
                · rw [rK 22 (by decide) (by decide) (by decide)]; exact d3
                · rw [rK 23 (by decide) (by decide) (by decide), rK 24 (by decide) (by decide) (by decide), rK 25 (by decide) (by decide) (by decide), MI 23 (by decide), MI 24 (by decide), MI 25 (by decide), ← CI 23 (by decide), ← CI 24 (by decide), ← CI 25 (by decide)]; exact d4 x hx
                · rw [rK 26 (by decide) (by decide) (by decide), MI 26 (by decide), ← CI 26 (by decide)]; exact d8 x hx
                · refine ⟨by rw [m6']; exact p2, by rw [m7']; exact p3, by rw [m8']; exact ⟨X, rfl, by omega, g1⟩, fun j hj hj2 => ?_⟩
                  rw [m8'] at hj
                  have hjX : j < X := (nI_ltI (by omega) (by omega)).mp hj
                  obtain ⟨m, hm, y1, y2, y3⟩ := cnt j hjX
                  refine ⟨by rw [y1]; exact ⟨m, rfl, hm.1, hm.2⟩, fun i hi hl => ?_⟩
                  rw [y1] at hl
                  exact (y2 i ((nI_ltI (by omega) (by omega)).mp hl)).1
                · refine ⟨?_, ?_, ?_, fun j hj2 hj i hi => ?_⟩
                  · show K 23 (c 5) = _
                    rw [rK 23 (by decide) (by decide) (by decide), d5, m6']
                  · show K 24 (c 5) = _
                    rw [rK 24 (by decide) (by decide) (by decide), d6, m7']
                  · show K 25 (c 5) = _
                    rw [rK 25 (by decide) (by decide) (by decide), d7, m8']
                  · rw [m8'] at hj
                    have hjX : j < X := (nI_ltI (by omega) (by omega)).mp hj
                    obtain ⟨m, hm, y1, y2, y3⟩ := cnt j hjX
                    show (nI i < K 137 (765 + 173 * c 5 + j) → K 26 (40 * c 5 + 4 * j + i) = _) ∧ (¬ nI i < K 137 (765 + 173 * c 5 + j) → K 26 (40 * c 5 + 4 * j + i) = 0)
                    have e26 : K 26 (40 * c 5 + 4 * j + i) = R (4 * j + i) := by
                      rw [rK 26 (by decide) (by decide) (by decide), show 40 * c 5 + 4 * j + i = 40 * c 5 + (4 * j + i) by omega, d9 _ (by omega)]
                      exact a6' _ (by omega)
                    rw [y1, e26]
                    refine ⟨fun hl => (y2 i ((nI_ltI (by omega) (by omega)).mp hl)).2, fun hl => y3 i ?_ hi⟩
                    exact Nat.le_of_not_lt (fun z => hl ((nI_ltI (by omega) (by omega)).mpr z))
              · rw [m2' 3 (by decide), Hi 3 (by decide) (by decide), g3.2 3 (by omega), b5.2 3 (by omega)]; exact b3
          · -- a fault
            have nf : ¬ nI (rn B n 0 (0, 0, 0, 0, 0, fun _ => 0)).1 = 0 := fun z => f0 ((nI_eq (b := 0) (by omega) (by decide)).mp z)
            rw [if_pos nf] at cls
            rw [if_neg f0] at a5
            obtain ⟨v, ev⟩ : ∃ v, v = (-10 : Int32) - nI (rn B n 0 (0, 0, 0, 0, 0, fun _ => 0)).1 := ⟨_, rfl⟩
            rw [← ev] at cls
            obtain ⟨A, T0, b1, b2, b3, b4, b5, b6, b7⟩ := refB C (up2 L 164 0 v.toInt64) (fun k h1 h2 h3 h4 h5 h6 h7 => a1 k h6 h7)
            rcases m_tell91 (E := E) (w := w) (I := T0) (L := up2 L 164 0 v.toInt64) (Q := Q) (B := B) (n := n) hG hn 11 0 0 0 (fun _ => 0) T0 E.2.2.1 rfl (by omega) (by omega) b6 MfT.rf ⟨fun y hy => absurd hy (by omega), fun _ _ _ => rfl⟩ with ⟨F, f, pos, g1, g2, g3, xx, g4⟩ | ⟨F, X, R, g1, g2, g3, g4, g5, g6⟩
            · rw [g2] at a3 a5 ev
              have g31 := g3.1
              have F16 : F 163 16 = nI f := g3.2.1
              have F17 : F 163 17 = nI pos := g3.2.2
              have nF : ¬ nI f = 0 := fun z => g1.1 ((nI_eq (b := 0) (by omega) (by decide)).mp z)
              generalize eH : up2 (up2 F 163 18 (nI f)) 163 19 (nI pos) = H
              have Hk : ∀ k, k ≠ 163 → H k = F k := fun k hk => by rw [← eH, up2_row _ _ hk, up2_row _ _ hk]
              have Hi : ∀ i, i ≠ 18 → i ≠ 19 → H 163 i = F 163 i := fun i h1 h2 => by rw [← eH, up2_i _ _ _ h2, up2_i _ _ _ h1]
              have H18 : H 163 18 = nI f := by rw [← eH, up2_i _ _ _ (by decide), up2_s]
              have H19 : H 163 19 = nI pos := by rw [← eH, up2_s]
              have H16 : H 163 16 = nI f := by rw [Hi 16 (by decide) (by decide)]; exact F16
              have HC : ∀ k, k ≠ 145 → k ≠ 163 → H k = C k := fun k h1 h2 => by rw [Hk k h2, g31.1 k h1 h2, b5.1 k h2, b1 k h2]
              refine ⟨0, v, C, H, up2 L 164 0 v.toInt64, up2 L 164 0 v.toInt64, Q, Q, ?_, ?_, ?_, ?_, fun _ => up2_s _ _ _ _⟩
              · show F_L_telling E (rr w 136) (nI n) x2 x3 (rr w 164) (Hw E w I L Q) = _
                unfold F_L_telling
                rw [o136, Option.bind_some, cls]
                simp only [Option.bind_some, Option.map_some, Option.join, cI_r, cL_r, cV_r, xI_r, xL_r, xV_r, xI_t, xL_t, xV_t, lt_r, rtZ_0, rtZ_1, rtZ_zb, pa164, ix01]
              · show F_X12_telling E (rr w 163) (nI n) x2 x3 _ = _
                have g4' : ∀ K, L_X12_telling_91 E K (rr w 163) E.2.2.1 0 (Hw E w T0 (up2 L 164 0 v.toInt64) Q) = K xx (Hw E w F (up2 L 164 0 v.toInt64) Q) := g4
                rw [b7, g4']
                unfold J_X12_telling_117 J_X12_telling_141
                have e16 : ∀ v', (up2 F 163 18 v') 163 16 = nI f := fun v' => by rw [up2_i _ _ _ (by decide)]; exact F16
                have e17 : ∀ v', (up2 F 163 18 v') 163 17 = nI pos := fun v' => by rw [up2_i _ _ _ (by decide)]; exact F17
                simp only [Option.bind_some, Option.map_some, Option.join, cI_r, cL_r, cV_r, xI_r, xL_r, xV_r, xI_t, xL_t, xV_t, lt_r, rtZ_0, rtZ_1, rtZ_zb, gf163_16, F16, pf163_18, e16, if_pos nF, gf163_17, e17, pf163_19, eH, H16, if_neg nF]
                rw [ev]
              · refine (InvC_rd (I1 := H) (L1 := up2 L 164 0 v.toInt64) qc' (fun k h1 h2 h3 h4 => by rw [HC k h3 h4, a1 k h1 h2]) ?_ ?_ (fun k hk => up2_row _ _ hk)).inv
                · rw [Hi 4 (by decide) (by decide), g31.2 4 (by omega), b5.2 4 (by omega), b2 4 (by decide) (by decide) (by decide) (by decide) (by decide)]
                · refine ⟨⟨0, ?_, ?_, by omega, fun i hi => absurd hi (by omega)⟩, ?_, ?_⟩
                  · rw [HC 121 (by decide) (by decide)]; exact a2
                  · rw [Hi 10 (by decide) (by decide), g31.2 10 (by omega), b5.2 10 (by omega)]; exact b4
                  · rw [HC 121 (by decide) (by decide), H18]; exact a3
                  · rw [HC 121 (by decide) (by decide), H19]; exact a5
              · rw [Hi 3 (by decide) (by decide), g31.2 3 (by omega), b5.2 3 (by omega)]; exact b3
            · rw [g2] at f0; exact absurd rfl f0
      · refine OpI_no (k := 2) (b := 0) q0 (by decide) ?_ ?_
        · show F_L_telling E (rr w 136) x1 x2 x3 (rr w 164) (Hw E w I L Q) = _
          obtain ⟨n, rfl, -, hnN⟩ := p1
          unfold F_L_telling F_X11_telling
          simp only [Option.bind_some, Option.map_some, Option.join, cI_r, cL_r, cV_r, xI_r, xL_r, xV_r, xI_t, xL_t, xV_t, lt_r, rtZ_0, rtZ_1, rtZ_zb, o136, f_needPlace e0 c0', nd_t p2, if_neg (nI_pos (show n < 2 ^ 31 by omega)), gf136_7, gf121_1, r1, if_pos (nI_le hnN (show N < 2 ^ 31 by omega)), f_needTeller, nd_f p3, if_true]
        · show F_X12_telling E (rr w 163) x1 x2 x3 _ = _
          have p3d : ¬ bd x3 0 9 := fun z => p3 (bd_bl.mp z)
          unfold F_X12_telling
          simp only [Option.bind_some, Option.map_some, Option.join, cI_r, cL_r, cV_r, xI_r, xL_r, xV_r, xI_t, xL_t, xV_t, lt_r, rtZ_0, rtZ_1, rtZ_zb, pf163_3, o163, f_isPlace k0' d0', zn_t p2, gf163_10, r2', f_wi N (by omega) rfl, zi_t p1, f_wi 9 (by decide) (show (nI 9).toInt64 = 9 by rfl), zn_f p3d, f_fails]
    · refine OpI_no (k := 2) (b := 0) q0 (by decide) ?_ ?_
      · show F_L_telling E (rr w 136) x1 x2 x3 (rr w 164) (Hw E w I L Q) = _
        unfold F_L_telling F_X11_telling
        by_cases c1 : x1 < 0
        · simp only [Option.bind_some, Option.map_some, Option.join, cI_r, cL_r, cV_r, xI_r, xL_r, xV_r, xI_t, xL_t, xV_t, lt_r, rtZ_0, rtZ_1, rtZ_zb, o136, f_needPlace e0 c0', nd_t p2, if_pos c1, if_true]
        · have c2 : ¬ x1 ≤ nI N := fun z => p1 ((bd_iff (by omega)).mpr ⟨c1, Int32.not_lt.mpr z⟩)
          simp only [Option.bind_some, Option.map_some, Option.join, cI_r, cL_r, cV_r, xI_r, xL_r, xV_r, xI_t, xL_t, xV_t, lt_r, rtZ_0, rtZ_1, rtZ_zb, o136, f_needPlace e0 c0', nd_t p2, if_neg c1, gf136_7, gf121_1, r1, if_neg c2, if_true]
      · show F_X12_telling E (rr w 163) x1 x2 x3 _ = _
        unfold F_X12_telling
        simp only [Option.bind_some, Option.map_some, Option.join, cI_r, cL_r, cV_r, xI_r, xL_r, xV_r, xI_t, xL_t, xV_t, lt_r, rtZ_0, rtZ_1, rtZ_zb, pf163_3, o163, f_isPlace k0' d0', zn_t p2, gf163_10, r2', f_wi N (by omega) rfl, zi_f p1, f_fails]
  · refine OpI_no (k := 1) (b := 0) q0 (by decide) ?_ ?_
    · show F_L_telling E (rr w 136) x1 x2 x3 (rr w 164) (Hw E w I L Q) = _
      unfold F_L_telling F_X11_telling
      simp only [Option.bind_some, Option.map_some, Option.join, cI_r, cL_r, cV_r, xI_r, xL_r, xV_r, xI_t, xL_t, xV_t, lt_r, rtZ_0, rtZ_1, rtZ_zb, o136, f_needPlace e0 c0', nd_f p2, String.reduceEq, if_false, if_true]
    · show F_X12_telling E (rr w 163) x1 x2 x3 _ = _
      unfold F_X12_telling
      simp only [Option.bind_some, Option.map_some, Option.join, cI_r, cL_r, cV_r, xI_r, xL_r, xV_r, xI_t, xL_t, xV_t, lt_r, rtZ_0, rtZ_1, rtZ_zb, pf163_3, o163, f_isPlace k0' d0', zn_f p2, f_fails]
end
