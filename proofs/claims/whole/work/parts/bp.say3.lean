/-! say: the call -/
section
variable {E : Ev} {w : Wo} {I : Nat → Nat → Int32} {L : Nat → Nat → Int64} {Q : Nat → Nat → Option Nat} {c : Nat → Nat} {x y : Int32}
theorem c_addListed {t m z : Nat} {u : Nat → Nat} {x2 x3 : Int32} (hG : 100000 ≤ E.2.2.1) (ht : t < 4) (em : I (128 + 2 * t) 2 = nI m) (hm : m ≤ 10) (ez : I 22 0 = nI z) (hz : z < 12) (hu : ∀ n, n < m → u n ≤ 30 ∧ L (129 + 2 * t) n = (nI (u n)).toInt64) : ∃ I', (∀ k, k ≠ 22 → k ≠ 23 → k ≠ 24 → k ≠ 25 → k ≠ 26 → I' k = I k) ∧ (∀ f, f ≠ 0 → I' 22 f = I 22 f) ∧ I' 22 0 = nI (z + 1) ∧ (∀ x, x ≠ z → I' 23 x = I 23 x ∧ I' 24 x = I 24 x ∧ I' 25 x = I 25 x) ∧ I' 23 z = x2 ∧ I' 24 z = x3 ∧ I' 25 z = nI m ∧ (∀ x, ¬ (40 * z ≤ x ∧ x < 40 * z + 40) → I' 26 x = I 26 x) ∧ (∀ n, n < m → I' 26 (40 * z + 4 * n) = enc (lwK (u n)) (lwN (u n)) (lwA (u n)) ∧ ∀ i, 1 ≤ i → i < 4 → I' 26 (40 * z + 4 * n + i) = 0) ∧ F_X0_addListed E (rr w 22) (rr w (128 + 2 * t)) x2 x3 (Hw E w I L Q) = rtI (nI z) (Hw E w I' L Q) := by
  have i26 : IA w 26 480 := ⟨lv_of (by decide), rfl, by decide⟩
  have fl := f_fillIR (E := E) (w := w) (I := I) (L := L) (Q := Q) (k := 26) (n := 480) (lo := 40 * z) (hi := 40 * z + 40) (v := 0) hG i26 (by omega) (by omega)
  rw [show 40 * z + 40 - 40 * z = 40 by omega] at fl
  have o1 : ∀ k, k ≠ 26 → rs I 26 (40 * z) 40 (fun _ => 0) k = I k := fun k hk => rs_row _ _ hk
  have o2 : ∀ x, ¬ (40 * z ≤ x ∧ x < 40 * z + 40) → rs I 26 (40 * z) 40 (fun _ => 0) 26 x = I 26 x := fun x hx => rs_out _ _ hx
  have o3 : ∀ x, 40 * z ≤ x → x < 40 * z + 40 → rs I 26 (40 * z) 40 (fun _ => 0) 26 x = 0 := fun x h1 h2 => rs_in _ _ h1 h2
  generalize rs I 26 (40 * z) 40 (fun _ => 0) = A at *
  obtain ⟨B, b1, b2, b3, b4⟩ := c_listed38 (E := E) (w := w) (I := A) (L := L) (Q := Q) (t := t) (m := m) (z := z) (u := u) hG ht (by rw [o1 _ (by omega)]; exact em) hm hz hu
  have eB : B 22 0 = nI z := by rw [b1 22 (by decide), o1 22 (by decide)]; exact ez
  have eB2 : B (128 + 2 * t) 2 = nI m := by rw [b1 _ (by omega), o1 _ (by omega)]; exact em
  generalize eC : up2 (up2 (up2 (up2 B 23 z x2) 24 z x3) 25 z (nI m)) 22 0 (nI (z + 1)) = C
  have c1 : ∀ k, k ≠ 22 → k ≠ 23 → k ≠ 24 → k ≠ 25 → C k = B k := fun k h1 h2 h3 h4 => by rw [← eC, up2_row _ _ h1, up2_row _ _ h4, up2_row _ _ h3, up2_row _ _ h2]
  refine ⟨C, fun k h1 h2 h3 h4 h5 => by rw [c1 k h1 h2 h3 h4, b1 k h5, o1 k h5], fun f hf => by rw [← eC, up2_i _ _ _ hf, up2_row _ _ (by decide), up2_row _ _ (by decide), up2_row _ _ (by decide), b1 22 (by decide), o1 22 (by decide)], by rw [← eC, up2_s], fun x hx => ⟨?_, ?_, ?_⟩, ?_, ?_, ?_, fun x hx => ?_, fun n hn => ⟨?_, fun i h1 h2 => ?_⟩, ?_⟩
  · rw [← eC, up2_row _ _ (by decide), up2_row _ _ (by decide), up2_row _ _ (by decide), up2_i _ _ _ hx, b1 23 (by decide), o1 23 (by decide)]
  · rw [← eC, up2_row _ _ (by decide), up2_row _ _ (by decide), up2_i _ _ _ hx, up2_row _ _ (by decide), b1 24 (by decide), o1 24 (by decide)]
  · rw [← eC, up2_row _ _ (by decide), up2_i _ _ _ hx, up2_row _ _ (by decide), up2_row _ _ (by decide), b1 25 (by decide), o1 25 (by decide)]
  · rw [← eC, up2_row _ _ (by decide), up2_row _ _ (by decide), up2_row _ _ (by decide), up2_s]
  · rw [← eC, up2_row _ _ (by decide), up2_row _ _ (by decide), up2_s]
  · rw [← eC, up2_row _ _ (by decide), up2_s]
  · rw [c1 26 (by decide) (by decide) (by decide) (by decide), b2 x (fun n hn => by omega), o2 x hx]
  · rw [c1 26 (by decide) (by decide) (by decide) (by decide)]; exact b3 n hn
  · rw [c1 26 (by decide) (by decide) (by decide) (by decide), b2 _ (fun n' hn' => by omega)]
    exact o3 _ (by omega) (by omega)
  · have e2 : ∀ v, (up2 B 23 z v) 22 0 = nI z := fun v => by rw [up2_row _ _ (by decide)]; exact eB
    have e3 : ∀ v v', (up2 (up2 B 23 z v) 24 z v') 22 0 = nI z := fun v v' => by rw [up2_row _ _ (by decide), up2_row _ _ (by decide)]; exact eB
    have e4 : ∀ v v', (up2 (up2 B 23 z v) 24 z v') (128 + 2 * t) 2 = nI m := fun v v' => by rw [up2_row _ _ (by omega), up2_row _ _ (by omega)]; exact eB2
    have e5 : ∀ v v' v'', (up2 (up2 (up2 B 23 z v) 24 z v') 25 z v'') 22 0 = nI z := fun v v' v'' => by rw [up2_row _ _ (by decide), up2_row _ _ (by decide), up2_row _ _ (by decide)]; exact eB
    unfold F_X0_addListed
    rw [gf22_0, Option.bind_some, ez, m12, if_pos (nI_lt hz (by decide)), Option.bind_some, gf22_4, Option.bind_some, m40, pk_mul, nI_add, show z * 40 = 40 * z by omega, fl, cV_r, b4]
    unfold J_X0_addListed_83
    simp (disch := omega) only [Option.bind_some, Option.map_some, Option.join, cI_r, cL_r, cV_r, xI_r, xL_r, xV_r, xI_t, xL_t, xV_t, lt_r, rtZ_0, rtZ_1, rtZ_zb, gf22_0, gf22_1, gf22_2, gf22_3, eB, pa23, pa24, pa25, ix_n, e2, e3, ty_2 ht, e4, e5, pf22_0, nI_1, eC]
theorem op_say (hG : 100000 ≤ E.2.2.1) (q : Inv w I L Q) (x1 x2 x3 : Int32) : OpI E w (fun h => F_L_say E (rr w 136) x1 x2 x3 (rr w 164) h) (fun h => F_X12_say E (rr w 163) x1 x2 x3 h) I L Q := by
  have q0 := q
  obtain ⟨c, q1, q2, q3, q4, q5, q6, q7, q8, q9, q10, q11, q12, q13⟩ := q
  have k0 := q1.1 0 (by decide)
  have k5 := q1.1 5 (by decide)
  simp only [mx] at k0 k5
  have e0 : I 0 0 = nI (c 0) := q2.1.1.trans k0.1
  have e5 : I 22 0 = nI (c 5) := q4.1.1.trans k5.1
  have c0' : c 0 < 2 ^ 31 := by omega
  have d0' : c 0 < 2 ^ 30 := by omega
  have k0' : (up2 I 163 3 0) 137 0 = nI (c 0) := k0.1
  by_cases p1 : bl x1 4
  · by_cases p2 : bl x2 (c 0)
    · have p1' := p1
      obtain ⟨t, rfl, ht⟩ := p1'
      have qt : Q 124 t = some (128 + 2 * t) := q10.2 t ht
      rcases q12 t ht with ⟨o1, o2⟩ | ⟨o1, ⟨κ, o2, hκ⟩, o3, ⟨m, o4, -, hm⟩, o5, o6⟩
      · refine OpI_no (k := 2) (b := 0) q0 (by decide) ?_ ?_
        · show F_L_say E (rr w 136) (nI t) x2 x3 (rr w 164) (Hw E w I L Q) = _
          unfold F_L_say F_X11_say F_X11_needLaid
          simp only [Option.bind_some, Option.map_some, Option.join, cI_r, cL_r, cV_r, xI_r, xL_r, xV_r, xI_t, xL_t, xV_t, lt_r, rtZ_0, rtZ_1, rtZ_zb, o136, f_needTray, nd_t p1, f_needPlace e0 c0', nd_t p2, gf136_8, ga124, ix_n ht (show 4 < 2 ^ 31 by decide), qt, id_eq, ty_0 ht, o1, if_neg (show ¬ (1 : Int32) = 0 by decide), String.reduceEq, if_false, if_true]
        · show F_X12_say E (rr w 163) (nI t) x2 x3 _ = _
          unfold F_X12_say
          have o2' : (up2 I 163 3 0) 160 t = -1 := o2
          simp only [Option.bind_some, Option.map_some, Option.join, cI_r, cL_r, cV_r, xI_r, xL_r, xV_r, xI_t, xL_t, xV_t, lt_r, rtZ_0, rtZ_1, rtZ_zb, pf163_3, o163, f_isTray, zi_t p1, f_isPlace k0' d0', zn_t p2, gf163_37, ga160, ix_n ht (show 4 < 2 ^ 31 by decide), o2', not_true_eq_false, if_false, f_fails]
      · have o5' : I (128 + 2 * t) 2 = nI m := o5.trans o4
        have ne1 : ¬ nI κ = -1 := m1_ne (by omega)
        have o2' : (up2 I 163 3 0) 160 t = nI κ := o2
        have o4' : (up2 I 163 3 0) 161 t = nI m := o4
        have sy := c_sayable (E := E) (w := w) (I := I) (L := L) (Q := Q) hG ht o5' hm
        have big : (10 : Int32) < nI m ↔ 10 < m := nI_ltI (by decide) (by omega)
        by_cases p3 : (m ≤ 10 ∧ ∀ n, n < m → ∃ N, N ≤ 30 ∧ L (129 + 2 * t) n = (nI N).toInt64) ∧ bl x3 10
        · obtain ⟨p3, p4⟩ := p3
          have p4d : bd x3 0 9 := bd_bl.mpr p4
          have hx : ∀ n, ∃ N, n < m → (N ≤ 30 ∧ L (129 + 2 * t) n = (nI N).toInt64) := fun n => by
            by_cases h : n < m
            · obtain ⟨N, hN⟩ := p3.2 n h
              exact ⟨N, fun _ => hN⟩
            · exact ⟨0, fun g => absurd g h⟩
          obtain ⟨u, hu⟩ := Classical.axiomOfChoice hx
          have hu2 : ∀ n, n < m → u n ≤ 30 ∧ L 162 (12 * t + n) = (nI (u n)).toInt64 := fun n hn => by
            rw [← o6 n (by omega)]; exact hu n hn
          by_cases p5 : c 5 = 12
          · generalize ev : (-1 : Int32) = v
            refine ⟨0, v, I, up2 I 163 3 0, up2 L 164 0 v.toInt64, up2 L 164 0 v.toInt64, Q, Q, ?_, ?_, Inv_o (Inv_t q0), up2_s _ _ _ _, fun _ => up2_s _ _ _ _⟩
            · show F_L_say E (rr w 136) (nI t) x2 x3 (rr w 164) (Hw E w I L Q) = _
              unfold F_L_say F_X11_say F_X11_needLaid F_X0_addListed
              rw [p5] at e5
              simp only [Option.bind_some, Option.map_some, Option.join, cI_r, cL_r, cV_r, xI_r, xL_r, xV_r, xI_t, xL_t, xV_t, lt_r, rtZ_0, rtZ_1, rtZ_zb, o136, f_needTray, nd_t p1, f_needPlace e0 c0', nd_t p2, gf136_8, ga124, ix_n ht (show 4 < 2 ^ 31 by decide), qt, id_eq, ty_0 ht, o1, if_true, ty_o ht, sy, zn_t p3, f_needTeller, nd_t p4, gf136_2, o22, gf22_0, e5, m12, if_neg (nI_nlt (Nat.le_refl 12) (show 12 < 2 ^ 31 by decide)), ev, pa164, ix01]
            · show F_X12_say E (rr w 163) (nI t) x2 x3 _ = _
              unfold F_X12_say
              have s74 := m_say74 (E := E) (w := w) (I := up2 I 163 3 0) (L := up2 L 164 0 v.toInt64) (Q := Q) (t := t) (m := m) hG ht o4' p3.1
              have t5 : (up2 I 163 3 0) 137 5 = nI 12 := by rw [up2_row _ _ (by decide), k5.1, p5]
              simp only [Option.bind_some, Option.map_some, Option.join, cI_r, cL_r, cV_r, xI_r, xL_r, xV_r, xI_t, xL_t, xV_t, lt_r, rtZ_0, rtZ_1, rtZ_zb, pf163_3, o163, f_isTray, zi_t p1, f_isPlace k0' d0', zn_t p2, gf163_37, ga160, ix_n ht (show 4 < 2 ^ 31 by decide), o2', if_pos ne1, gf163_38, ga161, o4', if_neg (fun z => by have := big.mp z; omega), f_wi 9 (by decide) (show (nI 9).toInt64 = 9 by rfl), zn_t p4d, s74]
              rw [if_pos (fun n hn => ⟨u n, by rw [up2_row _ _ (by decide)]; exact hu2 n hn⟩)]
              simp only [Option.bind_some, Option.map_some, Option.join, cI_r, cL_r, cV_r, xI_r, xL_r, xV_r, xI_t, xL_t, xV_t, lt_r, rtZ_0, rtZ_1, rtZ_zb, gf163_0, ga137, show ix 5 2988 = some 5 from rfl, t5, m12, not_true_eq_false, if_false, ev]
          · have hz : c 5 < 12 := by omega
            obtain ⟨C, a1, a2, a3, a4, a5, a6, a7, a8, a9, a10⟩ := c_addListed (E := E) (w := w) (I := I) (L := L) (Q := Q) (t := t) (m := m) (z := c 5) (u := u) (x2 := x2) (x3 := x3) hG ht o5' p3.1 e5 hz hu
            obtain ⟨v, ev⟩ : ∃ v, v = nI (c 5) := ⟨_, rfl⟩
            rw [← ev] at a10
            have rC : ∀ k, 27 ≤ k → C k = I k := fun k hk => a1 k (by omega) (by omega) (by omega) (by omega) (by omega)
            have hc : F_L_say E (rr w 136) (nI t) x2 x3 (rr w 164) (Hw E w I L Q) = rtI 0 (Hw E w C (up2 L 164 0 v.toInt64) Q) := by
              unfold F_L_say F_X11_say F_X11_needLaid
              simp only [Option.bind_some, Option.map_some, Option.join, cI_r, cL_r, cV_r, xI_r, xL_r, xV_r, xI_t, xL_t, xV_t, lt_r, rtZ_0, rtZ_1, rtZ_zb, o136, f_needTray, nd_t p1, f_needPlace e0 c0', nd_t p2, gf136_8, ga124, ix_n ht (show 4 < 2 ^ 31 by decide), qt, id_eq, ty_0 ht, o1, if_true, ty_o ht, sy, zn_t p3, f_needTeller, nd_t p4, gf136_2, o22, a10, pa164, ix01]
            generalize eD : up2 (up2 C 163 3 0) 163 16 0 = D
            have d1 : ∀ k, k ≠ 163 → D k = C k := fun k hk => by rw [← eD, up2_row _ _ hk, up2_row _ _ hk]
            have d16 : D 163 16 = 0 := by rw [← eD, up2_s]
            have d3 : ∀ i, i ≠ 3 → i ≠ 16 → D 163 i = I 163 i := fun i h1 h2 => by rw [← eD, up2_i _ _ _ h2, up2_i _ _ _ h1, rC 163 (by decide)]
            have d33 : D 163 3 = 0 := by rw [← eD, up2_i _ _ _ (by decide), up2_s]
            obtain ⟨M, m1', m2', m3'⟩ := m_say140 (E := E) (w := w) (I := D) (L := up2 L 164 0 v.toInt64) (Q := Q) (t := t) (m := m) (u := u) hG ht (by rw [d1 161 (by decide), rC 161 (by decide)]; exact o4) p3.1 d16 (fun n hn => by rw [up2_row _ _ (by decide)]; exact hu2 n hn)
            have M5 : M 137 5 = nI (c 5) := by rw [m1' 137 (by decide), d1 137 (by decide), rC 137 (by decide)]; exact k5.1
            obtain ⟨K, b1, b2, b3, b4, b5, b6, b7, b8, b9, b10⟩ := m_keeps (E := E) (w := w) (I := M) (L := up2 L 164 0 v.toInt64) (Q := Q) (z := c 5) (x1 := x2) (x2 := x3) (x3 := nI m) hG M5 hz
            have rK : ∀ k, k ≠ 137 → k ≠ 145 → k ≠ 163 → K k = C k := fun k h1 h2 h3 => by rw [b1 k h1 h2 h3, m1' k h2, d1 k h3]
            rw [← ev] at b10
            refine ⟨0, v, C, K, up2 L 164 0 v.toInt64, up2 L 164 0 v.toInt64, Q, Q, hc, ?_, ?_, ?_, fun _ => up2_s _ _ _ _⟩
            · show F_X12_say E (rr w 163) (nI t) x2 x3 _ = _
              unfold F_X12_say
              have C3 : ∀ k, 27 ≤ k → k ≠ 163 → (up2 C 163 3 0) k = I k := fun k h1 h2 => by rw [up2_row _ _ h2, rC k h1]
              have s74 := m_say74 (E := E) (w := w) (I := up2 C 163 3 0) (L := up2 L 164 0 v.toInt64) (Q := Q) (t := t) (m := m) hG ht (by rw [C3 161 (by decide) (by decide)]; exact o4) p3.1
              have t0 : (up2 C 163 3 0) 137 0 = nI (c 0) := by rw [C3 137 (by decide) (by decide)]; exact k0.1
              have t5 : (up2 C 163 3 0) 137 5 = nI (c 5) := by rw [C3 137 (by decide) (by decide)]; exact k5.1
              have t160 : (up2 C 163 3 0) 160 t = nI κ := by rw [C3 160 (by decide) (by decide)]; exact o2
              have t161 : (up2 C 163 3 0) 161 t = nI m := by rw [C3 161 (by decide) (by decide)]; exact o4
              have M161 : M 161 t = nI m := by rw [m1' 161 (by decide), d1 161 (by decide), rC 161 (by decide)]; exact o4
              have n12' : ¬ nI (c 5) = (12 : Int32) := fun e => p5 ((nI_eq (by omega) (show 12 < 2 ^ 31 by decide)).mp e)
              simp only [Option.bind_some, Option.map_some, Option.join, cI_r, cL_r, cV_r, xI_r, xL_r, xV_r, xI_t, xL_t, xV_t, lt_r, rtZ_0, rtZ_1, rtZ_zb, pf163_3, o163, f_isTray, zi_t p1, f_isPlace t0 d0', zn_t p2, gf163_37, ga160, ix_n ht (show 4 < 2 ^ 31 by decide), t160, if_pos ne1, gf163_38, ga161, t161, if_neg (fun z => by have := big.mp z; omega), f_wi 9 (by decide) (show (nI 9).toInt64 = 9 by rfl), zn_t p4d, s74]
              rw [if_pos (fun n hn => ⟨u n, by rw [up2_row _ _ (by decide)]; exact hu2 n hn⟩)]
              simp only [Option.bind_some, Option.map_some, Option.join, cI_r, cL_r, cV_r, xI_r, xL_r, xV_r, xI_t, xL_t, xV_t, lt_r, rtZ_0, rtZ_1, rtZ_zb, gf163_0, ga137, show ix 5 2988 = some 5 from rfl, t5, if_pos n12', pf163_16, eD, m3', gf163_38, ga161, ix_n ht (show 4 < 2 ^ 31 by decide), M161, o163, b10]
            · refine inv_tell (z := c 5) q0 q1 q2 q3 q4 q5 rfl hz (fun k hk => by rw [rK k (by omega) (by omega) (by omega), rC k (by omega)]) (fun i hi => by rw [b2 i (by omega), m1' 163 (by decide), d3 i (by omega) (by omega)]) b3 (fun k hk => up2_row _ _ hk) (fun i h1 h2 => by rw [b5 i h1 h2, m1' 137 (by decide), d1 137 (by decide), rC 137 (by decide)]) b4 (fun k h0 h1 h2 h3 h4 h5 => by rw [rK k (by omega) (by omega) (by omega), a1 k h5 h1 h2 h3 h4]) (fun f hf => by rw [rK 22 (by decide) (by decide) (by decide), a2 f hf]) (by rw [rK 22 (by decide) (by decide) (by decide)]; exact a3) (fun x hx => by rw [rK 23 (by decide) (by decide) (by decide), rK 24 (by decide) (by decide) (by decide), rK 25 (by decide) (by decide) (by decide)]; exact a4 x hx) (fun x hx => by rw [rK 26 (by decide) (by decide) (by decide)]; exact a8 x hx) ?_ ?_
              · have rw1 : ∀ j, j < m → K 137 (765 + 173 * c 5 + j) = 1 := fun j hj => by
                  have := b9 (3 + j) (by omega) (by omega)
                  rw [show 762 + 173 * c 5 + (3 + j) = 765 + 173 * c 5 + j by omega] at this
                  rw [this]; exact (m2' j hj).1
                refine ⟨by rw [b6]; exact p2, by rw [b7]; exact p4, by rw [b8]; exact ⟨m, rfl, by omega, p3.1⟩, fun j hj hj2 => ?_⟩
                rw [b8] at hj
                have hjm : j < m := (nI_ltI (by omega) (by omega)).mp hj
                refine ⟨by rw [rw1 j hjm]; exact ⟨1, rfl, by omega, by omega⟩, fun i hi hl => ?_⟩
                rw [rw1 j hjm] at hl
                have i0 : i = 0 := by have := (nI_ltI (a := i) (b := 1) (by omega) (by decide)).mp hl; omega
                subst i0
                have w0 := b9 (13 + 16 * j) (by omega) (by omega)
                have w1 := b9 (14 + 16 * j) (by omega) (by omega)
                have w2 := b9 (15 + 16 * j) (by omega) (by omega)
                rw [show 762 + 173 * c 5 + (13 + 16 * j) = 775 + 173 * c 5 + 16 * j + 4 * 0 by omega] at w0
                rw [show 762 + 173 * c 5 + (14 + 16 * j) = 776 + 173 * c 5 + 16 * j + 4 * 0 by omega] at w1
                rw [show 762 + 173 * c 5 + (15 + 16 * j) = 777 + 173 * c 5 + 16 * j + 4 * 0 by omega] at w2
                obtain ⟨-, v0, v1, v2⟩ := m2' j hjm
                rw [w0, w1, w2, v0, v1, v2]
                exact lw_wf (hu j hjm).1
              · have rw1 : ∀ j, j < m → K 137 (765 + 173 * c 5 + j) = 1 := fun j hj => by
                  have := b9 (3 + j) (by omega) (by omega)
                  rw [show 762 + 173 * c 5 + (3 + j) = 765 + 173 * c 5 + j by omega] at this
                  rw [this]; exact (m2' j hj).1
                refine ⟨?_, ?_, ?_, fun j hj2 hj i hi => ?_⟩
                · show K 23 (c 5) = _
                  rw [rK 23 (by decide) (by decide) (by decide), a5, b6]
                · show K 24 (c 5) = _
                  rw [rK 24 (by decide) (by decide) (by decide), a6, b7]
                · show K 25 (c 5) = _
                  rw [rK 25 (by decide) (by decide) (by decide), a7, b8]
                · rw [b8] at hj
                  have hjm : j < m := (nI_ltI (by omega) (by omega)).mp hj
                  show (nI i < K 137 (765 + 173 * c 5 + j) → K 26 (40 * c 5 + 4 * j + i) = _) ∧ (¬ nI i < K 137 (765 + 173 * c 5 + j) → K 26 (40 * c 5 + 4 * j + i) = 0)
                  rw [rw1 j hjm, rK 26 (by decide) (by decide) (by decide)]
                  by_cases i0 : i = 0
                  · subst i0
                    have w0 := b9 (13 + 16 * j) (by omega) (by omega)
                    have w1 := b9 (14 + 16 * j) (by omega) (by omega)
                    have w2 := b9 (15 + 16 * j) (by omega) (by omega)
                    rw [show 762 + 173 * c 5 + (13 + 16 * j) = 775 + 173 * c 5 + 16 * j + 4 * 0 by omega] at w0
                    rw [show 762 + 173 * c 5 + (14 + 16 * j) = 776 + 173 * c 5 + 16 * j + 4 * 0 by omega] at w1
                    rw [show 762 + 173 * c 5 + (15 + 16 * j) = 777 + 173 * c 5 + 16 * j + 4 * 0 by omega] at w2
                    obtain ⟨-, v0, v1, v2⟩ := m2' j hjm
                    refine ⟨fun _ => ?_, fun z => absurd (show nI 0 < (1 : Int32) by decide) z⟩
                    rw [w0, w1, w2, v0, v1, v2]
                    exact (a9 j hjm).1
                  · refine ⟨fun z => absurd ((nI_ltI (a := i) (b := 1) (by omega) (by decide)).mp z) (by omega), fun _ => (a9 j hjm).2 i (by omega) hi⟩
            · rw [b2 3 (by decide), m1' 163 (by decide)]; exact d33
        · refine OpI_no (k := 3) (b := 0) q0 (by decide) ?_ ?_
          · show F_L_say E (rr w 136) (nI t) x2 x3 (rr w 164) (Hw E w I L Q) = _
            unfold F_L_say F_X11_say F_X11_needLaid
            by_cases c1 : (m ≤ 10 ∧ ∀ n, n < m → ∃ N, N ≤ 30 ∧ L (129 + 2 * t) n = (nI N).toInt64)
            · have c2 : ¬ bl x3 10 := fun z => p3 ⟨c1, z⟩
              simp only [Option.bind_some, Option.map_some, Option.join, cI_r, cL_r, cV_r, xI_r, xL_r, xV_r, xI_t, xL_t, xV_t, lt_r, rtZ_0, rtZ_1, rtZ_zb, o136, f_needTray, nd_t p1, f_needPlace e0 c0', nd_t p2, gf136_8, ga124, ix_n ht (show 4 < 2 ^ 31 by decide), qt, id_eq, ty_0 ht, o1, if_true, ty_o ht, sy, zn_t c1, f_needTeller, nd_f c2]
            · simp only [Option.bind_some, Option.map_some, Option.join, cI_r, cL_r, cV_r, xI_r, xL_r, xV_r, xI_t, xL_t, xV_t, lt_r, rtZ_0, rtZ_1, rtZ_zb, o136, f_needTray, nd_t p1, f_needPlace e0 c0', nd_t p2, gf136_8, ga124, ix_n ht (show 4 < 2 ^ 31 by decide), qt, id_eq, ty_0 ht, o1, if_true, ty_o ht, sy, zn_f c1]
          · show F_X12_say E (rr w 163) (nI t) x2 x3 _ = _
            unfold F_X12_say
            by_cases c3 : 10 < m
            · simp only [Option.bind_some, Option.map_some, Option.join, cI_r, cL_r, cV_r, xI_r, xL_r, xV_r, xI_t, xL_t, xV_t, lt_r, rtZ_0, rtZ_1, rtZ_zb, pf163_3, o163, f_isTray, zi_t p1, f_isPlace k0' d0', zn_t p2, gf163_37, ga160, ix_n ht (show 4 < 2 ^ 31 by decide), o2', if_pos ne1, gf163_38, ga161, o4', if_pos (big.mpr c3), f_fails]
            · by_cases c4 : bd x3 0 9
              · have s74 := m_say74 (E := E) (w := w) (I := up2 I 163 3 0) (L := L) (Q := Q) (t := t) (m := m) hG ht o4' (by omega)
                simp only [Option.bind_some, Option.map_some, Option.join, cI_r, cL_r, cV_r, xI_r, xL_r, xV_r, xI_t, xL_t, xV_t, lt_r, rtZ_0, rtZ_1, rtZ_zb, pf163_3, o163, f_isTray, zi_t p1, f_isPlace k0' d0', zn_t p2, gf163_37, ga160, ix_n ht (show 4 < 2 ^ 31 by decide), o2', if_pos ne1, gf163_38, ga161, o4', if_neg (fun z => c3 (big.mp z)), f_wi 9 (by decide) (show (nI 9).toInt64 = 9 by rfl), zn_t c4, s74]
                rw [if_neg (fun z => p3 ⟨⟨by omega, fun n hn => by rw [o6 n (by omega)]; exact z n hn⟩, bd_bl.mp c4⟩)]
              · simp only [Option.bind_some, Option.map_some, Option.join, cI_r, cL_r, cV_r, xI_r, xL_r, xV_r, xI_t, xL_t, xV_t, lt_r, rtZ_0, rtZ_1, rtZ_zb, pf163_3, o163, f_isTray, zi_t p1, f_isPlace k0' d0', zn_t p2, gf163_37, ga160, ix_n ht (show 4 < 2 ^ 31 by decide), o2', if_pos ne1, gf163_38, ga161, o4', if_neg (fun z => c3 (big.mp z)), f_wi 9 (by decide) (show (nI 9).toInt64 = 9 by rfl), zn_f c4, f_fails]
    · refine OpI_no (k := 1) (b := 0) q0 (by decide) ?_ ?_
      · show F_L_say E (rr w 136) x1 x2 x3 (rr w 164) (Hw E w I L Q) = _
        unfold F_L_say F_X11_say
        simp only [Option.bind_some, Option.map_some, Option.join, cI_r, cL_r, cV_r, xI_r, xL_r, xV_r, xI_t, xL_t, xV_t, lt_r, rtZ_0, rtZ_1, rtZ_zb, o136, f_needTray, nd_t p1, f_needPlace e0 c0', nd_f p2, String.reduceEq, if_false, if_true]
      · show F_X12_say E (rr w 163) x1 x2 x3 _ = _
        unfold F_X12_say
        simp only [Option.bind_some, Option.map_some, Option.join, cI_r, cL_r, cV_r, xI_r, xL_r, xV_r, xI_t, xL_t, xV_t, lt_r, rtZ_0, rtZ_1, rtZ_zb, pf163_3, o163, f_isTray, zi_t p1, f_isPlace k0' d0', zn_f p2, f_fails]
  · refine OpI_no (k := 1) (b := 0) q0 (by decide) ?_ ?_
    · show F_L_say E (rr w 136) x1 x2 x3 (rr w 164) (Hw E w I L Q) = _
      unfold F_L_say F_X11_say
      simp only [Option.bind_some, Option.map_some, Option.join, cI_r, cL_r, cV_r, xI_r, xL_r, xV_r, xI_t, xL_t, xV_t, lt_r, rtZ_0, rtZ_1, rtZ_zb, o136, f_needTray, nd_f p1, String.reduceEq, if_false, if_true]
    · show F_X12_say E (rr w 163) x1 x2 x3 _ = _
      unfold F_X12_say
      simp only [Option.bind_some, Option.map_some, Option.join, cI_r, cL_r, cV_r, xI_r, xL_r, xV_r, xI_t, xL_t, xV_t, lt_r, rtZ_0, rtZ_1, rtZ_zb, pf163_3, o163, f_isTray, zi_f p1, f_fails]
end
