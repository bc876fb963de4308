/-! feed -/
def cbB (x : Int32) (r : Nat) : Int32 := (x >>> (nI (24 - 8 * r) &&& 31)).toInt8.toInt32
def mbB (x : Int32) (r : Nat) : Int32 := (x.toUInt32 >>> (((24 : Int32) - (8 : Int32) * nI r).toUInt32 &&& Int32.toUInt32 31)).toInt32 &&& 255
theorem bd255 (v : Int32) : bd (v &&& 255) 0 255 := by
  obtain ⟨n, hn, rfl⟩ := wb_of32 v
  exact ⟨n % 2 ^ 8, pk_andN hn 8 (by decide), by omega, by omega⟩
theorem fb8 {x sI : Int32} {sU : UInt32} {s : Nat} (hs : s ≤ 24) (h1 : (sI.toBitVec.smod 32).toNat = s) (h2 : (sU.toBitVec % 32).toNat = s) : (x >>> sI).toInt8 = ((x.toUInt32 >>> sU).toInt32 &&& 255).toInt8 := by
  apply Int8.toBitVec_inj.mp
  rw [Int32.toBitVec_toInt8, Int32.toBitVec_toInt8]
  apply BitVec.eq_of_getLsbD_eq
  intro i hi
  have e255 : (255 : Int32).toBitVec.getLsbD i = true := by
    have : ∀ i, i < 8 → (255 : Int32).toBitVec.getLsbD i = true := by decide
    exact this i hi
  rw [BitVec.getLsbD_signExtend, BitVec.getLsbD_signExtend, shr32 x sI h1 (by omega), Int32.toBitVec_and, BitVec.getLsbD_and, e255, Bool.and_true]
  show _ = (decide (i < 8) && if i < 32 then (x.toUInt32 >>> sU).toBitVec.getLsbD i else _)
  rw [UInt32.toBitVec_shiftRight]
  rw [if_pos (by omega), if_pos (by omega)]
  show _ = (decide (i < 8) && (x.toUInt32.toBitVec >>> (sU.toBitVec % 32).toNat).getLsbD i)
  rw [h2, BitVec.getLsbD_ushiftRight]
  rfl
theorem byt {x : Int32} {r : Nat} (hr : r < 4) : cbB x r = (mbB x r).toInt8.toInt32 := by
  unfold cbB mbB
  have : r = 0 ∨ r = 1 ∨ r = 2 ∨ r = 3 := by omega
  rcases this with rfl | rfl | rfl | rfl
  · exact congrArg Int8.toInt32 (fb8 (s := 24) (by omega) (by decide) (by decide))
  · exact congrArg Int8.toInt32 (fb8 (s := 16) (by omega) (by decide) (by decide))
  · exact congrArg Int8.toInt32 (fb8 (s := 8) (by omega) (by decide) (by decide))
  · exact congrArg Int8.toInt32 (fb8 (s := 0) (by omega) (by decide) (by decide))
theorem nar_b (x : Int32) : vp_nar .byte (x.toInt8.toInt32) = x.toInt8.toInt32 := by
  show (x.toInt8.toInt32).toInt8.toInt32 = _
  rw [Int8.toInt8_toInt32]
section
variable {E : Ev} {w : Wo} {I : Nat → Nat → Int32} {L : Nat → Nat → Int64} {Q : Nat → Nat → Option Nat} {c : Nat → Nat} {x y : Int32}
def Fed (I I' : Nat → Nat → Int32) (n m : Nat) (f : Nat → Int32) : Prop := (∀ k, k ≠ 121 → k ≠ 122 → I' k = I k) ∧ (∀ j, j ≠ 1 → I' 121 j = I 121 j) ∧ I' 121 1 = nI (n + m) ∧ (∀ i, i < n → I' 122 i = I 122 i) ∧ ∀ i, i < m → I' 122 (n + i) = f i
theorem c_put {n : Nat} (hG : 100000 ≤ E.2.2.1) (e1 : I 121 1 = nI n) (hn : n + 4 ≤ 200) : ∃ I', Fed I I' n 4 (cbB x) ∧ F_X5_put E (rr w 121) x (Hw E w I L Q) = rtV (Hw E w I' L Q) := by
  have st : ∀ (g r : Nat) (I1 : Nat → Nat → Int32), r < 4 → I1 121 1 = nI (n + r) → L_X5_put_3 E (rr w 121) x (g + 1) (nI (24 - 8 * r)) (Hw E w I1 L Q) = L_X5_put_3 E (rr w 121) x g (nI (24 - 8 * r) + -8) (Hw E w (up2 (up2 I1 122 (n + r) (cbB x r)) 121 1 (nI (n + r + 1))) L Q) := by
    intro g r I1 hr er
    have er2 : (up2 I1 122 (n + r) (cbB x r)) 121 1 = nI (n + r) := by rw [up2_row _ _ (by decide)]; exact er
    rw [L_X5_put_3, if_neg (nI_pos (by omega)), m200]
    simp (disch := omega) only [Option.bind_some, Option.map_some, Option.join, cI_r, cL_r, cV_r, xI_r, xL_r, xV_r, xI_t, xL_t, xV_t, lt_r, rtZ_0, rtZ_1, rtZ_zb, gf121_0, gf121_1, er, if_neg (nI_ge (show n + r < 200 by omega) (show 200 < 2 ^ 31 by decide)), pa122, ix_n, nar_b]
    rw [show (x >>> (nI (24 - 8 * r) &&& 31)).toInt8.toInt32 = cbB x r from rfl]
    simp (disch := omega) only [Option.bind_some, Option.map_some, Option.join, cI_r, cL_r, cV_r, xI_r, xL_r, xV_r, xI_t, xL_t, xV_t, lt_r, rtZ_0, rtZ_1, rtZ_zb, gf121_1, er2, pf121_1, nI_1]
  obtain ⟨G, hGG⟩ : ∃ G, E.2.2.1 = G + 1 + 1 + 1 + 1 + 1 := ⟨E.2.2.1 - 5, by omega⟩
  generalize eI1 : up2 (up2 I 122 (n + 0) (cbB x 0)) 121 1 (nI (n + 0 + 1)) = I1
  generalize eI2 : up2 (up2 I1 122 (n + 1) (cbB x 1)) 121 1 (nI (n + 1 + 1)) = I2
  generalize eI3 : up2 (up2 I2 122 (n + 2) (cbB x 2)) 121 1 (nI (n + 2 + 1)) = I3
  generalize eI4 : up2 (up2 I3 122 (n + 3) (cbB x 3)) 121 1 (nI (n + 3 + 1)) = I4
  have s0 := st (G + 1 + 1 + 1 + 1) 0 I (by decide) (by rw [e1]; rfl)
  have s1 := st (G + 1 + 1 + 1) 1 I1 (by decide) (by rw [← eI1, up2_s])
  have s2 := st (G + 1 + 1) 2 I2 (by decide) (by rw [← eI2, up2_s])
  have s3 := st (G + 1) 3 I3 (by decide) (by rw [← eI3, up2_s])
  rw [eI1] at s0
  rw [eI2] at s1
  rw [eI3] at s2
  rw [eI4] at s3
  have ro : ∀ (J J' : Nat → Nat → Int32) (r : Nat), up2 (up2 J 122 (n + r) (cbB x r)) 121 1 (nI (n + r + 1)) = J' → (∀ k, k ≠ 121 → k ≠ 122 → J' k = J k) ∧ (∀ j, j ≠ 1 → J' 121 j = J 121 j) ∧ J' 121 1 = nI (n + r + 1) ∧ (∀ i, i ≠ n + r → J' 122 i = J 122 i) ∧ J' 122 (n + r) = cbB x r := by
    intro J J' r e
    subst e
    refine ⟨fun k h1 h2 => by rw [up2_row _ _ h1, up2_row _ _ h2], fun j hj => by rw [up2_i _ _ _ hj, up2_row _ _ (by decide)], up2_s _ _ _ _, fun i hi => by rw [up2_row _ _ (by decide), up2_i _ _ _ hi], by rw [up2_row _ _ (by decide), up2_s]⟩
  have r0 := ro _ _ 0 eI1
  have r1 := ro _ _ 1 eI2
  have r2 := ro _ _ 2 eI3
  have r3 := ro _ _ 3 eI4
  refine ⟨I4, ⟨fun k h1 h2 => by rw [r3.1 k h1 h2, r2.1 k h1 h2, r1.1 k h1 h2, r0.1 k h1 h2], fun j hj => by rw [r3.2.1 j hj, r2.2.1 j hj, r1.2.1 j hj, r0.2.1 j hj], r3.2.2.1, fun i hi => by rw [r3.2.2.2.1 i (by omega), r2.2.2.2.1 i (by omega), r1.2.2.2.1 i (by omega), r0.2.2.2.1 i (by omega)], fun i hi => ?_⟩, ?_⟩
  · have : i = 0 ∨ i = 1 ∨ i = 2 ∨ i = 3 := by omega
    rcases this with rfl | rfl | rfl | rfl
    · rw [r3.2.2.2.1 _ (by omega), r2.2.2.2.1 _ (by omega), r1.2.2.2.1 _ (by omega)]; exact r0.2.2.2.2
    · rw [r3.2.2.2.1 _ (by omega), r2.2.2.2.1 _ (by omega)]; exact r1.2.2.2.2
    · rw [r3.2.2.2.1 _ (by omega)]; exact r2.2.2.2.2
    · exact r3.2.2.2.2
  · unfold F_X5_put
    rw [hGG]
    rw [show L_X5_put_3 E (rr w 121) x (G + 1 + 1 + 1 + 1 + 1) 24 (Hw E w I L Q) = _ from s0]
    rw [show L_X5_put_3 E (rr w 121) x (G + 1 + 1 + 1 + 1) (nI (24 - 8 * 0) + -8) (Hw E w I1 L Q) = _ from s1]
    rw [show L_X5_put_3 E (rr w 121) x (G + 1 + 1 + 1) (nI (24 - 8 * 1) + -8) (Hw E w I2 L Q) = _ from s2]
    rw [show L_X5_put_3 E (rr w 121) x (G + 1 + 1) (nI (24 - 8 * 2) + -8) (Hw E w I3 L Q) = _ from s3]
    rw [L_X5_put_3, if_pos (by decide)]
theorem Fed.tr {I1 I2 : Nat → Nat → Int32} {n m k : Nat} {f g : Nat → Int32} (h1 : Fed I I1 n m f) (h2 : Fed I1 I2 (n + m) k g) : Fed I I2 n (m + k) (fun i => if i < m then f i else g (i - m)) := by
  refine ⟨fun k a b => (h2.1 k a b).trans (h1.1 k a b), fun j a => (h2.2.1 j a).trans (h1.2.1 j a), by rw [h2.2.2.1]; congr 1; omega, fun i hi => (h2.2.2.2.1 i (by omega)).trans (h1.2.2.2.1 i hi), fun i hi => ?_⟩
  dsimp only
  by_cases e : i < m
  · rw [if_pos e, h2.2.2.2.1 (n + i) (by omega)]; exact h1.2.2.2.2 i e
  · rw [if_neg e]
    have := h2.2.2.2.2 (i - m) (by omega)
    rw [show n + m + (i - m) = n + i by omega] at this
    exact this
def sel5 (x1 x2 x3 x4 x5 : Int32) (j : Nat) : Int32 := match j with | 0 => x1 | 1 => x2 | 2 => x3 | 3 => x4 | _ => x5
theorem m_feed23 {n : Nat} {x1 x2 x3 x4 x5 : Int32} (hG : 100000 ≤ E.2.2.1) (e1 : I 163 10 = nI n) (hn : n + 20 ≤ 200) : ∃ I', (∀ k, k ≠ 144 → k ≠ 163 → I' k = I k) ∧ (∀ j, j ≠ 10 → I' 163 j = I 163 j) ∧ I' 163 10 = nI (n + 20) ∧ (∀ i, i < n → I' 144 i = I 144 i) ∧ (∀ i, i < 20 → I' 144 (n + i) = mbB (sel5 x1 x2 x3 x4 x5 (i / 4)) (i % 4)) ∧ L_X12_feed_23 E (rr w 163) x1 x2 x3 x4 x5 E.2.2.1 0 (Hw E w I L Q) = rtI (nI (n + 20)) (Hw E w I' L Q) := by
  refine lpK2 (σ := Nat → Nat → Int32) (Lp := fun g i s => L_X12_feed_23 E (rr w 163) x1 x2 x3 x4 x5 g (nI i) (Hw E w s L Q)) (K := fun s => rtI (nI (n + 20)) (Hw E w s L Q)) (Iv := fun m s => (∀ k, k ≠ 144 → k ≠ 163 → s k = I k) ∧ (∀ j, j ≠ 10 → s 163 j = I 163 j) ∧ s 163 10 = nI (n + m) ∧ (∀ i, i < n → s 144 i = I 144 i) ∧ ∀ i, i < m → s 144 (n + i) = mbB (sel5 x1 x2 x3 x4 x5 (i / 4)) (i % 4)) (N := 20) (g := E.2.2.1) (i := 0) (s := I) ?_ ?_ ?_ (by omega) (by omega) ⟨fun _ _ _ => rfl, fun _ _ => rfl, e1, fun _ _ => rfl, fun i hi => absurd hi (by omega)⟩
  · rintro I1 ⟨z1, z2, z3, z4, z5⟩ ee
    exact ⟨I1, z1, z2, z3, z4, z5, ee⟩
  · rintro g i I1 hi ⟨z1, z2, z3, z4, z5⟩
    generalize ev : mbB (sel5 x1 x2 x3 x4 x5 (i / 4)) (i % 4) = v
    refine ⟨up2 (up2 I1 144 (n + i) v) 163 10 (nI (n + i + 1)), ⟨fun k a b => by rw [up2_row _ _ b, up2_row _ _ a]; exact z1 k a b, fun j a => by rw [up2_i _ _ _ a, up2_row _ _ (by decide)]; exact z2 j a, by rw [up2_s]; rfl, fun j a => by rw [up2_row _ _ (by decide), up2_i _ _ _ (by omega)]; exact z4 j a, fun j a => ?_⟩, ?_⟩
    · rw [up2_row _ _ (by decide)]
      by_cases e : j = i
      · subst e; rw [up2_s, ev]
      · rw [up2_i _ _ _ (by omega)]; exact z5 j (by omega)
    · show L_X12_feed_23 E (rr w 163) x1 x2 x3 x4 x5 (g + 1) (nI i) (Hw E w I1 L Q) = _
      have z3' : (up2 I1 144 (n + i) v) 163 10 = nI (n + i) := by rw [up2_row _ _ (by decide)]; exact z3
      have J : ∀ t0 : Int32, mbB t0 (i % 4) = v → J_X12_feed_76 E (fun w1 h3 => L_X12_feed_23 E (rr w 163) x1 x2 x3 x4 x5 g w1 h3) (rr w 163) x1 x2 x3 x4 x5 (nI i) t0 (Hw E w I1 L Q) = L_X12_feed_23 E (rr w 163) x1 x2 x3 x4 x5 g (nI (i + 1)) (Hw E w (up2 (up2 I1 144 (n + i) v) 163 10 (nI (n + i + 1))) L Q) := by
        intro t0 et
        have a3 : nI i &&& 3 = nI (i % 4) := pk_andN (by omega) 2 (by decide)
        unfold J_X12_feed_76
        rw [a3, show (t0.toUInt32 >>> (((24 : Int32) - (8 : Int32) * nI (i % 4)).toUInt32 &&& Int32.toUInt32 31)).toInt32 &&& 255 = v from et]
        simp (disch := omega) only [Option.bind_some, Option.map_some, Option.join, cI_r, cL_r, cV_r, xI_r, xL_r, xV_r, xI_t, xL_t, xV_t, lt_r, rtZ_0, rtZ_1, rtZ_zb, gf163_9, gf163_10, z3, pa144, ix_n, z3', pf163_10, nI_1]
      rw [L_X12_feed_23]
      simp (disch := omega) only [m20, m4, m8, m12, m16, nI_leI, if_neg]
      by_cases c1 : 4 ≤ i
      · rw [if_pos c1]
        by_cases c2 : 8 ≤ i
        · rw [if_pos c2]
          by_cases c3 : 12 ≤ i
          · rw [if_pos c3]
            by_cases c4 : 16 ≤ i
            · rw [if_pos c4]
              exact J x5 (by rw [← ev, show i / 4 = 4 by omega]; rfl)
            · rw [if_neg c4]
              exact J x4 (by rw [← ev, show i / 4 = 3 by omega]; rfl)
          · rw [if_neg c3]
            exact J x3 (by rw [← ev, show i / 4 = 2 by omega]; rfl)
        · rw [if_neg c2]
          exact J x2 (by rw [← ev, show i / 4 = 1 by omega]; rfl)
      · rw [if_neg c1]
        exact J x1 (by rw [← ev, show i / 4 = 0 by omega]; rfl)
  · rintro g I1 ⟨z1, z2, z3, z4, z5⟩
    show L_X12_feed_23 E (rr w 163) x1 x2 x3 x4 x5 (g + 1) (nI 20) (Hw E w I1 L Q) = _
    rw [L_X12_feed_23]
    simp (disch := omega) only [Option.bind_some, Option.map_some, Option.join, cI_r, cL_r, cV_r, xI_r, xL_r, xV_r, xI_t, xL_t, xV_t, lt_r, rtZ_0, rtZ_1, rtZ_zb, m20, nI_leI, if_pos, gf163_10, z3]
theorem op_feed (hG : 100000 ≤ E.2.2.1) (q : Inv w I L Q) (x1 x2 x3 x4 x5 : Int32) : OpD E w (fun h => F_X11_feed E (rr w 136) x1 x2 x3 x4 x5 h) (fun h => F_X12_feed E (rr w 163) x1 x2 x3 x4 x5 h) I L Q := by
  have q0 := q
  obtain ⟨c, q1, q2, q3, q4, q5, q6, q7, q8, q9, q10, q11, q12, q13⟩ := q
  obtain ⟨⟨n, n1, n2, n3, n4⟩, n5, n6⟩ := q11
  by_cases p : n + 20 ≤ 200
  · obtain ⟨J1, a1, b1⟩ := c_put (E := E) (w := w) (I := I) (L := L) (Q := Q) (x := x1) hG n1 (by omega)
    obtain ⟨J2, a2, b2⟩ := c_put (E := E) (w := w) (I := J1) (L := L) (Q := Q) (x := x2) hG a1.2.2.1 (by omega)
    obtain ⟨J3, a3, b3⟩ := c_put (E := E) (w := w) (I := J2) (L := L) (Q := Q) (x := x3) hG a2.2.2.1 (by omega)
    obtain ⟨J4, a4, b4⟩ := c_put (E := E) (w := w) (I := J3) (L := L) (Q := Q) (x := x4) hG a3.2.2.1 (by omega)
    obtain ⟨J5, a5, b5⟩ := c_put (E := E) (w := w) (I := J4) (L := L) (Q := Q) (x := x5) hG a4.2.2.1 (by omega)
    have e20 : J5 121 1 = nI (n + 20) := a5.2.2.1
    have fk : ∀ k, k ≠ 121 → k ≠ 122 → J5 k = I k := fun k g1 g2 => by rw [a5.1 k g1 g2, a4.1 k g1 g2, a3.1 k g1 g2, a2.1 k g1 g2, a1.1 k g1 g2]
    have fj : ∀ j, j ≠ 1 → J5 121 j = I 121 j := fun j g1 => by rw [a5.2.1 j g1, a4.2.1 j g1, a3.2.1 j g1, a2.2.1 j g1, a1.2.1 j g1]
    have fo : ∀ i, i < n → J5 122 i = I 122 i := fun i hi => by rw [a5.2.2.2.1 i (by omega), a4.2.2.2.1 i (by omega), a3.2.2.2.1 i (by omega), a2.2.2.2.1 i (by omega), a1.2.2.2.1 i hi]
    have fn : ∀ i, i < 20 → J5 122 (n + i) = cbB (sel5 x1 x2 x3 x4 x5 (i / 4)) (i % 4) := by
      intro i hi
      by_cases c1 : i < 4
      · rw [a5.2.2.2.1 _ (by omega), a4.2.2.2.1 _ (by omega), a3.2.2.2.1 _ (by omega), a2.2.2.2.1 _ (by omega), a1.2.2.2.2 i c1, show i / 4 = 0 by omega, show i % 4 = i by omega]; rfl
      · by_cases c2 : i < 8
        · rw [a5.2.2.2.1 _ (by omega), a4.2.2.2.1 _ (by omega), a3.2.2.2.1 _ (by omega)]
          have := a2.2.2.2.2 (i - 4) (by omega)
          rw [show n + 4 + (i - 4) = n + i by omega] at this
          rw [this, show i / 4 = 1 by omega, show i % 4 = i - 4 by omega]; rfl
        · by_cases c3 : i < 12
          · rw [a5.2.2.2.1 _ (by omega), a4.2.2.2.1 _ (by omega)]
            have := a3.2.2.2.2 (i - 8) (by omega)
            rw [show n + 4 + 4 + (i - 8) = n + i by omega] at this
            rw [this, show i / 4 = 2 by omega, show i % 4 = i - 8 by omega]; rfl
          · by_cases c4 : i < 16
            · rw [a5.2.2.2.1 _ (by omega)]
              have := a4.2.2.2.2 (i - 12) (by omega)
              rw [show n + 4 + 4 + 4 + (i - 12) = n + i by omega] at this
              rw [this, show i / 4 = 3 by omega, show i % 4 = i - 12 by omega]; rfl
            · have := a5.2.2.2.2 (i - 16) (by omega)
              rw [show n + 4 + 4 + 4 + 4 + (i - 16) = n + i by omega] at this
              rw [this, show i / 4 = 4 by omega, show i % 4 = i - 16 by omega]; rfl
    have e10 : (up2 J5 163 3 0) 163 10 = nI n := by rw [up2_i _ _ _ (by decide), fk 163 (by decide) (by decide)]; exact n2
    obtain ⟨M, d1, d2, d3, d4, d5, d6⟩ := m_feed23 (E := E) (w := w) (I := up2 J5 163 3 0) (L := L) (Q := Q) (x1 := x1) (x2 := x2) (x3 := x3) (x4 := x4) (x5 := x5) hG e10 p
    refine ⟨nI (n + 20), J5, M, L, L, Q, Q, ?_, ?_, ?_⟩
    · show F_X11_feed E (rr w 136) x1 x2 x3 x4 x5 (Hw E w I L Q) = _
      unfold F_X11_feed
      simp (disch := omega) only [Option.bind_some, Option.map_some, Option.join, cI_r, cL_r, cV_r, xI_r, xL_r, xV_r, xI_t, xL_t, xV_t, lt_r, rtZ_0, rtZ_1, rtZ_zb, gf136_7, gf121_1, n1, m20, m200, nI_add, nI_leI, if_pos, o121, b1, b2, b3, b4, b5, e20]
    · show F_X12_feed E (rr w 163) x1 x2 x3 x4 x5 (Hw E w J5 L Q) = _
      unfold F_X12_feed
      simp (disch := omega) only [Option.bind_some, Option.map_some, Option.join, cI_r, cL_r, cV_r, xI_r, xL_r, xV_r, xI_t, xL_t, xV_t, lt_r, rtZ_0, rtZ_1, rtZ_zb, pf163_3, gf163_10, e10, m20, m200, nI_add, nI_leI, if_pos, d6]
    · have rI : ∀ k, k ≠ 121 → k ≠ 122 → k ≠ 144 → k ≠ 163 → M k = I k := fun k g1 g2 g3 g4 => by rw [d1 k g3 g4, up2_row _ _ g4, fk k g1 g2]
      have r163 : ∀ j, j ≠ 3 → j ≠ 10 → M 163 j = I 163 j := fun j g1 g2 => by rw [d2 j g2, up2_i _ _ _ g1, fk 163 (by decide) (by decide)]
      have r121 : ∀ j, M 121 j = J5 121 j := fun j => by rw [d1 121 (by decide) (by decide), up2_row _ _ (by decide)]
      have r122 : ∀ j, M 122 j = J5 122 j := fun j => by rw [d1 122 (by decide) (by decide), up2_row _ _ (by decide)]
      have hT : M 137 = I 137 := rI 137 (by decide) (by decide) (by decide) (by decide)
      refine ⟨c, by rw [hT]; exact q1, by rw [hT]; exact LandR_c (fun j hj => rI j (by omega) (by omega) (by omega) (by omega)) q2, by rw [hT]; exact FolkR_c (fun j hj => rI (15 + j) (by omega) (by omega) (by omega) (by omega)) q3, by rw [hT]; exact BookR_c (fun j hj => rI (22 + j) (by omega) (by omega) (by omega) (by omega)) q4, by rw [hT]; exact MapR_c (rI 32 (by decide) (by decide) (by decide) (by decide)) (rI 38 (by decide) (by decide) (by decide) (by decide)) (fun _ _ _ => rfl) q5, by rw [hT]; exact RefR_c (r163 4 (by decide) (by decide)) (rI 142 (by decide) (by decide) (by decide) (by decide)) rfl rfl q6, StepsR_c (rI 48 (by decide) (by decide) (by decide) (by decide)) (rI 49 (by decide) (by decide) (by decide) (by decide)) (rI 51 (by decide) (by decide) (by decide) (by decide)) rfl rfl q7, q8, q9, q10, ⟨⟨n + 20, by rw [r121]; exact e20, d3, p, fun i hi => ?_⟩, by rw [r121, fj 2 (by decide), r163 18 (by decide) (by decide)]; exact n5, by rw [r121, fj 3 (by decide), r163 19 (by decide) (by decide)]; exact n6⟩, fun t ht => TrayR_c (rI _ (by omega) (by omega) (by omega) (by omega)) (rI 160 (by decide) (by decide) (by decide) (by decide)) (rI 161 (by decide) (by decide) (by decide) (by decide)) rfl rfl (q12 t ht), fun i hi => ImgR_c (rI 138 (by decide) (by decide) (by decide) (by decide)) (rI 139 (by decide) (by decide) (by decide) (by decide)) (fun j hj => rI _ (by omega) (by omega) (by omega) (by omega)) (q13 i hi)⟩
      by_cases e : i < n
      · rw [d4 i e, up2_row _ _ (by decide), fk 144 (by decide) (by decide), r122, fo i e]
        exact n4 i e
      · have x5' := d5 (i - n) (by omega)
        have y5 := fn (i - n) (by omega)
        rw [show n + (i - n) = i by omega] at x5' y5
        rw [x5', r122, y5, byt (by omega)]
        exact ⟨bd255 _, rfl⟩
  · refine ⟨-1, I, up2 I 163 3 0, L, L, Q, Q, ?_, ?_, Inv_t q0⟩
    · show F_X11_feed E (rr w 136) x1 x2 x3 x4 x5 (Hw E w I L Q) = _
      unfold F_X11_feed
      simp (disch := omega) only [Option.bind_some, Option.map_some, Option.join, cI_r, cL_r, cV_r, xI_r, xL_r, xV_r, xI_t, xL_t, xV_t, lt_r, rtZ_0, rtZ_1, rtZ_zb, gf136_7, gf121_1, n1, m20, m200, nI_add, nI_leI, if_neg]
    · show F_X12_feed E (rr w 163) x1 x2 x3 x4 x5 (Hw E w I L Q) = _
      unfold F_X12_feed
      have n2' : (up2 I 163 3 0) 163 10 = nI n := by rw [up2_i _ _ _ (by decide)]; exact n2
      simp (disch := omega) only [Option.bind_some, Option.map_some, Option.join, cI_r, cL_r, cV_r, xI_r, xL_r, xV_r, xI_t, xL_t, xV_t, lt_r, rtZ_0, rtZ_1, rtZ_zb, pf163_3, gf163_10, n2', m20, m200, nI_add, nI_leI, if_neg]
end
