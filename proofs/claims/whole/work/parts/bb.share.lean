/-! odds: shares -/
def pcs (m : Int32) (n j : Nat) : Int32 := if m - m / nI n * nI n ≤ nI j then m / nI n else m / nI n + 1
noncomputable def shr (m : Int32) (X : Nat → Prop) (G : Nat → Int32) (s : Nat) : Int32 := @ite _ (X s) (Classical.propDecidable _) (G s + pcs m (cntP X 240) (cntP X s)) (G s)
theorem shr_t {m : Int32} {X : Nat → Prop} {G : Nat → Int32} {s : Nat} (h : X s) : shr m X G s = G s + pcs m (cntP X 240) (cntP X s) := by unfold shr; rw [if_pos h]
theorem shr_f {m : Int32} {X : Nat → Prop} {G : Nat → Int32} {s : Nat} (h : ¬ X s) : shr m X G s = G s := by unfold shr; rw [if_neg h]
theorem shr_c {m : Int32} {X Y : Nat → Prop} {G G' : Nat → Int32} {s : Nat} (hs : s < 240) (h : ∀ s, s < 240 → (X s ↔ Y s)) (hG : G s = G' s) : shr m X G s = shr m Y G' s := by
  by_cases p : X s
  · rw [shr_t p, shr_t ((h s hs).mp p), hG, cnt_c h, cnt_c (n := s) (fun i hi => h i (by omega))]
  · rw [shr_f p, shr_f (fun z => p ((h s hs).mpr z)), hG]
theorem bm_id {x : Int} (h1 : -2147483648 ≤ x) (h2 : x < 2147483648) : x.bmod (2 ^ 32) = x := by
  rw [Int.bmod_def]; split <;> omega
theorem rem_b {m : Int32} {n : Nat} (h0 : 0 < n) (hn : n ≤ 240) : -240 < (m - m / nI n * nI n).toInt ∧ (m - m / nI n * nI n).toInt < 240 := by
  have en : (nI n).toInt = n := nI_toInt (by omega)
  have b1 : -2147483648 ≤ m.toInt := Int32.le_toInt m
  have b2 : m.toInt < 2147483648 := Int32.toInt_lt m
  generalize ea : m.toInt = a at *
  have d1 : (m / nI n).toInt = a.tdiv n := by
    rw [Int32.toInt_div, ea, en]
    have q1 := Int.tdiv_mul_add_tmod a n
    refine bm_id ?_ ?_
    · rcases Int.le_total 0 a with g | g
      · have := Int.tdiv_nonneg g (show (0 : Int) ≤ n by omega)
        omega
      · have g2 : (-a).tdiv n = - a.tdiv n := Int.neg_tdiv ..
        have g3 := Int.tdiv_le_self (a := -a) n (by omega)
        omega
    · rcases Int.le_total 0 a with g | g
      · have := Int.tdiv_le_self (a := a) n g
        omega
      · have g2 : (-a).tdiv n = - a.tdiv n := Int.neg_tdiv ..
        have g3 := Int.tdiv_nonneg (show (0 : Int) ≤ -a by omega) (show (0 : Int) ≤ n by omega)
        omega
  have q1 := Int.tdiv_mul_add_tmod a n
  have bnd : (0 ≤ a ∧ 0 ≤ a.tmod n ∧ a.tmod n < n ∧ 0 ≤ a.tdiv n * n) ∨ (a ≤ 0 ∧ a.tmod n ≤ 0 ∧ -(n : Int) < a.tmod n ∧ a.tdiv n * n ≤ 0) := by
    rcases Int.le_total 0 a with g | g
    · exact Or.inl ⟨g, Int.tmod_nonneg _ g, Int.tmod_lt_of_pos a (by omega), Int.mul_nonneg (Int.tdiv_nonneg g (by omega)) (by omega)⟩
    · have r1 := Int.tmod_nonneg (n : Int) (show (0 : Int) ≤ -a by omega)
      have r2 : (-a).tmod n < n := Int.tmod_lt_of_pos (-a) (by omega)
      have r3 := Int.mul_nonneg (Int.tdiv_nonneg (show (0 : Int) ≤ -a by omega) (show (0 : Int) ≤ n by omega)) (show (0 : Int) ≤ n by omega)
      rw [Int.neg_tmod] at r1 r2
      rw [Int.neg_tdiv, Int.neg_mul] at r3
      exact Or.inr ⟨g, by omega, by omega, by omega⟩
  have d2 : (m / nI n * nI n).toInt = a.tdiv n * n := by
    rw [Int32.toInt_mul, d1, en]
    exact bm_id (by omega) (by omega)
  rw [Int32.toInt_sub, ea, d2, bm_id (by omega) (by omega)]
  omega
theorem left_le {l : Int32} {j : Nat} (h1 : -240 < l.toInt) (h2 : l.toInt < 240) (hj : j ≤ 240) : l - nI j ≤ 0 ↔ l ≤ nI j := by
  have ej : (nI j).toInt = j := nI_toInt (by omega)
  rw [Int32.le_iff_toInt_le, Int32.le_iff_toInt_le, Int32.toInt_sub, ej, bm_id (by omega) (by omega)]
  show _ ≤ (0 : Int) ↔ _
  omega
section
variable {E : Ev} {w : Wo} {I I1 I2 : Nat → Nat → Int32} {L L1 L2 : Nat → Nat → Int64} {Q Q1 Q2 : Nat → Nat → Option Nat} {c : Nat → Nat} {T : Ro} {y : Nat} {m : Int32}
theorem ia55 : IA w 55 240 := ⟨lv_of (by decide), rfl, by decide⟩
theorem ia56 : IA w 56 240 := ⟨lv_of (by decide), rfl, by decide⟩
theorem ia155 : IA w 155 240 := ⟨lv_of (by decide), rfl, by decide⟩
theorem ia156 : IA w 156 240 := ⟨lv_of (by decide), rfl, by decide⟩
theorem c_share31 {b : Nat} {X : Nat → Prop} (hG : 100000 ≤ E.2.2.1) (ib : IA w b 240) (hb : b ≠ 60) (hl : lstd (I 60) X 240) : ∃ I', (∀ k, k ≠ b → I' k = I k) ∧ (∀ s, s < 240 → I' b s = shr m X (I b) s) ∧ L_X4_share_31 E (rr w 54) (rr w b) (nI (cntP X 240)) (m / nI (cntP X 240)) (m - m / nI (cntP X 240) * nI (cntP X 240)) E.2.2.1 0 (Hw E w I L Q) = rtV (Hw E w I' L Q) := by
  have le : cntP X 240 ≤ 240 := cntP_le 240
  generalize hn : cntP X 240 = n at *
  refine lpK2 (σ := Nat → Nat → Int32) (Lp := fun g i s => L_X4_share_31 E (rr w 54) (rr w b) (nI n) (m / nI n) (m - m / nI n * nI n) g (nI i) (Hw E w s L Q)) (K := fun s => rtV (Hw E w s L Q)) (Iv := fun i s' => (∀ k, k ≠ b → s' k = I k) ∧ ∀ s, s < 240 → (X s ∧ cntP X s < i → s' b s = I b s + pcs m n (cntP X s)) ∧ (¬ (X s ∧ cntP X s < i) → s' b s = I b s)) (N := n) (g := E.2.2.1) (i := 0) (s := I) ?_ ?_ ?_ (by omega) (by omega) ⟨fun _ _ => rfl, fun s hs => ⟨fun z => absurd z.2 (by omega), fun _ => rfl⟩⟩
  · rintro I1 ⟨z1, z2⟩ ee
    refine ⟨I1, z1, fun s hs => ?_, ee⟩
    by_cases p : X s
    · rw [shr_t p, hn]
      exact (z2 s hs).1 ⟨p, by rw [← hn]; exact cnt_lt p hs⟩
    · rw [shr_f p]
      exact (z2 s hs).2 (fun z => p z.1)
  · rintro g i I1 hi ⟨z1, z2⟩
    obtain ⟨s, h1, h2, h3, h4⟩ := lstd_i hl (by rw [hn]; exact hi)
    have e60 : I1 60 i = nI s := by rw [z1 60 (Ne.symm hb)]; exact h4
    have eb : I1 b s = I b s := (z2 s h1).2 (fun z => by omega)
    refine ⟨up2 I1 b s (I b s + pcs m n i), ⟨fun k hk => by rw [up2_row _ _ hk]; exact z1 k hk, fun s' hs' => ?_⟩, ?_⟩
    · by_cases e : s' = s
      · subst e
        refine ⟨fun _ => by rw [up2_s, h3], fun z => absurd ⟨h2, by omega⟩ z⟩
      · rw [up2_i _ _ _ e]
        refine ⟨fun z => (z2 s' hs').1 ⟨z.1, ?_⟩, fun z => (z2 s' hs').2 (fun z' => z ⟨z'.1, by omega⟩)⟩
        rcases Nat.lt_or_ge (cntP X s') i with g | g
        · exact g
        · exact absurd (cnt_inj z.1 h2 (by omega)) e
    · show L_X4_share_31 E (rr w 54) (rr w b) (nI n) (m / nI n) (m - m / nI n * nI n) (g + 1) (nI i) (Hw E w I1 L Q) = _
      rw [L_X4_share_31]
      simp (disch := omega) only [Option.bind_some, Option.map_some, Option.join, cI_r, cL_r, cV_r, xI_r, xL_r, xV_r, xI_t, xL_t, xV_t, lt_r, rtZ_0, rtZ_1, rtZ_zb, if_neg (nI_ge hi (show n < 2 ^ 31 by omega)), gf54_5, ga60, ix_n, e60, ib.ga, eb, ib.pa, nI_1]
      unfold pcs
      by_cases p : m - m / nI n * nI n ≤ nI i
      · rw [if_pos p, if_pos p]
      · rw [if_neg p, if_neg p]
  · rintro g I1 _
    show L_X4_share_31 E (rr w 54) (rr w b) (nI n) (m / nI n) (m - m / nI n * nI n) (g + 1) (nI n) (Hw E w I1 L Q) = _
    rw [L_X4_share_31, if_pos (nI_le (Nat.le_refl n) (by omega))]
theorem dvI_n {n : Nat} (h0 : 0 < n) (h1 : n < 2 ^ 31) : dvI m (nI n) = some (m / nI n) := by unfold dvI; rw [if_neg (nI_ne0 h0 h1)]
theorem rmI_n {n : Nat} (h0 : 0 < n) (h1 : n < 2 ^ 31) : rmI m (nI n) = some (m - m / nI n * nI n) := by unfold rmI; rw [if_neg (nI_ne0 h0 h1)]
theorem c_share {b so : Nat} (hG : 100000 ≤ E.2.2.1) (hs : SO w so) (ib : IA w b 240) (hb : b ≠ 60) (hX : ∀ q, q < 256 → bq (L (so + 1)) q → q < 240) : ∃ I', (∀ k, k ≠ b → k ≠ 60 → I' k = I k) ∧ (∀ s, s < 240 → I' b s = shr m (bq (L (so + 1))) (I b) s) ∧ F_X4_share E (rr w 54) m (rr w so) (rr w b) (Hw E w I L Q) = rtV (Hw E w I' L Q) := by
  have le : cntP (bq (L (so + 1))) 240 ≤ 240 := cntP_le 240
  obtain ⟨I1, a1, a2, a3⟩ := c_list (E := E) (w := w) (I := I) (L := L) (Q := Q) (t := 60) (n := 240) hG hs ⟨lv_of (by decide), rfl, by decide⟩ (by decide) hX
  obtain ⟨I2, b1, b2, b3⟩ := c_share31 (E := E) (w := w) (I := I1) (L := L) (Q := Q) (m := m) hG ib hb a2
  rw [a1 b hb] at b2
  by_cases p : cntP (bq (L (so + 1))) 240 = 0
  · have no := cnt_0.mp p
    refine ⟨I1, fun k _ hk => a1 k hk, fun s hs => by rw [a1 b hb, shr_f (no s hs)], ?_⟩
    unfold F_X4_share
    simp only [Option.bind_some, Option.map_some, Option.join, cI_r, cL_r, cV_r, xI_r, xL_r, xV_r, xI_t, xL_t, xV_t, lt_r, rtZ_0, rtZ_1, rtZ_zb, gf54_5, hs.o, a3]
    rw [p, if_neg (not_not_intro (show nI 0 = 0 from rfl))]
  · refine ⟨I2, fun k g1 g2 => (b1 k g1).trans (a1 k g2), b2, ?_⟩
    unfold F_X4_share
    simp only [Option.bind_some, Option.map_some, Option.join, cI_r, cL_r, cV_r, xI_r, xL_r, xV_r, xI_t, xL_t, xV_t, lt_r, rtZ_0, rtZ_1, rtZ_zb, gf54_5, hs.o, a3]
    rw [if_pos (nI_ne0 (by omega) (by omega)), dvI_n (by omega) (by omega), Option.bind_some, rmI_n (by omega) (by omega), Option.bind_some, b3]
theorem m_parted {t : Nat} (hG : 100000 ≤ E.2.2.1) (it : IA w t 240) : ∃ I', (∀ k, k ≠ t → I' k = I k) ∧ (∀ s, s < 240 → I' t s = shr m (b256 (L 151) 0) (I t) s) ∧ F_X12_parted E (rr w 163) m (rr w 151) (rr w t) (Hw E w I L Q) = rtV (Hw E w I' L Q) := by
  have sz := f_sizeOf (E := E) (w := w) (I := I) (L := L) (Q := Q) (k := 151) (a := 0) hG la151 (by decide)
  have le : cntP (b256 (L 151) 0) 240 ≤ 240 := cntP_le 240
  unfold F_X12_parted
  rw [show F_X12_sizeOf E (rr w 151) 0 (Hw E w I L Q) = _ from sz, cI_r]
  have hh : ∀ s I1, s < 240 → F_X12_has E (rr w 151) 0 (nI s) (Hw E w I1 L Q) = rtI (zb (b256 (L 151) 0 s)) (Hw E w I1 L Q) := fun s I1 hs => f_has (E := E) (w := w) (I := I1) (L := L) (Q := Q) (k := 151) (n := 4) (a := 0) (s := s) la151 (by decide) (by omega)
  generalize hX : b256 (L 151) 0 = X at *
  generalize hn : cntP X 240 = n at *
  by_cases p : n = 0
  · have no := cnt_0.mp (hn.trans p)
    refine ⟨I, fun _ _ => rfl, fun s hs => by rw [shr_f (no s hs)], ?_⟩
    rw [p, if_neg (not_not_intro (show nI 0 = 0 from rfl))]
  · rw [if_pos (nI_ne0 (by omega) (by omega)), rmI_n (by omega) (by omega), Option.bind_some]
    have rb := rem_b (m := m) (n := n) (by omega) le
    generalize hl : m - m / nI n * nI n = l at *
    refine lpK2 (σ := Nat → Nat → Int32) (Lp := fun g i s => L_X12_parted_22 E m (rr w 151) (rr w t) (nI n) g (l - nI (cntP X i)) (nI i) (Hw E w s L Q)) (K := fun s => rtV (Hw E w s L Q)) (Iv := fun i s' => (∀ k, k ≠ t → s' k = I k) ∧ ∀ s, s < 240 → (s < i → s' t s = shr m X (I t) s) ∧ (i ≤ s → s' t s = I t s)) (N := 240) (g := E.2.2.1) (i := 0) (s := I) ?_ ?_ ?_ (by omega) (by omega) ⟨fun _ _ => rfl, fun s hs => ⟨fun z => absurd z (by omega), fun _ => rfl⟩⟩
    · rintro I1 ⟨z1, z2⟩ ee
      refine ⟨I1, z1, fun s hs => (z2 s hs).1 hs, ?_⟩
      have e0 : l - nI (cntP X 0) = l := by
        show l - 0 = l
        exact Int32.sub_zero l
      rw [e0] at ee
      exact ee
    · rintro g i I1 hi ⟨z1, z2⟩
      have le2 := cntP_le (P := X) i
      have et : I1 t i = I t i := (z2 i hi).2 (Nat.le_refl i)
      have sub : l - nI (cntP X i) + -1 = l - nI (cntP X i + 1) := by
        rw [← nI_1, Int32.sub_eq_add_neg, Int32.sub_eq_add_neg, Int32.neg_add, Int32.add_assoc, Int32.sub_eq_add_neg]
      have st : L_X12_parted_22 E m (rr w 151) (rr w t) (nI n) (g + 1) (l - nI (cntP X i)) (nI i) (Hw E w I1 L Q) = if ¬ zb (X i) = 0 then L_X12_parted_22 E m (rr w 151) (rr w t) (nI n) g (l - nI (cntP X i + 1)) (nI (i + 1)) (Hw E w (up2 I1 t i (I t i + pcs m n (cntP X i))) L Q) else L_X12_parted_22 E m (rr w 151) (rr w t) (nI n) g (l - nI (cntP X i)) (nI (i + 1)) (Hw E w I1 L Q) := by
        rw [L_X12_parted_22, m240, if_neg (nI_ge hi (by decide)), hh i I1 hi, cI_r]
        by_cases px : X i
        · rw [zn_t px, zn_t px]
          simp (disch := omega) only [Option.bind_some, Option.map_some, Option.join, cI_r, cL_r, cV_r, xI_r, xL_r, xV_r, xI_t, xL_t, xV_t, lt_r, rtZ_0, rtZ_1, rtZ_zb, it.ga, it.pa, ix_n, et, dvI_n, nI_1, sub, Int32.add_zero]
          unfold pcs
          rw [hl]
          by_cases pl : l ≤ nI (cntP X i)
          · rw [if_pos ((left_le rb.1 rb.2 (by omega)).mpr pl), if_pos pl]
          · rw [if_neg (fun z => pl ((left_le rb.1 rb.2 (by omega)).mp z)), if_neg pl]
        · rw [zn_f px, zn_f px, nI_1]
      by_cases px : X i
      · refine ⟨up2 I1 t i (I t i + pcs m n (cntP X i)), ⟨fun k hk => by rw [up2_row _ _ hk]; exact z1 k hk, fun s hs => ?_⟩, ?_⟩
        · by_cases e : s = i
          · subst e
            refine ⟨fun _ => by rw [up2_s, shr_t px, hn], fun z => absurd z (by omega)⟩
          · rw [up2_i _ _ _ e]
            exact ⟨fun z => (z2 s hs).1 (by omega), fun z => (z2 s hs).2 (by omega)⟩
        · show L_X12_parted_22 E m (rr w 151) (rr w t) (nI n) (g + 1) (l - nI (cntP X i)) (nI i) (Hw E w I1 L Q) = L_X12_parted_22 E m (rr w 151) (rr w t) (nI n) g (l - nI (cntP X (i + 1))) (nI (i + 1)) (Hw E w (up2 I1 t i (I t i + pcs m n (cntP X i))) L Q)
          rw [st, zn_t px, cntP_t px]
      · refine ⟨I1, ⟨z1, fun s hs => ?_⟩, ?_⟩
        · by_cases e : s = i
          · subst e
            refine ⟨fun _ => by rw [shr_f px]; exact et, fun z => absurd z (by omega)⟩
          · exact ⟨fun z => (z2 s hs).1 (by omega), fun z => (z2 s hs).2 (by omega)⟩
        · show L_X12_parted_22 E m (rr w 151) (rr w t) (nI n) (g + 1) (l - nI (cntP X i)) (nI i) (Hw E w I1 L Q) = L_X12_parted_22 E m (rr w 151) (rr w t) (nI n) g (l - nI (cntP X (i + 1))) (nI (i + 1)) (Hw E w I1 L Q)
          rw [st, zn_f px, cntP_f px]
    · rintro g I1 _
      show L_X12_parted_22 E m (rr w 151) (rr w t) (nI n) (g + 1) (l - nI (cntP X 240)) (nI 240) (Hw E w I1 L Q) = _
      rw [L_X12_parted_22, m240, if_pos (nI_le (Nat.le_refl 240) (by decide))]
end
