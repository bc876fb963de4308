section
variable {E : Ev} {w : Wo} {I : Nat → Nat → Int32} {L : Nat → Nat → Int64} {Q : Nat → Nat → Option Nat} {c : Nat → Nat}
theorem i64_l0 {x : Int32} : (0 : Int64) ≤ x.toInt64 ↔ 0 ≤ x := i64_le (x := 0)
theorem i64_r {x : Int32} (n : Int32) {m : Int64} (h : n.toInt64 = m) : x.toInt64 ≤ m ↔ x ≤ n := by rw [← h]; exact i64_le
theorem f_fails {k : Int32} : F_X12_fails E (rr w 163) k (Hw E w I L Q) = rtI 0 (Hw E w (up2 I 163 3 k) L Q) := by
  unfold F_X12_fails; simp only [Option.bind_some, Option.map_some, Option.join, cI_r, cL_r, cV_r, xI_r, xL_r, xV_r, xI_t, xL_t, xV_t, lt_r, rtZ_0, rtZ_1, rtZ_zb, pf163_3]
theorem f_thrown : F_X12_thrown E (rr w 163) (Hw E w I L Q) = rtI (I 163 3) (Hw E w I L Q) := by
  unfold F_X12_thrown; simp only [Option.bind_some, Option.map_some, Option.join, cI_r, cL_r, cV_r, xI_r, xL_r, xV_r, xI_t, xL_t, xV_t, lt_r, rtZ_0, rtZ_1, rtZ_zb, gf163_3]
theorem f_more {s n : Nat} (hs : s < 2988) (hn : I 137 s = nI n) : F_X12_more E (rr w 163) (nI s) (Hw E w I L Q) = rtI (nI n) (Hw E w (up2 (up2 I 163 4 (-1)) 137 s (nI (n + 1))) L Q) := by
  unfold F_X12_more
  simp only [Option.bind_some, Option.map_some, Option.join, cI_r, cL_r, cV_r, xI_r, xL_r, xV_r, xI_t, xL_t, xV_t, lt_r, rtZ_0, rtZ_1, rtZ_zb, pf163_4, gf163_0, ga137, pa137, ix_n hs (by decide), up2_lit, Nat.reduceEqDiff, Nat.one_ne_zero, Nat.zero_ne_one, false_and, and_false, true_and, and_true, if_false, if_true, reduceIte, hn, nI_1, nI_pred, and_self]
def takn (T : Ro) (c : Nat → Nat) (x y : Int32) : Prop := ∃ p, p < c 0 ∧ T (10 + 2 * p) = x ∧ T (11 + 2 * p) = y
def plBad (T : Ro) (c : Nat → Nat) (x y : Int32) : Prop := ¬ (0 ≤ x ∧ x ≤ 99) ∨ ¬ (0 ≤ y ∧ y ≤ 99) ∨ takn T c x y
theorem c_plBad {x y : Int32} (hG : 100000 ≤ E.2.2.1) (hL : LandP I (I 137) c) (hC : Cts (I 137) c) (hb : plBad (I 137) c x y) : F_X11_place E (rr w 136) x y (Hw E w I L Q) = thr "java/lang/IllegalArgumentException" (Hw E w I L Q) := by
  unfold F_X11_place
  by_cases c1 : x < 0
  · rw [if_pos c1]
  · rw [if_neg c1]
    by_cases c2 : 99 < x
    · rw [if_pos c2]
    · rw [if_neg c2]
      by_cases c3 : y < 0
      · rw [if_pos c3]
      · rw [if_neg c3]
        by_cases c4 : 99 < y
        · rw [if_pos c4]
        · rw [if_neg c4]
          have hP := hC 0 (by decide)
          have ht : ∃ p, p < c 0 ∧ I 1 p = x ∧ I 2 p = y := by
            rcases hb with hb | hb | ⟨p, hp, e1, e2⟩
            · exact absurd ⟨Int32.not_lt.mp c1, Int32.not_lt.mp c2⟩ hb
            · exact absurd ⟨Int32.not_lt.mp c3, Int32.not_lt.mp c4⟩ hb
            · have := hL.2 p hp; exact ⟨p, hp, by rw [this.1, e1], by rw [this.2, e2]⟩
          simp only [Option.bind_some, Option.map_some, Option.join, cI_r, cL_r, cV_r, xI_r, xL_r, xV_r, xI_t, xL_t, xV_t, lt_r, rtZ_0, rtZ_1, rtZ_zb, gf136_0, o0, f_isTaken (I := I) hG (hL.1.trans hP.1) hP.2, zb_t ht, show ¬ (1 : Int32) = 0 by decide, if_false]
theorem c_plOk {x y : Int32} (hG : 100000 ≤ E.2.2.1) (hL : LandP I (I 137) c) (hC : Cts (I 137) c) (hb : ¬ plBad (I 137) c x y) : F_X11_place E (rr w 136) x y (Hw E w I L Q) = if c 0 = 40 then rtI (-1) (Hw E w I L Q) else rtI (nI (c 0)) (Hw E w (up2 (up2 (up2 I 1 (c 0) x) 2 (c 0) y) 0 0 (nI (c 0 + 1))) L Q) := by
  have hP := hC 0 (by decide)
  have b1 : 0 ≤ x ∧ x ≤ 99 := Classical.not_not.mp fun e => hb (Or.inl e)
  have b2 : 0 ≤ y ∧ y ≤ 99 := Classical.not_not.mp fun e => hb (Or.inr (Or.inl e))
  have ht : ¬ ∃ p, p < c 0 ∧ I 1 p = x ∧ I 2 p = y := fun ⟨p, hp, e1, e2⟩ => hb (Or.inr (Or.inr ⟨p, hp, by rw [← (hL.2 p hp).1, e1], by rw [← (hL.2 p hp).2, e2]⟩))
  unfold F_X11_place
  rw [if_neg (Int32.not_lt.mpr b1.1), if_neg (Int32.not_lt.mpr b1.2), if_neg (Int32.not_lt.mpr b2.1), if_neg (Int32.not_lt.mpr b2.2)]
  simp only [Option.bind_some, Option.map_some, Option.join, cI_r, cL_r, cV_r, xI_r, xL_r, xV_r, xI_t, xL_t, xV_t, lt_r, rtZ_0, rtZ_1, rtZ_zb, gf136_0, o0, f_isTaken (I := I) hG (hL.1.trans hP.1) hP.2, zb_f ht, if_true, f_addPlace (I := I) (hL.1.trans hP.1) hP.2]
  split <;> simp only [Option.bind_some, Option.map_some, Option.join, cI_r, cL_r, cV_r, xI_r, xL_r, xV_r, xI_t, xL_t, xV_t, lt_r, rtZ_0, rtZ_1, rtZ_zb]
theorem m_taken {x y : Int32} {K : Hp → Rs} (hG : 100000 ≤ E.2.2.1) (hC : Cts (I 137) c) : L_X12_place_37 E K (rr w 163) x y E.2.2.1 0 (Hw E w I L Q) = @ite _ (takn (I 137) c x y) (Classical.propDecidable _) (rtI 0 (Hw E w (up2 I 163 3 1) L Q)) (K (Hw E w I L Q)) := by
  have hP := hC 0 (by decide)
  have h40 : c 0 ≤ 40 := hP.2
  refine srch (Lp := fun g i => L_X12_place_37 E K (rr w 163) x y g i (Hw E w I L Q)) (N := c 0) (c := fun p => I 137 (10 + 2 * p) = x ∧ I 137 (11 + 2 * p) = y) (R := fun _ => rtI 0 (Hw E w (up2 I 163 3 1) L Q)) (Z := K (Hw E w I L Q)) ?_ ?_ ?_ ?_ ?_ _ (by omega)
  · intro g i hi _ hc
    have e1 : ix ((10 : Int32) + (2 : Int32) * nI i) 2988 = some (10 + 2 * i) := by rw [n10, n2, pk_mul, nI_add]; exact ix_n (by omega) (by decide)
    have e2 : ix ((10 : Int32) + (2 : Int32) * nI i + 1) 2988 = some (11 + 2 * i) := by rw [n10, n2, pk_mul, nI_add, nI_1, show 10 + 2 * i + 1 = 11 + 2 * i by omega]; exact ix_n (by omega) (by decide)
    show L_X12_place_37 E K (rr w 163) x y (g + 1) (nI i) (Hw E w I L Q) = _
    rw [L_X12_place_37]
    simp only [Option.bind_some, Option.map_some, Option.join, cI_r, cL_r, cV_r, xI_r, xL_r, xV_r, xI_t, xL_t, xV_t, lt_r, rtZ_0, rtZ_1, rtZ_zb, gf163_0, ga137, o163, show ix 0 2988 = some 0 from rfl, hP.1, if_neg (nI_ge hi (show c 0 < 2 ^ 31 by omega)), e1, e2, hc.1, hc.2, not_true_eq_false, if_false, f_fails]
  · intro g i hi _ hc
    have e1 : ix ((10 : Int32) + (2 : Int32) * nI i) 2988 = some (10 + 2 * i) := by rw [n10, n2, pk_mul, nI_add]; exact ix_n (by omega) (by decide)
    have e2 : ix ((10 : Int32) + (2 : Int32) * nI i + 1) 2988 = some (11 + 2 * i) := by rw [n10, n2, pk_mul, nI_add, nI_1, show 10 + 2 * i + 1 = 11 + 2 * i by omega]; exact ix_n (by omega) (by decide)
    show L_X12_place_37 E K (rr w 163) x y (g + 1) (nI i) (Hw E w I L Q) = L_X12_place_37 E K (rr w 163) x y g (nI i + 1) (Hw E w I L Q)
    rw [L_X12_place_37]
    simp only [Option.bind_some, Option.map_some, Option.join, cI_r, cL_r, cV_r, xI_r, xL_r, xV_r, xI_t, xL_t, xV_t, lt_r, rtZ_0, rtZ_1, rtZ_zb, gf163_0, ga137, o163, show ix 0 2988 = some 0 from rfl, hP.1, if_neg (nI_ge hi (show c 0 < 2 ^ 31 by omega)), e1, e2, f_fails]
    by_cases c1 : I 137 (10 + 2 * i) = x
    · have c2 : ¬ I 137 (11 + 2 * i) = y := fun e => hc ⟨c1, e⟩
      rw [if_neg (not_not_intro c1), if_pos c2]
    · rw [if_pos c1]
  · intro g hn
    show L_X12_place_37 E K (rr w 163) x y (g + 1) (nI (c 0)) (Hw E w I L Q) = _
    rw [L_X12_place_37]
    simp only [Option.bind_some, Option.map_some, Option.join, cI_r, cL_r, cV_r, xI_r, xL_r, xV_r, xI_t, xL_t, xV_t, lt_r, rtZ_0, rtZ_1, rtZ_zb, gf163_0, ga137, show ix 0 2988 = some 0 from rfl, hP.1, if_pos (nI_le (Nat.le_refl (c 0)) (show c 0 < 2 ^ 31 by omega))]
  · intro i hi _ hc
    rw [if_pos ⟨i, hi, hc⟩]
  · intro hn
    rw [if_neg (fun ⟨p, hp, e⟩ => hn p hp e)]
theorem m_plBad {x y : Int32} (hG : 100000 ≤ E.2.2.1) (hC : Cts (I 137) c) (hb : plBad (I 137) c x y) : F_X12_place E (rr w 163) x y (Hw E w I L Q) = rtI 0 (Hw E w (up2 (up2 I 163 3 0) 163 3 1) L Q) := by
  unfold F_X12_place
  simp only [Option.bind_some, Option.map_some, Option.join, cI_r, cL_r, cV_r, xI_r, xL_r, xV_r, xI_t, xL_t, xV_t, lt_r, rtZ_0, rtZ_1, rtZ_zb, pf163_3, wi_t, i64_l0, i64_r 99 (show (99 : Int32).toInt64 = 99 by rfl), o163, f_fails, zb_0, Classical.not_not]
  by_cases b1 : 0 ≤ x ∧ x ≤ 99
  · rw [if_neg (not_not_intro b1)]
    by_cases b2 : 0 ≤ y ∧ y ≤ 99
    · rw [if_pos b2]
      have hC' : Cts (up2 I 163 3 0 137) c := hC
      have ht : takn (up2 I 163 3 0 137) c x y := by
        rcases hb with hb | hb | hb
        · exact absurd b1 hb
        · exact absurd b2 hb
        · exact hb
      rw [m_taken hG hC', if_pos ht]
    · rw [if_neg b2]
  · rw [if_pos b1]
theorem m_plOk {x y : Int32} (hG : 100000 ≤ E.2.2.1) (hC : Cts (I 137) c) (hb : ¬ plBad (I 137) c x y) : F_X12_place E (rr w 163) x y (Hw E w I L Q) = if c 0 = 40 then rtI (-1) (Hw E w (up2 I 163 3 0) L Q) else rtI (nI (c 0)) (Hw E w (up2 (up2 (up2 (up2 (up2 I 163 3 0) 163 4 (-1)) 137 0 (nI (c 0 + 1))) 137 (10 + 2 * c 0) x) 137 (11 + 2 * c 0) y) L Q) := by
  have hP := hC 0 (by decide)
  have h40 : c 0 ≤ 40 := hP.2
  have b1 : 0 ≤ x ∧ x ≤ 99 := Classical.not_not.mp fun e => hb (Or.inl e)
  have b2 : 0 ≤ y ∧ y ≤ 99 := Classical.not_not.mp fun e => hb (Or.inr (Or.inl e))
  have ht : ¬ takn (up2 I 163 3 0 137) c x y := fun e => hb (Or.inr (Or.inr e))
  have hC' : Cts (up2 I 163 3 0 137) c := hC
  unfold F_X12_place
  simp only [Option.bind_some, Option.map_some, Option.join, cI_r, cL_r, cV_r, xI_r, xL_r, xV_r, xI_t, xL_t, xV_t, lt_r, rtZ_0, rtZ_1, rtZ_zb, pf163_3, wi_t, i64_l0, i64_r 99 (show (99 : Int32).toInt64 = 99 by rfl), o163, f_fails, zb_0, Classical.not_not, if_neg (not_not_intro b1), if_pos b2]
  rw [m_taken hG hC', if_neg ht]
  have e0 : up2 I 163 3 0 137 0 = nI (c 0) := hP.1
  simp only [Option.bind_some, Option.map_some, Option.join, cI_r, cL_r, cV_r, xI_r, xL_r, xV_r, xI_t, xL_t, xV_t, lt_r, rtZ_0, rtZ_1, rtZ_zb, gf163_0, ga137, show ix 0 2988 = some 0 from rfl, e0]
  by_cases c4 : c 0 = 40
  · rw [if_neg (not_not_intro (by rw [c4]; rfl)), if_pos c4]
  · rw [if_pos (fun e => c4 (by rw [n40] at e; exact (nI_eq (by omega) (by decide)).mp e)), if_neg c4]
    have e1 : ix ((10 : Int32) + (2 : Int32) * nI (c 0)) 2988 = some (10 + 2 * c 0) := by rw [n10, n2, pk_mul, nI_add]; exact ix_n (by omega) (by decide)
    have e2 : ix ((10 : Int32) + (2 : Int32) * nI (c 0) + 1) 2988 = some (11 + 2 * c 0) := by rw [n10, n2, pk_mul, nI_add, nI_1, show 10 + 2 * c 0 + 1 = 11 + 2 * c 0 by omega]; exact ix_n (by omega) (by decide)
    have em := f_more (E := E) (w := w) (I := up2 I 163 3 0) (L := L) (Q := Q) (s := 0) (by decide) e0
    rw [nI_0] at em
    simp only [Option.bind_some, Option.map_some, Option.join, cI_r, cL_r, cV_r, xI_r, xL_r, xV_r, xI_t, xL_t, xV_t, lt_r, rtZ_0, rtZ_1, rtZ_zb, o163, em, gf163_0, pa137, e1, e2]
theorem ix01 : ix 0 1 = some 0 := rfl
/-- rows that a list of changes leaves as they were -/
theorem inv_place {x y : Int32} {v : Int64} (q : Inv w I L Q) (hC : WfT (I 137) c) (hLd : LandR I (I 137) c) (hFo : FolkR (fun j => I (15 + j)) (I 137) c) (hBo : BookR (fun j => I (22 + j)) (I 137) c) (hMp : MapR I L (I 137) c) (hP : c 0 < 40) (hb : ¬ plBad (I 137) c x y) : Inv w (up2 (up2 (up2 (up2 (up2 (up2 (up2 (up2 I 1 (c 0) x) 2 (c 0) y) 0 0 (nI (c 0 + 1))) 163 3 0) 163 4 (-1)) 137 0 (nI (c 0 + 1))) 137 (10 + 2 * c 0) x) 137 (11 + 2 * c 0) y) (up2 L 164 0 v) Q := by
  obtain ⟨_, -, -, -, -, -, -, q7, q8, q9, q10, q11, q12, q13⟩ := q
  have b1 : 0 ≤ x ∧ x ≤ 99 := Classical.not_not.mp fun e => hb (Or.inl e)
  have b2 : 0 ≤ y ∧ y ≤ 99 := Classical.not_not.mp fun e => hb (Or.inr (Or.inl e))
  have ht : ¬ takn (I 137) c x y := fun e => hb (Or.inr (Or.inr e))
  obtain ⟨w1, w2, w3, w4, w5, w6, w7, w8⟩ := hC
  obtain ⟨l1, l2, l3, l4⟩ := hLd
  generalize e2 : up2 (up2 (up2 (up2 (up2 (up2 (up2 (up2 I 1 (c 0) x) 2 (c 0) y) 0 0 (nI (c 0 + 1))) 163 3 0) 163 4 (-1)) 137 0 (nI (c 0 + 1))) 137 (10 + 2 * c 0) x) 137 (11 + 2 * c 0) y = I2
  have hrow : ∀ k, k ≠ 0 → k ≠ 1 → k ≠ 2 → k ≠ 137 → k ≠ 163 → I2 k = I k := by
    intro k k0 k1 k2 k3 k4; funext i; subst e2; simp only [up2_lit, k0, k1, k2, k3, k4, false_and, if_false]
  have hT : ∀ i, I2 137 i = if i = 11 + 2 * c 0 then y else if i = 10 + 2 * c 0 then x else if i = 0 then nI (c 0 + 1) else I 137 i := by
    intro i; subst e2; simp only [up2_lit, Nat.reduceEqDiff, false_and, true_and, if_false]
  have h0 : ∀ i, I2 0 i = if i = 0 then nI (c 0 + 1) else I 0 i := by
    intro i; subst e2; simp only [up2_lit, Nat.reduceEqDiff, false_and, true_and, if_false]
  have h1 : ∀ i, I2 1 i = if i = c 0 then x else I 1 i := by
    intro i; subst e2; simp only [up2_lit, Nat.reduceEqDiff, false_and, true_and, if_false]
  have h2 : ∀ i, I2 2 i = if i = c 0 then y else I 2 i := by
    intro i; subst e2; simp only [up2_lit, Nat.reduceEqDiff, false_and, true_and, if_false]
  have h163 : ∀ i, i ≠ 3 → i ≠ 4 → I2 163 i = I 163 i := by
    intro i i3 i4; subst e2; simp only [up2_lit, Nat.reduceEqDiff, false_and, true_and, if_false, i3, i4]
  have h1634 : I2 163 4 = -1 := by subst e2; simp only [up2_lit, Nat.reduceEqDiff, false_and, true_and, if_false, if_true]
  clear e2
  have hge : ∀ i, 90 ≤ i → I2 137 i = I 137 i := fun i hi => by rw [hT, if_neg (by omega), if_neg (by omega), if_neg (by omega)]
  have hxs : Xs (I 137) (I2 137) c := fun p hp => ⟨by rw [hT, if_neg (by omega), if_neg (by omega), if_neg (by omega)], by rw [hT, if_neg (by omega), if_neg (by omega), if_neg (by omega)]⟩
  have hc1 := (w1 1 (by decide)).2
  have hc2 := (w1 2 (by decide)).2
  have hc3 := (w1 3 (by decide)).2
  have hc4 := (w1 4 (by decide)).2
  have hc5 := (w1 5 (by decide)).2
  have hc6 := (w1 6 (by decide)).2
  simp only [mx] at hc1 hc2 hc3 hc4 hc5 hc6
  refine ⟨fun i => if i = 0 then c 0 + 1 else c i, ⟨?_, ⟨?_, ?_⟩, ?_, ?_, ?_, ?_, ?_, ?_⟩, ⟨⟨?_, ?_⟩, ⟨?_, ?_⟩, ⟨?_, ?_⟩, ?_⟩, ?_, ?_, ?_, Or.inl h1634, ?_, q8, q9, q10, ?_, ?_, ?_⟩
  · intro i hi
    by_cases i0 : i = 0
    · subst i0; exact ⟨by rw [hT, if_neg (by omega), if_neg (by omega), if_pos rfl]; rfl, by show c 0 + 1 ≤ 40; omega⟩
    · have e3 : (if i = 0 then c 0 + 1 else c i) = c i := if_neg i0
      exact ⟨by show I2 137 i = nI (if i = 0 then c 0 + 1 else c i); rw [e3, hT, if_neg (by omega), if_neg (by omega), if_neg i0]; exact (w1 i hi).1, by show (if i = 0 then c 0 + 1 else c i) ≤ mx i; rw [e3]; exact (w1 i hi).2⟩
  · intro p hp
    simp only [if_true] at hp
    by_cases e : p = c 0
    · subst e
      rw [hT, if_neg (by omega), if_pos rfl, hT, if_pos rfl]
      obtain ⟨a, ha, ea⟩ := nI_of2 (M := 99) (n := 99) (by decide) (Int32.not_lt.mpr b1.1) b1.2
      obtain ⟨b, hb', eb⟩ := nI_of2 (M := 99) (n := 99) (by decide) (Int32.not_lt.mpr b2.1) b2.2
      exact ⟨⟨a, ea, by omega, ha⟩, ⟨b, eb, by omega, hb'⟩⟩
    · rw [(hxs p (by omega)).1, (hxs p (by omega)).2]; exact w2.1 p (by omega)
  · intro p r hp hr e1 e2
    simp only [if_true] at hp hr
    by_cases ep : p = c 0
    · by_cases er : r = c 0
      · omega
      · rw [(hxs r (by omega)).1] at e1; rw [(hxs r (by omega)).2] at e2
        subst ep
        rw [hT, if_neg (by omega), if_pos rfl] at e1; rw [hT, if_pos rfl] at e2
        exact absurd ⟨r, by omega, e1.symm, e2.symm⟩ ht
    · by_cases er : r = c 0
      · rw [(hxs p (by omega)).1] at e1; rw [(hxs p (by omega)).2] at e2
        subst er
        rw [hT (10 + 2 * c 0), if_neg (by omega), if_pos rfl] at e1; rw [hT (11 + 2 * c 0), if_pos rfl] at e2
        exact absurd ⟨p, by omega, e1, e2⟩ ht
      · rw [(hxs p (by omega)).1, (hxs r (by omega)).1] at e1; rw [(hxs p (by omega)).2, (hxs r (by omega)).2] at e2
        exact w2.2 p r (by omega) (by omega) e1 e2
  · intro v hv; simp only [Nat.one_ne_zero, if_false] at hv; exact WfV_T (fun i a b => hge i a) (by omega) (by simp) (w3 v hv)
  · intro v hv; simp only [Nat.reduceEqDiff, if_false] at hv; exact WfM_T (fun i a b => hge i (by omega)) (by omega) (by simp) (w4 v hv)
  · intro v hv; simp only [Nat.reduceEqDiff, if_false] at hv; exact WfU_T (fun i a b => hge i (by omega)) (by omega) (w5 v hv)
  · intro v hv; simp only [Nat.reduceEqDiff, if_false] at hv; exact WfK_T (fun i a b => hge i (by omega)) (by omega) (by simp) (w6 v hv)
  · intro v hv; simp only [Nat.reduceEqDiff, if_false] at hv; exact WfZ_T (fun i a b => hge i (by omega)) (by omega) (by simp) (w7 v hv)
  · intro v hv; simp only [Nat.reduceEqDiff, if_false] at hv; exact WfR_T (fun i a b => hge i (by omega)) (by omega) (by simp) (by simp) (by simp) (by simp) (w8 v hv)
  · rw [h0, if_pos rfl, hT, if_neg (by omega), if_neg (by omega), if_pos rfl]
  · intro p hp
    simp only [if_true] at hp
    by_cases e : p = c 0
    · subst e; rw [h1, if_pos rfl, h2, if_pos rfl, hT, if_neg (by omega), if_pos rfl, hT, if_pos rfl]; exact ⟨rfl, rfl⟩
    · rw [h1, if_neg e, h2, if_neg e, (hxs p (by omega)).1, (hxs p (by omega)).2]; exact l1.2 p (by omega)
  · rw [h0, if_neg (by decide), hT, if_neg (by omega), if_neg (by omega), if_neg (by omega)]; exact l2.1
  · intro v hv
    simp only [Nat.one_ne_zero, if_false] at hv
    have z := LandV_T (T' := I2 137) (fun i a b => hge i a) hxs (by omega) (by omega) (w3 v hv) (l2.2 v hv)
    unfold LandV at *
    rw [hrow 3 (by decide) (by decide) (by decide) (by decide) (by decide), hrow 4 (by decide) (by decide) (by decide) (by decide) (by decide), hrow 5 (by decide) (by decide) (by decide) (by decide) (by decide), hrow 6 (by decide) (by decide) (by decide) (by decide) (by decide), hrow 7 (by decide) (by decide) (by decide) (by decide) (by decide), hrow 8 (by decide) (by decide) (by decide) (by decide) (by decide), hrow 9 (by decide) (by decide) (by decide) (by decide) (by decide)]
    exact z
  · rw [h0, if_neg (by decide), hT, if_neg (by omega), if_neg (by omega), if_neg (by omega)]; exact l3.1
  · intro v hv
    simp only [Nat.reduceEqDiff, if_false] at hv
    have z := LandM_T (T' := I2 137) (fun i a b => hge i (by omega)) (by omega) (l3.2 v hv)
    unfold LandM at *
    rw [hrow 10 (by decide) (by decide) (by decide) (by decide) (by decide), hrow 11 (by decide) (by decide) (by decide) (by decide) (by decide), hrow 12 (by decide) (by decide) (by decide) (by decide) (by decide), hrow 13 (by decide) (by decide) (by decide) (by decide) (by decide), hrow 14 (by decide) (by decide) (by decide) (by decide) (by decide)]
    exact z
  · intro m hm; rw [hrow 12 (by decide) (by decide) (by decide) (by decide) (by decide)]; exact l4 m hm
  · refine FolkR_c (r := fun j => I (15 + j)) (fun j hj => hrow _ (by omega) (by omega) (by omega) (by omega) (by omega)) ?_
    obtain ⟨⟨f1, f2⟩, ⟨f3, f4⟩, f5⟩ := hFo
    refine ⟨⟨?_, fun t ht n hn => ?_⟩, ⟨?_, fun k hk => ?_⟩, f5⟩
    · rw [hT, if_neg (by omega), if_neg (by omega), if_neg (by omega)]; exact f1
    · rw [hge _ (by omega)]; exact f2 t ht n hn
    · rw [hT, if_neg (by omega), if_neg (by omega), if_neg (by omega)]; exact f3
    · simp only [Nat.reduceEqDiff, if_false] at hk; exact FolkK_T (fun i a b => hge i (by omega)) (by omega) (f4 k hk)
  · refine BookR_c (r := fun j => I (22 + j)) (fun j hj => hrow _ (by omega) (by omega) (by omega) (by omega) (by omega)) ?_
    obtain ⟨⟨f1, f2⟩, ⟨f3, f4⟩⟩ := hBo
    refine ⟨⟨?_, fun t ht => ?_⟩, ⟨?_, fun k hk => ?_⟩⟩
    · rw [hT, if_neg (by omega), if_neg (by omega), if_neg (by omega)]; exact f1
    · simp only [Nat.reduceEqDiff, if_false] at ht; exact BookZ_T (fun i a b => hge i (by omega)) (by omega) (f2 t ht)
    · rw [hT, if_neg (by omega), if_neg (by omega), if_neg (by omega)]; exact f3
    · simp only [Nat.reduceEqDiff, if_false] at hk; exact BookK_T (fun i a b => hge i (by omega)) (by omega) (f4 k hk)
  · refine MapR_c (I := I) (L := L) (hrow 32 (by decide) (by decide) (by decide) (by decide) (by decide)) (hrow 38 (by decide) (by decide) (by decide) (by decide) (by decide)) (fun k k1 k2 => up2_row L v (by omega)) ?_
    exact MapR_T (c := c) (fun i a b => hge i a) hxs (by omega) (by simp) (by omega) (by simp) (by omega) w3 hMp
  · exact StepsR_c (hrow 48 (by decide) (by decide) (by decide) (by decide) (by decide)) (hrow 49 (by decide) (by decide) (by decide) (by decide) (by decide)) (hrow 51 (by decide) (by decide) (by decide) (by decide) (by decide)) (up2_row L v (by decide)) (up2_row L v (by decide)) q7
  · exact ReadR_c (fun f _ _ => by rw [hrow 121 (by decide) (by decide) (by decide) (by decide) (by decide)]) (hrow 122 (by decide) (by decide) (by decide) (by decide) (by decide)) (hrow 144 (by decide) (by decide) (by decide) (by decide) (by decide)) (h163 10 (by decide) (by decide)) (h163 18 (by decide) (by decide)) (h163 19 (by decide) (by decide)) q11
  · intro t ht; exact TrayR_c (hrow _ (by omega) (by omega) (by omega) (by omega) (by omega)) (hrow 160 (by decide) (by decide) (by decide) (by decide) (by decide)) (hrow 161 (by decide) (by decide) (by decide) (by decide) (by decide)) (up2_row L v (by omega)) (up2_row L v (by decide)) (q12 t ht)
  · intro i hi; exact ImgR_c (hrow 138 (by decide) (by decide) (by decide) (by decide) (by decide)) (hrow 139 (by decide) (by decide) (by decide) (by decide) (by decide)) (fun j hj => hrow _ (by omega) (by omega) (by omega) (by omega) (by omega)) (q13 i hi)
theorem op_place (hG : 100000 ≤ E.2.2.1) (q : Inv w I L Q) (x y : Int32) : OpI E w (fun h => F_L_place E (rr w 136) x y (rr w 164) h) (fun h => F_X12_place E (rr w 163) x y h) I L Q := by
  have q0 := q
  obtain ⟨c, q1, q2, q3, q4, q5, -⟩ := q
  by_cases hb : plBad (I 137) c x y
  · refine ⟨1, 0, I, _, L, L, Q, Q, ?_, m_plBad hG q1.1 hb, Inv_t (Inv_t q0), up2_s _ _ _ _, fun e => absurd e (by decide)⟩
    show F_L_place E (rr w 136) x y (rr w 164) (Hw E w I L Q) = _
    unfold F_L_place
    simp only [Option.bind_some, Option.map_some, Option.join, cI_r, cL_r, cV_r, xI_r, xL_r, xV_r, xI_t, xL_t, xV_t, lt_r, rtZ_0, rtZ_1, rtZ_zb, o136, c_plBad hG q2.1 q1.1 hb, if_true]
  · by_cases h4 : c 0 = 40
    · refine ⟨0, -1, I, up2 I 163 3 0, up2 L 164 0 (-1), up2 L 164 0 (-1), Q, Q, ?_, ?_, Inv_t (Inv_o q0), up2_s _ _ _ _, fun _ => up2_s _ _ _ _⟩
      · show F_L_place E (rr w 136) x y (rr w 164) (Hw E w I L Q) = _
        unfold F_L_place
        simp only [Option.bind_some, Option.map_some, Option.join, cI_r, cL_r, cV_r, xI_r, xL_r, xV_r, xI_t, xL_t, xV_t, lt_r, rtZ_0, rtZ_1, rtZ_zb, o136, c_plOk hG q2.1 q1.1 hb, if_pos h4, pa164, ix01]
        rfl
      · show F_X12_place E (rr w 163) x y _ = _
        rw [m_plOk hG q1.1 hb, if_pos h4]
    · have hP : c 0 ≤ 40 := (q1.1 0 (by decide)).2
      refine ⟨0, nI (c 0), up2 (up2 (up2 I 1 (c 0) x) 2 (c 0) y) 0 0 (nI (c 0 + 1)), _, up2 L 164 0 (nI (c 0)).toInt64, up2 L 164 0 (nI (c 0)).toInt64, Q, Q, ?_, ?_, inv_place (v := (nI (c 0)).toInt64) q0 q1 q2 q3 q4 q5 (by omega) hb, ?_, ?_⟩
      · show F_L_place E (rr w 136) x y (rr w 164) (Hw E w I L Q) = _
        unfold F_L_place
        simp only [Option.bind_some, Option.map_some, Option.join, cI_r, cL_r, cV_r, xI_r, xL_r, xV_r, xI_t, xL_t, xV_t, lt_r, rtZ_0, rtZ_1, rtZ_zb, o136, c_plOk hG q2.1 q1.1 hb, if_neg h4, pa164, ix01]
      · show F_X12_place E (rr w 163) x y _ = _
        have hC' : Cts (up2 (up2 (up2 I 1 (c 0) x) 2 (c 0) y) 0 0 (nI (c 0 + 1)) 137) c := q1.1
        have hb' : ¬ plBad (up2 (up2 (up2 I 1 (c 0) x) 2 (c 0) y) 0 0 (nI (c 0 + 1)) 137) c x y := hb
        rw [m_plOk hG hC' hb', if_neg h4]
      · simp only [up2_lit, Nat.reduceEqDiff, false_and, true_and, if_false, if_true]
      · intro _; exact up2_s _ _ _ _
end
