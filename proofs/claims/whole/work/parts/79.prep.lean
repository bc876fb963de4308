/-! the class' map made ready for a year -/
theorem up2_same {α : Type} (f : Nat → Nat → α) (k i : Nat) : up2 f k i (f k i) = f := by
  funext k' i'; unfold up2; split
  · rename_i h; rw [h.1, h.2]
  · rfl
theorem up2_sm {α : Type} {f : Nat → Nat → α} {k i : Nat} {v : α} (h : f k i = v) : up2 f k i v = f := by rw [← h]; exact up2_same f k i
section
variable {E : Ev} {w : Wo} {I : Nat → Nat → Int32} {L : Nat → Nat → Int64} {Q : Nat → Nat → Option Nat} {c : Nat → Nat} {T : Ro} {x : Int32}
theorem f_isThereC {a b y f l : Nat} (ha : a ≤ b) (hb : b ≤ 200) (hy : y ≤ 200) (h1 : I 32 1 = nI f) (h2 : I 32 2 = nI l) (hf : f ≤ y) (hl : y ≤ l) (hl2 : l ≤ 200) : ∃ f' l', f ≤ f' ∧ f' ≤ y ∧ y ≤ l' ∧ l' ≤ l ∧ (∀ z, f' ≤ z → z ≤ l' → ((a ≤ z ∧ z ≤ b) ↔ (a ≤ y ∧ y ≤ b))) ∧ F_X10_isThere E (rr w 32) (nI a) (nI b) (nI y) (Hw E w I L Q) = rtI (zb (a ≤ y ∧ y ≤ b)) (Hw E w (up2 (up2 I 32 1 (nI f')) 32 2 (nI l')) L Q) := by
  unfold F_X10_isThere
  by_cases c1 : a ≤ y
  · by_cases c2 : y ≤ b
    · refine ⟨if f < a then a else f, if b < l then b else l, ?_, ?_, ?_, ?_, ?_, ?_⟩
      · split <;> omega
      · split <;> omega
      · split <;> omega
      · split <;> omega
      · intro z z1 z2; split at z1 <;> split at z2 <;> omega
      · simp (disch := omega) only [Option.bind_some, Option.map_some, Option.join, cI_r, cL_r, cV_r, xI_r, xL_r, xV_r, xI_t, xL_t, xV_t, lt_r, rtZ_0, rtZ_1, rtZ_zb, m2, m3, m4, m5, m6, m7, m8, m9, m10, m11, m12, m13, m14, m15, m16, m17, m18, m19, m20, m21, m22, m23, m24, m25, m26, m27, m28, m29, m30, m31, m32, m40, m41, m60, m63, m64, m90, m99, m100, m120, m127, m164, m173, m200, m240, m255, m450, m480, m650, m722, m762, m960, m1000000, m2838, m2988, m4095, pk_mul, nI_add, nI_1, nI_leI, nI_ltI, nI_eq, ix_n, if_pos, gf32_1, gf32_2, pf32_1, pf32_2, up2_lit, Nat.reduceEqDiff, Nat.one_ne_zero, Nat.zero_ne_one, false_and, and_false, true_and, and_true, if_false, if_true, reduceIte, h1, h2, zb_t (show a ≤ y ∧ y ≤ b from ⟨c1, c2⟩)]
        congr 3
        · congr 1; split <;> rfl
        · split <;> rfl
    · refine ⟨if f < b + 1 then b + 1 else f, l, ?_, ?_, hl, Nat.le_refl _, ?_, ?_⟩
      · split <;> omega
      · split <;> omega
      · intro z z1 z2; split at z1 <;> omega
      · rw [up2_sm (show up2 I 32 1 _ 32 2 = nI l by rw [up2_i _ _ _ (by decide)]; exact h2)]
        simp (disch := omega) only [Option.bind_some, Option.map_some, Option.join, cI_r, cL_r, cV_r, xI_r, xL_r, xV_r, xI_t, xL_t, xV_t, lt_r, rtZ_0, rtZ_1, rtZ_zb, m2, m3, m4, m5, m6, m7, m8, m9, m10, m11, m12, m13, m14, m15, m16, m17, m18, m19, m20, m21, m22, m23, m24, m25, m26, m27, m28, m29, m30, m31, m32, m40, m41, m60, m63, m64, m90, m99, m100, m120, m127, m164, m173, m200, m240, m255, m450, m480, m650, m722, m762, m960, m1000000, m2838, m2988, m4095, pk_mul, nI_add, nI_1, nI_leI, nI_ltI, nI_eq, ix_n, if_pos, if_neg, gf32_1, pf32_1, h1, zb_f (show ¬ (a ≤ y ∧ y ≤ b) from fun z => c2 z.2)]
        congr 2
        congr 1; split <;> rfl
  · refine ⟨f, if a - 1 < l then a - 1 else l, Nat.le_refl _, hf, ?_, ?_, ?_, ?_⟩
    · split <;> omega
    · split <;> omega
    · intro z z1 z2; split at z2 <;> omega
    · rw [up2_sm h1]
      have e : nI a - 1 = nI (a - 1) := pk_sub (b := 1) (by omega)
      simp (disch := omega) only [Option.bind_some, Option.map_some, Option.join, cI_r, cL_r, cV_r, xI_r, xL_r, xV_r, xI_t, xL_t, xV_t, lt_r, rtZ_0, rtZ_1, rtZ_zb, m2, m3, m4, m5, m6, m7, m8, m9, m10, m11, m12, m13, m14, m15, m16, m17, m18, m19, m20, m21, m22, m23, m24, m25, m26, m27, m28, m29, m30, m31, m32, m40, m41, m60, m63, m64, m90, m99, m100, m120, m127, m164, m173, m200, m240, m255, m450, m480, m650, m722, m762, m960, m1000000, m2838, m2988, m4095, pk_mul, nI_add, nI_1, nI_leI, nI_ltI, nI_eq, ix_n, if_pos, if_neg, gf32_2, pf32_2, h2, e, zb_f (show ¬ (a ≤ y ∧ y ≤ b) from fun z => c1 z.1)]
      congr 2
      congr 1; split <;> rfl
theorem yrs_n {a b : Int32} (h : yrs a b) : ∃ f t, a = nI f ∧ b = nI t ∧ f ≤ t ∧ t ≤ 200 := h
theorem thr0_n {v y a b : Nat} (hv : v < c 1) (ea : T (94 + 6 * v) = nI a) (eb : T (95 + 6 * v) = nI b) (hb : a ≤ b ∧ b ≤ 200) (hy : y ≤ 200) : thr0 T c y v ↔ a ≤ y ∧ y ≤ b := by
  unfold thr0
  rw [ea, eb, nI_leI (by omega) (by omega), nI_leI (by omega) (by omega)]
  exact ⟨fun h => h.2, fun h => ⟨hv, h⟩⟩
def mkY (T : Ro) (y m : Nat) : Prop := T (453 + 5 * m) ≤ nI y ∧ nI y ≤ T (454 + 5 * m)
theorem mkY_n {m y a b : Nat} (ea : T (453 + 5 * m) = nI a) (eb : T (454 + 5 * m) = nI b) (hb : a ≤ b ∧ b ≤ 200) (hy : y ≤ 200) : mkY T y m ↔ a ≤ y ∧ y ≤ b := by
  unfold mkY
  rw [ea, eb, nI_leI (by omega) (by omega), nI_leI (by omega) (by omega)]
/-- first and last year of the stretch -/
def strt (I : Nat → Ro) (y f l : Nat) : Prop := I 32 1 = nI f ∧ I 32 2 = nI l ∧ f ≤ y ∧ y ≤ l ∧ l ≤ 200
theorem c_prep26 {y : Nat} {K : Int64 → Hp → Rs} (hG : 100000 ≤ E.2.2.1) (q1 : WfT T c) (q2 : LandR I T c) (hy : y ≤ 200) (h1 : strt I y 0 200) : ∃ I' f l t, (∀ k i, ¬ (k = 32 ∧ (i = 1 ∨ i = 2)) → I' k i = I k i) ∧ strt I' y f l ∧ (∀ z, f ≤ z → z ≤ l → ∀ v, (thr0 T c z v ↔ thr0 T c y v)) ∧ (∀ v, v < 64 → (b64 t v ↔ thr0 T c y v)) ∧ L_X10_prepare_26 E K (rr w 32) (nI y) E.2.2.1 0 0 (Hw E w I L Q) = K t (Hw E w I' L Q) := by
  have k1 : c 1 ≤ 60 := (q1.1 1 (by decide)).2
  have e1 : I 0 3 = nI (c 1) := q2.2.1.1.trans (q1.1 1 (by decide)).1
  refine lpK2 (σ := (Nat → Nat → Int32) × Int64) (Lp := fun g i s => L_X10_prepare_26 E K (rr w 32) (nI y) g s.2 (nI i) (Hw E w s.1 L Q)) (K := fun s => K s.2 (Hw E w s.1 L Q)) (Iv := fun i s => (∀ k i, ¬ (k = 32 ∧ (i = 1 ∨ i = 2)) → s.1 k i = I k i) ∧ ∃ f l, strt s.1 y f l ∧ (∀ z, f ≤ z → z ≤ l → ∀ v, v < i → (thr0 T c z v ↔ thr0 T c y v)) ∧ (∀ v, v < 64 → (b64 s.2 v ↔ v < i ∧ thr0 T c y v))) (N := c 1) (g := E.2.2.1) (i := 0) (s := (I, 0)) ?_ ?_ ?_ (by omega) (by omega) ⟨fun _ _ _ => rfl, 0, 200, h1, fun _ _ _ v hv => absurd hv (by omega), fun v hv => ⟨fun z => absurd z b64_0, fun z => absurd z.1 (by omega)⟩⟩
  · rintro ⟨I', t⟩ ⟨z1, f, l, z2, z3, z4⟩ ee
    dsimp only at *
    refine ⟨I', f, l, t, z1, z2, fun z h1 h2 v => ?_, fun v hv => ?_, ee⟩
    · by_cases hv : v < c 1
      · exact z3 z h1 h2 v hv
      · exact ⟨fun h => absurd h.1 hv, fun h => absurd h.1 hv⟩
    · rw [z4 v hv]; exact ⟨fun h => h.2, fun h => ⟨h.1, h⟩⟩
  · rintro g i ⟨I1, t⟩ hi ⟨z1, f, l, z2, z3, z4⟩
    dsimp only at *
    obtain ⟨a, b, ea, eb, hab, hb⟩ := (q1.2.2.1 i hi).2.2.2.2.2
    have lv := q2.2.1.2 i hi
    have r5 : I1 5 i = nI a := by rw [z1 5 i (by omega), lv.2.2.1]; exact ea
    have r6 : I1 6 i = nI b := by rw [z1 6 i (by omega), lv.2.2.2.1]; exact eb
    have e1' : I1 0 3 = nI (c 1) := by rw [z1 0 3 (by omega)]; exact e1
    obtain ⟨f', l', g1, g2, g3, g4, g5, g6⟩ := f_isThereC (E := E) (w := w) (I := I1) (L := L) (Q := Q) hab hb hy z2.1 z2.2.1 z2.2.2.1 z2.2.2.2.1 z2.2.2.2.2
    generalize eI2 : up2 (up2 I1 32 1 (nI f')) 32 2 (nI l') = I2 at g6
    have step : L_X10_prepare_26 E K (rr w 32) (nI y) (g + 1) t (nI i) (Hw E w I1 L Q) = if zb (a ≤ y ∧ y ≤ b) = 0 then L_X10_prepare_26 E K (rr w 32) (nI y) g t (nI (i + 1)) (Hw E w I2 L Q) else L_X10_prepare_26 E K (rr w 32) (nI y) g (t ||| ((1 : Int64) <<< ((nI i).toInt64 &&& 63))) (nI (i + 1)) (Hw E w I2 L Q) := by
      rw [L_X10_prepare_26]
      simp (disch := omega) only [Option.bind_some, Option.map_some, Option.join, cI_r, cL_r, cV_r, xI_r, xL_r, xV_r, xI_t, xL_t, xV_t, lt_r, rtZ_0, rtZ_1, rtZ_zb, m2, m3, m4, m5, m6, m7, m8, m9, m10, m11, m12, m13, m14, m15, m16, m17, m18, m19, m20, m21, m22, m23, m24, m25, m26, m27, m28, m29, m30, m31, m32, m40, m41, m60, m63, m64, m90, m99, m100, m120, m127, m164, m173, m200, m240, m255, m450, m480, m650, m722, m762, m960, m1000000, m2838, m2988, m4095, pk_mul, nI_add, nI_1, nI_leI, nI_ltI, nI_eq, ix_n, gf32_0, gf0_3, e1', if_neg, gf0_6, gf0_7, ga5, ga6, r5, r6, o32, g6]
    have fr : ∀ k j, ¬ (k = 32 ∧ (j = 1 ∨ j = 2)) → I2 k j = I k j := fun k j h => by
      rw [← eI2, up2_ne _ _ _ _ (fun e => by cases e; exact h ⟨rfl, Or.inr rfl⟩), up2_ne _ _ _ _ (fun e => by cases e; exact h ⟨rfl, Or.inl rfl⟩)]; exact z1 k j h
    have st : strt I2 y f' l' := ⟨by rw [← eI2, up2_i _ _ _ (by decide), up2_s], by rw [← eI2, up2_s], g2, g3, by have := z2.2.2.2.2; omega⟩
    have hl2 := z2.2.2.2.2
    have yr : ∀ z, f' ≤ z → z ≤ l' → ∀ v, v < i + 1 → (thr0 T c z v ↔ thr0 T c y v) := fun z h1 h2 v hv => by
      by_cases e : v = i
      · subst e
        rw [thr0_n hi ea eb ⟨hab, hb⟩ (by omega), thr0_n hi ea eb ⟨hab, hb⟩ hy]
        exact g5 z h1 h2
      · exact z3 z (by omega) (by omega) v (by omega)
    have tn0 := thr0_n (y := y) hi ea eb ⟨hab, hb⟩ hy
    by_cases p : a ≤ y ∧ y ≤ b
    · refine ⟨(I2, t ||| ((1 : Int64) <<< ((nI i).toInt64 &&& 63))), ⟨fr, f', l', st, yr, fun v hv => ?_⟩, ?_⟩
      · show b64 (t ||| _) v ↔ _
        rw [b64_or, b64_one (by omega), z4 v hv]
        constructor
        · rintro (h | h)
          · exact ⟨by omega, h.2⟩
          · subst h; exact ⟨by omega, tn0.mpr p⟩
        · rintro ⟨h1, h2⟩
          by_cases e : v = i
          · exact Or.inr e
          · exact Or.inl ⟨by omega, h2⟩
      · show L_X10_prepare_26 E K (rr w 32) (nI y) (g + 1) t (nI i) (Hw E w I1 L Q) = _
        rw [step, zi_t p]
    · refine ⟨(I2, t), ⟨fr, f', l', st, yr, fun v hv => ?_⟩, ?_⟩
      · show b64 t v ↔ _
        rw [z4 v hv]
        constructor
        · rintro ⟨h1, h2⟩; exact ⟨by omega, h2⟩
        · rintro ⟨h1, h2⟩
          by_cases e : v = i
          · subst e; exact absurd (tn0.mp h2) p
          · exact ⟨by omega, h2⟩
      · show L_X10_prepare_26 E K (rr w 32) (nI y) (g + 1) t (nI i) (Hw E w I1 L Q) = _
        rw [step, zi_f p]
  · rintro g ⟨I1, t⟩ ⟨z1, z2⟩
    dsimp only at *
    have e1' : I1 0 3 = nI (c 1) := by rw [z1 0 3 (by omega)]; exact e1
    show L_X10_prepare_26 E K (rr w 32) (nI y) (g + 1) t (nI (c 1)) (Hw E w I1 L Q) = _
    rw [L_X10_prepare_26]
    simp (disch := omega) only [Option.bind_some, Option.map_some, Option.join, cI_r, cL_r, cV_r, xI_r, xL_r, xV_r, xI_t, xL_t, xV_t, lt_r, rtZ_0, rtZ_1, rtZ_zb, m2, m3, m4, m5, m6, m7, m8, m9, m10, m11, m12, m13, m14, m15, m16, m17, m18, m19, m20, m21, m22, m23, m24, m25, m26, m27, m28, m29, m30, m31, m32, m40, m41, m60, m63, m64, m90, m99, m100, m120, m127, m164, m173, m200, m240, m255, m450, m480, m650, m722, m762, m960, m1000000, m2838, m2988, m4095, pk_mul, nI_add, nI_1, nI_leI, nI_ltI, nI_eq, ix_n, gf32_0, gf0_3, e1', if_pos]
/-- marks that stand, by their kinds -/
def mk36 (T : Ro) (y n k p m : Nat) : Prop := m < n ∧ T (450 + 5 * m) = nI p ∧ T (451 + 5 * m) = nI k ∧ mkY T y m
theorem c_prep119 {y f0 l0 : Nat} (hG : 100000 ≤ E.2.2.1) (q1 : WfT T c) (q2 : LandR I T c) (hy : y ≤ 200) (h1 : strt I y f0 l0) (hz : ∀ k, k < 12 → L 36 k = 0 ∧ L 37 k = 0) : ∃ I' L' f l, (∀ k i, ¬ (k = 32 ∧ (i = 1 ∨ i = 2)) → I' k i = I k i) ∧ (∀ k, k ≠ 36 → k ≠ 37 → L' k = L k) ∧ strt I' y f l ∧ f0 ≤ f ∧ l ≤ l0 ∧ (∀ z, f ≤ z → z ≤ l → MarksOk L' T c z) ∧ L_X10_prepare_119 E (rr w 32) (nI y) E.2.2.1 0 (Hw E w I L Q) = rtV (Hw E w I' L' Q) := by
  have k2 : c 2 ≤ 40 := (q1.1 2 (by decide)).2
  have k0 : c 0 ≤ 40 := (q1.1 0 (by decide)).2
  have e2 : I 0 11 = nI (c 2) := q2.2.2.1.1.trans (q1.1 2 (by decide)).1
  refine lpK2 (σ := (Nat → Nat → Int32) × (Nat → Nat → Int64)) (Lp := fun g i s => L_X10_prepare_119 E (rr w 32) (nI y) g (nI i) (Hw E w s.1 s.2 Q)) (K := fun s => rtV (Hw E w s.1 s.2 Q)) (Iv := fun i s => (∀ k i, ¬ (k = 32 ∧ (i = 1 ∨ i = 2)) → s.1 k i = I k i) ∧ (∀ k, k ≠ 36 → k ≠ 37 → s.2 k = L k) ∧ ∃ f l, strt s.1 y f l ∧ f0 ≤ f ∧ l ≤ l0 ∧ (∀ z, f ≤ z → z ≤ l → ∀ m, m < i → (mkY T z m ↔ mkY T y m)) ∧ (∀ k, k < 12 → ∀ p, p < 64 → (b64 (s.2 36 k) p ↔ ∃ m, mk36 T y i k p m) ∧ (b64 (s.2 37 k) p ↔ ∃ m, mk36 T y i k p m ∧ T (452 + 5 * m) = 1))) (N := c 2) (g := E.2.2.1) (i := 0) (s := (I, L)) ?_ ?_ ?_ (by omega) (by omega) ⟨fun _ _ _ => rfl, fun _ _ _ => rfl, f0, l0, h1, Nat.le_refl _, Nat.le_refl _, fun _ _ _ m hm => absurd hm (by omega), fun k hk p hp => ⟨by show b64 (L 36 k) p ↔ _; rw [(hz k hk).1]; exact ⟨fun z => absurd z b64_0, fun ⟨m, z, _⟩ => absurd z (by omega)⟩, by show b64 (L 37 k) p ↔ _; rw [(hz k hk).2]; exact ⟨fun z => absurd z b64_0, fun ⟨m, ⟨z, _⟩, _⟩ => absurd z (by omega)⟩⟩⟩
  · rintro ⟨I', L'⟩ ⟨z1, z0, f, l, z2, z3, z4, z5, z6⟩ ee
    dsimp only at *
    refine ⟨I', L', f, l, z1, z0, z2, z3, z4, fun z h1 h2 k hk p hp => ?_, ee⟩
    have mm : ∀ m, mk36 T y (c 2) k p m ↔ mkAt T c z k p m := fun m => by
      unfold mk36 mkAt
      constructor
      · rintro ⟨a1, a2, a3, a4⟩; exact ⟨a1, a2, a3, (z5 z h1 h2 m a1).mpr a4⟩
      · rintro ⟨a1, a2, a3, a4⟩; exact ⟨a1, a2, a3, (z5 z h1 h2 m a1).mp a4⟩
    refine ⟨?_, ?_⟩
    · rw [(z6 k hk p hp).1]; exact exists_congr mm
    · rw [(z6 k hk p hp).2]; exact exists_congr fun m => and_congr_left fun _ => mm m
  · rintro g i ⟨I1, L1⟩ hi ⟨z1, z0, f, l, z2, z3, z4, z5, z6⟩
    dsimp only at *
    have wm := q1.2.2.2.1 i hi
    obtain ⟨pl, ep, hp⟩ := wm.1
    obtain ⟨kd, ek, hk⟩ := wm.2.1
    obtain ⟨tl, et, ht⟩ := wm.2.2.1
    obtain ⟨a, b, ea, eb, hab, hb⟩ := wm.2.2.2
    have lm := q2.2.2.1.2 i hi
    have r10 : I1 10 i = nI pl := by rw [z1 10 i (by omega), lm.1]; exact ep
    have r11 : I1 11 i = nI kd := by rw [z1 11 i (by omega), lm.2.1]; exact ek
    have r12 : I1 12 i = nI tl := by rw [z1 12 i (by omega), lm.2.2.1]; exact et
    have r13 : I1 13 i = nI a := by rw [z1 13 i (by omega), lm.2.2.2.1]; exact ea
    have r14 : I1 14 i = nI b := by rw [z1 14 i (by omega), lm.2.2.2.2]; exact eb
    have e2' : I1 0 11 = nI (c 2) := by rw [z1 0 11 (by omega)]; exact e2
    obtain ⟨f', l', g1, g2, g3, g4, g5, g6⟩ := f_isThereC (E := E) (w := w) (I := I1) (L := L1) (Q := Q) hab hb hy z2.1 z2.2.1 z2.2.2.1 z2.2.2.2.1 z2.2.2.2.2
    generalize eI2 : up2 (up2 I1 32 1 (nI f')) 32 2 (nI l') = I2 at g6
    have fr0 : ∀ k j, ¬ (k = 32 ∧ (j = 1 ∨ j = 2)) → I2 k j = I1 k j := fun k j h => by
      rw [← eI2, up2_ne _ _ _ _ (fun e => by cases e; exact h ⟨rfl, Or.inr rfl⟩), up2_ne _ _ _ _ (fun e => by cases e; exact h ⟨rfl, Or.inl rfl⟩)]
    have s10 : I2 10 i = nI pl := by rw [fr0 10 i (by omega)]; exact r10
    have s11 : I2 11 i = nI kd := by rw [fr0 11 i (by omega)]; exact r11
    have s12 : I2 12 i = nI tl := by rw [fr0 12 i (by omega)]; exact r12
    have fr : ∀ k j, ¬ (k = 32 ∧ (j = 1 ∨ j = 2)) → I2 k j = I k j := fun k j h => by rw [fr0 k j h]; exact z1 k j h
    have st : strt I2 y f' l' := ⟨by rw [← eI2, up2_i _ _ _ (by decide), up2_s], by rw [← eI2, up2_s], g2, g3, by have := z2.2.2.2.2; omega⟩
    have hl2 := z2.2.2.2.2
    have yr : ∀ z, f' ≤ z → z ≤ l' → ∀ m, m < i + 1 → (mkY T z m ↔ mkY T y m) := fun z h1 h2 m hm => by
      by_cases e : m = i
      · subst e
        rw [mkY_n ea eb ⟨hab, hb⟩ (by omega), mkY_n ea eb ⟨hab, hb⟩ hy]
        exact g5 z h1 h2
      · exact z5 z (by omega) (by omega) m (by omega)
    have tn0 := mkY_n (y := y) ea eb ⟨hab, hb⟩ hy
    generalize eo : (1 : Int64) <<< ((nI pl).toInt64 &&& 63) = one
    have ob : ∀ j, b64 one j ↔ j = pl := fun j => by rw [← eo]; exact b64_one (by omega)
    generalize eL2 : (if nI tl = 0 then up2 L1 36 kd (L1 36 kd ||| one) else up2 (up2 L1 36 kd (L1 36 kd ||| one)) 37 kd (L1 37 kd ||| one)) = L2
    have step : L_X10_prepare_119 E (rr w 32) (nI y) (g + 1) (nI i) (Hw E w I1 L1 Q) = if zb (a ≤ y ∧ y ≤ b) = 0 then L_X10_prepare_119 E (rr w 32) (nI y) g (nI (i + 1)) (Hw E w I2 L1 Q) else L_X10_prepare_119 E (rr w 32) (nI y) g (nI (i + 1)) (Hw E w I2 L2 Q) := by
      rw [L_X10_prepare_119]
      unfold F_X10_addMark
      simp (disch := omega) only [Option.bind_some, Option.map_some, Option.join, cI_r, cL_r, cV_r, xI_r, xL_r, xV_r, xI_t, xL_t, xV_t, lt_r, rtZ_0, rtZ_1, rtZ_zb, m2, m3, m4, m5, m6, m7, m8, m9, m10, m11, m12, m13, m14, m15, m16, m17, m18, m19, m20, m21, m22, m23, m24, m25, m26, m27, m28, m29, m30, m31, m32, m40, m41, m60, m63, m64, m90, m99, m100, m120, m127, m164, m173, m200, m240, m255, m450, m480, m650, m722, m762, m960, m1000000, m2838, m2988, m4095, pk_mul, nI_add, nI_1, nI_leI, nI_ltI, nI_eq, ix_n, gf32_0, gf0_11, e2', if_neg, gf0_15, gf0_16, ga13, ga14, r13, r14, o32, g6, gf0_13, gf0_12, gf0_14, ga10, ga11, ga12, s10, s11, s12, gf32_8, gf32_9, ga36, ga37, pa36, pa37, eo, up2_lit, Nat.reduceEqDiff, Nat.one_ne_zero, Nat.zero_ne_one, false_and, and_false, true_and, and_true, if_false, if_true, reduceIte]
      congr 1
      rw [← eL2]
      split <;> rfl
    have nw : ∀ (R : Nat → Prop) k p, k < 12 → p < 64 → ((∃ m, mk36 T y (i + 1) k p m ∧ R m) ↔ (∃ m, mk36 T y i k p m ∧ R m) ∨ (p = pl ∧ k = kd ∧ mkY T y i ∧ R i)) := fun R k p hk' hp' => by
      constructor
      · rintro ⟨m, ⟨a1, a2, a3, a4⟩, a5⟩
        by_cases e : m = i
        · subst e
          exact Or.inr ⟨(nI_eq (by omega) (by omega)).mp (a2.symm.trans ep), (nI_eq (by omega) (by omega)).mp (a3.symm.trans ek), a4, a5⟩
        · exact Or.inl ⟨m, ⟨by omega, a2, a3, a4⟩, a5⟩
      · rintro (⟨m, ⟨a1, a2⟩, a5⟩ | ⟨rfl, rfl, a3, a5⟩)
        · exact ⟨m, ⟨by omega, a2⟩, a5⟩
        · exact ⟨i, ⟨by omega, ep, ek, a3⟩, a5⟩
    have nw1 : ∀ k p, k < 12 → p < 64 → ((∃ m, mk36 T y (i + 1) k p m) ↔ (∃ m, mk36 T y i k p m) ∨ (p = pl ∧ k = kd ∧ mkY T y i)) := fun k p hk' hp' => by
      have := nw (fun _ => True) k p hk' hp'
      simp only [and_true] at this
      exact this
    by_cases p : a ≤ y ∧ y ≤ b
    · have l36 : ∀ k, L2 36 k = if k = kd then L1 36 kd ||| one else L1 36 k := fun k => by
        rw [← eL2]
        split
        · rw [up2_lit]; simp only [true_and]
        · rw [up2_k _ _ _ (by decide), up2_lit]; simp only [true_and]
      have l37 : ∀ k, L2 37 k = if ¬ tl = 0 ∧ k = kd then L1 37 kd ||| one else L1 37 k := fun k => by
        rw [← eL2]
        by_cases t0 : tl = 0
        · rw [t0, if_pos nI_0, up2_k _ _ _ (by decide), if_neg (fun z => z.1 rfl)]
        · rw [if_neg (nI_ne0 (by omega) (by omega)), up2_lit]; simp only [true_and, t0, not_false_eq_true, up2_k L1 (k := 36) (k' := 37) _ _ (by decide)]
      have lo : ∀ k, k ≠ 36 → k ≠ 37 → L2 k = L1 k := fun k h1 h2 => by
        rw [← eL2]
        split
        · rw [up2_row _ _ h1]
        · rw [up2_row _ _ h2, up2_row _ _ h1]
      refine ⟨(I2, L2), ⟨fr, fun k h1 h2 => (lo k h1 h2).trans (z0 k h1 h2), f', l', st, by omega, by omega, yr, fun k hk' p' hp' => ⟨?_, ?_⟩⟩, ?_⟩
      · show b64 (L2 36 k) p' ↔ _
        rw [nw1 k p' hk' hp', l36 k, ← (z6 k hk' p' hp').1]
        by_cases e : k = kd
        · rw [if_pos e, b64_or, ob, e]
          exact ⟨fun h => h.elim Or.inl (fun h => Or.inr ⟨h, rfl, tn0.mpr p⟩), fun h => h.elim Or.inl (fun h => Or.inr h.1)⟩
        · rw [if_neg e]
          exact ⟨Or.inl, fun h => h.elim id (fun h => absurd h.2.1 e)⟩
      · show b64 (L2 37 k) p' ↔ _
        rw [nw (fun m => T (452 + 5 * m) = 1) k p' hk' hp', l37 k, ← (z6 k hk' p' hp').2]
        have t1 : T (452 + 5 * i) = 1 ↔ ¬ tl = 0 := by
          rw [et]
          exact ⟨fun h z => by rw [z] at h; exact absurd h (by decide), fun h => by rw [show tl = 1 by omega]; rfl⟩
        by_cases e : ¬ tl = 0 ∧ k = kd
        · rw [if_pos e, b64_or, ob, e.2]
          exact ⟨fun h => h.elim Or.inl (fun h => Or.inr ⟨h, rfl, tn0.mpr p, t1.mpr e.1⟩), fun h => h.elim Or.inl (fun h => Or.inr h.1)⟩
        · rw [if_neg e]
          exact ⟨Or.inl, fun h => h.elim id (fun h => absurd ⟨t1.mp h.2.2.2, h.2.1⟩ e)⟩
      · show L_X10_prepare_119 E (rr w 32) (nI y) (g + 1) (nI i) (Hw E w I1 L1 Q) = _
        rw [step, zi_t p]
    · refine ⟨(I2, L1), ⟨fr, z0, f', l', st, by omega, by omega, yr, fun k hk' p' hp' => ⟨?_, ?_⟩⟩, ?_⟩
      · rw [nw1 k p' hk' hp', ← (z6 k hk' p' hp').1]
        exact ⟨Or.inl, fun h => h.elim id (fun h => absurd (tn0.mp h.2.2) p)⟩
      · rw [nw (fun m => T (452 + 5 * m) = 1) k p' hk' hp', ← (z6 k hk' p' hp').2]
        exact ⟨Or.inl, fun h => h.elim id (fun h => absurd (tn0.mp h.2.2.1) p)⟩
      · show L_X10_prepare_119 E (rr w 32) (nI y) (g + 1) (nI i) (Hw E w I1 L1 Q) = _
        rw [step, zi_f p]
  · rintro g ⟨I1, L1⟩ ⟨z1, z2⟩
    dsimp only at *
    have e2' : I1 0 11 = nI (c 2) := by rw [z1 0 11 (by omega)]; exact e2
    show L_X10_prepare_119 E (rr w 32) (nI y) (g + 1) (nI (c 2)) (Hw E w I1 L1 Q) = _
    rw [L_X10_prepare_119]
    simp (disch := omega) only [Option.bind_some, Option.map_some, Option.join, cI_r, cL_r, cV_r, xI_r, xL_r, xV_r, xI_t, xL_t, xV_t, lt_r, rtZ_0, rtZ_1, rtZ_zb, m2, m3, m4, m5, m6, m7, m8, m9, m10, m11, m12, m13, m14, m15, m16, m17, m18, m19, m20, m21, m22, m23, m24, m25, m26, m27, m28, m29, m30, m31, m32, m40, m41, m60, m63, m64, m90, m99, m100, m120, m127, m164, m173, m200, m240, m255, m450, m480, m650, m722, m762, m960, m1000000, m2838, m2988, m4095, pk_mul, nI_add, nI_1, nI_leI, nI_ltI, nI_eq, ix_n, gf32_0, gf0_11, e2', if_pos]
/-- arrows of a way: both -/
theorem shl1 {j : Nat} (hj : j < 63) : ((1 : Int64) <<< ((nI j).toInt64 &&& 63)) <<< (((1 : Int32)).toInt64 &&& 63) = (1 : Int64) <<< ((nI (j + 1)).toInt64 &&& 63) := by
  have : ∀ j, j < 63 → ((1 : Int64) <<< ((nI j).toInt64 &&& 63)) <<< (((1 : Int32)).toInt64 &&& 63) = (1 : Int64) <<< ((nI (j + 1)).toInt64 &&& 63) := by decide +kernel
  exact this j hj
def bs (v : Nat) : Int64 := (1 : Int64) <<< ((nI v).toInt64 &&& 63)
theorem bs_b {v j : Nat} (hv : v < 64) : b64 (bs v) j ↔ j = v := b64_one hv
/-- one bit more at one place -/
def orb (L : Nat → Nat → Int64) (k i v : Nat) : Nat → Nat → Int64 := up2 L k i (L k i ||| bs v)
theorem orb_row {k i v k' : Nat} (h : k' ≠ k) : orb L k i v k' = L k' := up2_row L _ h
theorem orb_b {k i v i' j : Nat} (hv : v < 64) : b64 (orb L k i v k i') j ↔ b64 (L k i') j ∨ (i' = i ∧ j = v) := by
  unfold orb
  by_cases e : i' = i
  · rw [e, up2_s, b64_or, bs_b hv]; exact ⟨fun h => h.elim Or.inl (fun z => Or.inr ⟨rfl, z⟩), fun h => h.elim Or.inl (fun z => Or.inr z.2)⟩
  · rw [up2_i _ _ _ e]; exact ⟨Or.inl, fun h => h.elim id (fun z => absurd z.1 e)⟩
def addW (L : Nat → Nat → Int64) (v a b : Nat) : Nat → Nat → Int64 := orb (orb (orb (orb L 35 a b) 35 b a) 34 (2 * a + 2 * v / 64) (2 * v % 64)) 34 (2 * b + 2 * v / 64) (2 * v % 64 + 1)
def addP (L : Nat → Nat → Int64) (v : Nat) : Nat → Nat → Int64 := up2 L 33 (2 * v / 64) (L 33 (2 * v / 64) ||| (bs (2 * v % 64) ||| bs (2 * v % 64 + 1)))
theorem addP_b {v i j : Nat} : b64 (addP L v 33 i) j ↔ b64 (L 33 i) j ∨ (i = 2 * v / 64 ∧ (j = 2 * v % 64 ∨ j = 2 * v % 64 + 1)) := by
  unfold addP
  by_cases e : i = 2 * v / 64
  · rw [e, up2_s, b64_or, b64_or, bs_b (by omega), bs_b (by omega)]; exact ⟨fun h => h.elim Or.inl (fun z => Or.inr ⟨rfl, z⟩), fun h => h.elim Or.inl (fun z => Or.inr z.2)⟩
  · rw [up2_i _ _ _ e]; exact ⟨Or.inl, fun h => h.elim id (fun z => absurd z.1 e)⟩
theorem c_addWay {v a b : Nat} (q1 : WfT T c) (q2 : LandR I T c) (hv : v < c 1) (ea : T (90 + 6 * v) = nI a) (eb : T (91 + 6 * v) = nI b) (ha : a < 40) (hb : b < 40) : F_X10_addWay E (rr w 32) (nI v) (Hw E w I L Q) = rtV (Hw E w I (if T (92 + 6 * v) = 2 then addP (addW L v a b) v else addW L v a b) Q) := by
  have k1 : c 1 ≤ 60 := (q1.1 1 (by decide)).2
  have lv := q2.2.1.2 v hv
  have r3 : I 3 v = T (92 + 6 * v) := lv.1
  have r7 : I 7 (4 * v) = nI b := lv.2.2.2.2.1.trans eb
  have r71 : I 7 (4 * v + 1) = nI a := lv.2.2.2.2.2.1.trans ea
  unfold F_X10_addWay
  simp (disch := omega) only [Option.bind_some, Option.map_some, Option.join, cI_r, cL_r, cV_r, xI_r, xL_r, xV_r, xI_t, xL_t, xV_t, lt_r, rtZ_0, rtZ_1, rtZ_zb, m2, m3, m4, m5, m6, m7, m8, m9, m10, m11, m12, m13, m14, m15, m16, m17, m18, m19, m20, m21, m22, m23, m24, m25, m26, m27, m28, m29, m30, m31, m32, m40, m41, m60, m63, m64, m90, m99, m100, m120, m127, m164, m173, m200, m240, m255, m450, m480, m650, m722, m762, m960, m1000000, m2838, m2988, m4095, pk_mul, nI_add, nI_1, nI_leI, nI_ltI, nI_eq, ix_n, gf32_0, gf0_8, ga7, r7, r71, gf32_7, ga35, pa35, sh6, ad63, shl1, gf32_6, ga34, pa34, gf0_4, ga3, r3]
  by_cases p : T (92 + 6 * v) = 2
  · rw [if_neg (not_not_intro (show T (92 + 6 * v) = nI 2 from p)), if_pos (show T (92 + 6 * v) = nI 2 from p)]
    simp (disch := omega) only [Option.bind_some, Option.map_some, Option.join, cI_r, cL_r, cV_r, xI_r, xL_r, xV_r, xI_t, xL_t, xV_t, lt_r, rtZ_0, rtZ_1, rtZ_zb, m2, m3, m4, m5, m6, m7, m8, m9, m10, m11, m12, m13, m14, m15, m16, m17, m18, m19, m20, m21, m22, m23, m24, m25, m26, m27, m28, m29, m30, m31, m32, m40, m41, m60, m63, m64, m90, m99, m100, m120, m127, m164, m173, m200, m240, m255, m450, m480, m650, m722, m762, m960, m1000000, m2838, m2988, m4095, pk_mul, nI_add, nI_1, nI_leI, nI_ltI, nI_eq, ix_n, gf32_5, ga33, pa33]
    rfl
  · rw [if_pos (show ¬ T (92 + 6 * v) = nI 2 from p), if_neg (show ¬ T (92 + 6 * v) = nI 2 from p)]
    rfl
/-- what layWays lays, for the first i ways -/
def WaysTo (L : Nat → Nat → Int64) (T : Ro) (S : Nat → Prop) (i : Nat) : Prop := (∀ hf, hf < 2 → ∀ j, j < 64 → (b64 (L 33 hf) j ↔ ((64 * hf + j) / 2 < i ∧ S ((64 * hf + j) / 2)) ∧ T (92 + 6 * ((64 * hf + j) / 2)) = 2)) ∧ (∀ p, p < 40 → ∀ hf, hf < 2 → ∀ j, j < 64 → (b64 (L 34 (2 * p + hf)) j ↔ ((64 * hf + j) / 2 < i ∧ S ((64 * hf + j) / 2)) ∧ ast T (64 * hf + j) = nI p)) ∧ (∀ p, p < 40 → ∀ q, q < 64 → (b64 (L 35 p) q ↔ ∃ a, (a / 2 < i ∧ S (a / 2)) ∧ ast T a = nI p ∧ aen T a = nI q))
theorem WaysTo_no {S : Nat → Prop} {i : Nat} (h : ¬ S i) (z : WaysTo L T S i) : WaysTo L T S (i + 1) := by
  have e : ∀ v, (v < i ∧ S v) ↔ (v < i + 1 ∧ S v) := fun v => ⟨fun a => ⟨by omega, a.2⟩, fun a => ⟨by
    by_cases ev : v = i
    · subst ev; exact absurd a.2 h
    · omega, a.2⟩⟩
  obtain ⟨z1, z2, z3⟩ := z
  refine ⟨fun hf h1 j hj => by rw [z1 hf h1 j hj, e], fun p hp hf h1 j hj => by rw [z2 p hp hf h1 j hj, e], fun p hp q hq => ?_⟩
  rw [z3 p hp q hq]
  exact exists_congr fun a => by rw [e]
theorem WaysTo_yes {S : Nat → Prop} {i a b : Nat} (hi : i < 60) (h : S i) (ea : T (90 + 6 * i) = nI a) (eb : T (91 + 6 * i) = nI b) (ha : a < 40) (hb : b < 40) (z : WaysTo L T S i) : WaysTo (if T (92 + 6 * i) = 2 then addP (addW L i a b) i else addW L i a b) T S (i + 1) := by
  have e : ∀ v, (v < i + 1 ∧ S v) ↔ (v < i ∧ S v) ∨ v = i := fun v => ⟨fun a => by
    by_cases ev : v = i
    · exact Or.inr ev
    · exact Or.inl ⟨by omega, a.2⟩, fun a => a.elim (fun a => ⟨by omega, a.2⟩) (fun a => by subst a; exact ⟨by omega, h⟩)⟩
  obtain ⟨z1, z2, z3⟩ := z
  have r33 : ∀ L1 : Nat → Nat → Int64, addW L1 i a b 33 = L1 33 := fun L1 => by unfold addW; rw [orb_row (by decide), orb_row (by decide), orb_row (by decide), orb_row (by decide)]
  have rp : ∀ k, k ≠ 33 → ∀ L1 : Nat → Nat → Int64, (if T (92 + 6 * i) = 2 then addP L1 i else L1) k = L1 k := fun k hk L1 => by
    split
    · exact up2_row _ _ hk
    · rfl
  refine ⟨fun hf h1 j hj => ?_, fun p hp hf h1 j hj => ?_, fun p hp q hq => ?_⟩
  · rw [e]
    by_cases p : T (92 + 6 * i) = 2
    · rw [if_pos p, addP_b, r33, z1 hf h1 j hj]
      constructor
      · rintro (⟨h2, h3⟩ | h2)
        · exact ⟨Or.inl h2, h3⟩
        · have : (64 * hf + j) / 2 = i := by omega
          rw [this]; exact ⟨Or.inr rfl, p⟩
      · rintro ⟨h2 | h2, h3⟩
        · exact Or.inl ⟨h2, h3⟩
        · exact Or.inr (by omega)
    · rw [if_neg p, r33, z1 hf h1 j hj]
      constructor
      · rintro ⟨h2, h3⟩; exact ⟨Or.inl h2, h3⟩
      · rintro ⟨h2 | h2, h3⟩
        · exact ⟨h2, h3⟩
        · rw [h2] at h3; exact absurd h3 p
  · rw [e, rp 34 (by decide)]
    unfold addW
    rw [orb_b (by omega), orb_b (by omega), orb_row (by decide), orb_row (by decide), z2 p hp hf h1 j hj]
    have key : ((2 * p + hf = 2 * a + 2 * i / 64 ∧ j = 2 * i % 64) ∨ (2 * p + hf = 2 * b + 2 * i / 64 ∧ j = 2 * i % 64 + 1)) ↔ ((64 * hf + j) / 2 = i ∧ ast T (64 * hf + j) = nI p) := by
      constructor
      · rintro (⟨h2, h3⟩ | ⟨h2, h3⟩)
        · have h4 : 64 * hf + j = 2 * i := by omega
          have h5 : p = a := by omega
          refine ⟨by omega, ?_⟩
          unfold ast
          rw [h4, if_pos (by omega), show 2 * i / 2 = i by omega, h5]; exact ea
        · have h4 : 64 * hf + j = 2 * i + 1 := by omega
          have h5 : p = b := by omega
          refine ⟨by omega, ?_⟩
          unfold ast
          rw [h4, if_neg (by omega), show (2 * i + 1) / 2 = i by omega, h5]; exact eb
      · rintro ⟨h2, h3⟩
        unfold ast at h3
        rw [h2] at h3
        by_cases c0 : (64 * hf + j) % 2 = 0
        · rw [if_pos c0, ea, nI_eq (by omega) (by omega)] at h3
          exact Or.inl (by omega)
        · rw [if_neg c0, eb, nI_eq (by omega) (by omega)] at h3
          exact Or.inr (by omega)
    rw [or_assoc, key]
    constructor
    · rintro (⟨h2, h3⟩ | ⟨h2, h3⟩)
      · exact ⟨Or.inl h2, h3⟩
      · exact ⟨Or.inr h2, h3⟩
    · rintro ⟨h2 | h2, h3⟩
      · exact Or.inl ⟨h2, h3⟩
      · exact Or.inr ⟨h2, h3⟩
  · rw [rp 35 (by decide)]
    unfold addW
    rw [orb_row (by decide), orb_row (by decide), orb_b (by omega), orb_b (by omega), z3 p hp q hq]
    constructor
    · rintro ((⟨x, h2, h3⟩ | ⟨rfl, rfl⟩) | ⟨rfl, rfl⟩)
      · exact ⟨x, (e _).mpr (Or.inl h2), h3⟩
      · refine ⟨2 * i, (e _).mpr (Or.inr (by omega)), ?_, ?_⟩
        · unfold ast; rw [if_pos (by omega), show 2 * i / 2 = i by omega]; exact ea
        · unfold aen; rw [if_pos (by omega), show 2 * i / 2 = i by omega]; exact eb
      · refine ⟨2 * i + 1, (e _).mpr (Or.inr (by omega)), ?_, ?_⟩
        · unfold ast; rw [if_neg (by omega), show (2 * i + 1) / 2 = i by omega]; exact eb
        · unfold aen; rw [if_neg (by omega), show (2 * i + 1) / 2 = i by omega]; exact ea
    · rintro ⟨x, h2, h3, h4⟩
      rcases (e _).mp h2 with h2 | h2
      · exact Or.inl (Or.inl ⟨x, h2, h3, h4⟩)
      · unfold ast at h3
        unfold aen at h4
        rw [h2] at h3 h4
        by_cases c0 : x % 2 = 0
        · rw [if_pos c0, ea, nI_eq (by omega) (by omega)] at h3
          rw [if_pos c0, eb, nI_eq (by omega) (by omega)] at h4
          exact Or.inl (Or.inr ⟨h3.symm, h4.symm⟩)
        · rw [if_neg c0, eb, nI_eq (by omega) (by omega)] at h3
          rw [if_neg c0, ea, nI_eq (by omega) (by omega)] at h4
          exact Or.inr ⟨h3.symm, h4.symm⟩
theorem c_lw36 {K : Hp → Rs} (hG : 100000 ≤ E.2.2.1) : L_X10_layWays_36 E K (rr w 32) E.2.2.1 0 (Hw E w I L Q) = K (Hw E w (rs I 38 0 240 (fun _ => 0)) L Q) := by
  refine lpI (σ := Nat → Nat → Int32) (Lp := fun g i s => L_X10_layWays_36 E K (rr w 32) g (nI i) (Hw E w s L Q)) (Inv := fun i s => s = rs I 38 0 i (fun _ => 0)) (N := 240) ?_ ?_ E.2.2.1 0 I (by omega) (by omega) (rs_0 I 38 0 _).symm
  · intro g i s hi es
    subst es
    refine ⟨_, rfl, ?_⟩
    have := rs_s I 38 0 i (fun _ => 0)
    rw [Nat.zero_add] at this
    show L_X10_layWays_36 E K (rr w 32) (g + 1) (nI i) _ = _
    rw [L_X10_layWays_36]
    simp (disch := omega) only [Option.bind_some, Option.map_some, Option.join, cI_r, cL_r, cV_r, xI_r, xL_r, xV_r, xI_t, xL_t, xV_t, lt_r, rtZ_0, rtZ_1, rtZ_zb, m2, m3, m4, m5, m6, m7, m8, m9, m10, m11, m12, m13, m14, m15, m16, m17, m18, m19, m20, m21, m22, m23, m24, m25, m26, m27, m28, m29, m30, m31, m32, m40, m41, m60, m63, m64, m90, m99, m100, m120, m127, m164, m173, m200, m240, m255, m450, m480, m650, m722, m762, m960, m1000000, m2838, m2988, m4095, pk_mul, nI_add, nI_1, nI_leI, nI_ltI, nI_eq, ix_n, gf32_10, if_neg, pa38, show vp_nar .boolean (0 : Int32) = 0 from rfl, this]
  · intro g s es
    subst es
    show L_X10_layWays_36 E K (rr w 32) (g + 1) (nI 240) _ = _
    rw [L_X10_layWays_36]
    simp (disch := omega) only [Option.bind_some, Option.map_some, Option.join, cI_r, cL_r, cV_r, xI_r, xL_r, xV_r, xI_t, xL_t, xV_t, lt_r, rtZ_0, rtZ_1, rtZ_zb, m2, m3, m4, m5, m6, m7, m8, m9, m10, m11, m12, m13, m14, m15, m16, m17, m18, m19, m20, m21, m22, m23, m24, m25, m26, m27, m28, m29, m30, m31, m32, m40, m41, m60, m63, m64, m90, m99, m100, m120, m127, m164, m173, m200, m240, m255, m450, m480, m650, m722, m762, m960, m1000000, m2838, m2988, m4095, pk_mul, nI_add, nI_1, nI_leI, nI_ltI, nI_eq, ix_n, if_pos]
theorem c_lw58 {S : Nat → Prop} {t : Int64} (hG : 100000 ≤ E.2.2.1) (q1 : WfT T c) (q2 : LandR I T c) (ht : ∀ v, v < 64 → (b64 t v ↔ S v)) (hz : WaysTo L T S 0) : ∃ L', (∀ k, k ≠ 33 → k ≠ 34 → k ≠ 35 → L' k = L k) ∧ WaysTo L' T S (c 1) ∧ L_X10_layWays_58 E (rr w 32) t E.2.2.1 0 (Hw E w I L Q) = rtV (Hw E w I L' Q) := by
  have k0 : c 0 ≤ 40 := (q1.1 0 (by decide)).2
  have k1 : c 1 ≤ 60 := (q1.1 1 (by decide)).2
  have e1 : I 0 3 = nI (c 1) := q2.2.1.1.trans (q1.1 1 (by decide)).1
  refine lpK2 (σ := Nat → Nat → Int64) (Lp := fun g i s => L_X10_layWays_58 E (rr w 32) t g (nI i) (Hw E w I s Q)) (K := fun s => rtV (Hw E w I s Q)) (Iv := fun i s => (∀ k, k ≠ 33 → k ≠ 34 → k ≠ 35 → s k = L k) ∧ WaysTo s T S i) (N := c 1) (g := E.2.2.1) (i := 0) (s := L) ?_ ?_ ?_ (by omega) (by omega) ⟨fun _ _ _ _ => rfl, hz⟩
  · rintro L' ⟨z1, z2⟩ ee
    exact ⟨L', z1, z2, ee⟩
  · intro g i L1 hi ⟨z1, z2⟩
    have wv := q1.2.2.1 i hi
    obtain ⟨a, ea, ha⟩ := wv.1
    obtain ⟨b, eb, hb⟩ := wv.2.1
    have fa := c_addWay (E := E) (w := w) (I := I) (L := L1) (Q := Q) q1 q2 hi ea eb (by omega) (by omega)
    have step : L_X10_layWays_58 E (rr w 32) t (g + 1) (nI i) (Hw E w I L1 Q) = if zb (b64 t i) = 0 then L_X10_layWays_58 E (rr w 32) t g (nI (i + 1)) (Hw E w I L1 Q) else L_X10_layWays_58 E (rr w 32) t g (nI (i + 1)) (Hw E w I (if T (92 + 6 * i) = 2 then addP (addW L1 i a b) i else addW L1 i a b) Q) := by
      rw [L_X10_layWays_58]
      simp (disch := omega) only [Option.bind_some, Option.map_some, Option.join, cI_r, cL_r, cV_r, xI_r, xL_r, xV_r, xI_t, xL_t, xV_t, lt_r, rtZ_0, rtZ_1, rtZ_zb, m2, m3, m4, m5, m6, m7, m8, m9, m10, m11, m12, m13, m14, m15, m16, m17, m18, m19, m20, m21, m22, m23, m24, m25, m26, m27, m28, m29, m30, m31, m32, m40, m41, m60, m63, m64, m90, m99, m100, m120, m127, m164, m173, m200, m240, m255, m450, m480, m650, m722, m762, m960, m1000000, m2838, m2988, m4095, pk_mul, nI_add, nI_1, nI_leI, nI_ltI, nI_eq, ix_n, gf32_0, gf0_3, e1, if_neg, f_isIn, o32, fa]
    by_cases p : b64 t i
    · refine ⟨_, ⟨fun k h1 h2 h3 => ?_, WaysTo_yes (by omega) ((ht i (by omega)).mp p) ea eb (by omega) (by omega) z2⟩, ?_⟩
      · have : addW L1 i a b k = L k := by unfold addW; rw [orb_row h2, orb_row h2, orb_row h3, orb_row h3]; exact z1 k h1 h2 h3
        split
        · rw [show addP (addW L1 i a b) i k = addW L1 i a b k from up2_row _ _ h1]; exact this
        · exact this
      · show L_X10_layWays_58 E (rr w 32) t (g + 1) (nI i) (Hw E w I L1 Q) = _
        rw [step, zi_t p]
    · refine ⟨L1, ⟨z1, WaysTo_no (fun z => p ((ht i (by omega)).mpr z)) z2⟩, ?_⟩
      show L_X10_layWays_58 E (rr w 32) t (g + 1) (nI i) (Hw E w I L1 Q) = _
      rw [step, zi_f p]
  · intro g L1 _
    show L_X10_layWays_58 E (rr w 32) t (g + 1) (nI (c 1)) (Hw E w I L1 Q) = _
    rw [L_X10_layWays_58]
    simp (disch := omega) only [Option.bind_some, Option.map_some, Option.join, cI_r, cL_r, cV_r, xI_r, xL_r, xV_r, xI_t, xL_t, xV_t, lt_r, rtZ_0, rtZ_1, rtZ_zb, m2, m3, m4, m5, m6, m7, m8, m9, m10, m11, m12, m13, m14, m15, m16, m17, m18, m19, m20, m21, m22, m23, m24, m25, m26, m27, m28, m29, m30, m31, m32, m40, m41, m60, m63, m64, m90, m99, m100, m120, m127, m164, m173, m200, m240, m255, m450, m480, m650, m722, m762, m960, m1000000, m2838, m2988, m4095, pk_mul, nI_add, nI_1, nI_leI, nI_ltI, nI_eq, ix_n, gf32_0, gf0_3, e1, if_pos]
theorem c_layWays {S : Nat → Prop} {t : Int64} (hG : 100000 ≤ E.2.2.1) (q1 : WfT T c) (q2 : LandR I T c) (hS : ∀ v, S v → v < c 1) (ht : ∀ v, v < 64 → (b64 t v ↔ S v)) : ∃ I' L', (∀ k i, k ≠ 38 → ¬ (k = 32 ∧ i = 3) → I' k i = I k i) ∧ (∀ k, ¬ (32 ≤ k ∧ k < 36) → L' k = L k) ∧ I' 32 3 = 0 ∧ WaysOk L' T c S ∧ (∀ s, s < 240 → I' 38 s = 0) ∧ F_X10_layWays E (rr w 32) t (Hw E w I L Q) = rtV (Hw E w I' L' Q) := by
  generalize eJ : rs (up2 I 32 3 0) 38 0 240 (fun _ => 0) = J
  generalize eM : rs (rs (rs (up2 L 32 4 t) 33 0 2 (fun _ => 0)) 34 0 80 (fun _ => 0)) 35 0 40 (fun _ => 0) = M
  have hJ : ∀ k i, k ≠ 38 → ¬ (k = 32 ∧ i = 3) → J k i = I k i := fun k i h1 h2 => by rw [← eJ, rs_row _ _ h1, up2_ne _ _ _ _ (fun e => by cases e; exact h2 ⟨rfl, rfl⟩)]
  have hJ3 : J 32 3 = 0 := by rw [← eJ, rs_row _ _ (by decide), up2_s]
  have hJ38 : ∀ s, s < 240 → J 38 s = 0 := fun s hs => by rw [← eJ, rs_in _ _ (by omega) (by omega)]
  have qJ : LandR J T c := LandR_c (fun j hj => funext fun i => hJ j i (by omega) (by omega)) q2
  have m33 : ∀ i, i < 2 → M 33 i = 0 := fun i hi => by rw [← eM, rs_row _ _ (by decide), rs_row _ _ (by decide), rs_in _ _ (by omega) (by omega)]
  have m34 : ∀ i, i < 80 → M 34 i = 0 := fun i hi => by rw [← eM, rs_row _ _ (by decide), rs_in _ _ (by omega) (by omega)]
  have m35 : ∀ i, i < 40 → M 35 i = 0 := fun i hi => by rw [← eM, rs_in _ _ (by omega) (by omega)]
  have m32 : M 32 4 = t := by rw [← eM, rs_row _ _ (by decide), rs_row _ _ (by decide), rs_row _ _ (by decide), up2_s]
  have hM : ∀ k, ¬ (32 ≤ k ∧ k < 36) → M k = L k := fun k hk => by rw [← eM, rs_row _ _ (by omega), rs_row _ _ (by omega), rs_row _ _ (by omega), up2_row _ _ (by omega)]
  have w0 : WaysTo M T S 0 := ⟨fun hf h1 j hj => by rw [m33 hf h1]; exact ⟨fun z => absurd z b64_0, fun z => absurd z.1.1 (by omega)⟩, fun p hp hf h1 j hj => by rw [m34 _ (by omega)]; exact ⟨fun z => absurd z b64_0, fun z => absurd z.1.1 (by omega)⟩, fun p hp q hq => by rw [m35 p hp]; exact ⟨fun z => absurd z b64_0, fun ⟨a, z, _⟩ => absurd z.1 (by omega)⟩⟩
  obtain ⟨L', a1, a2, a3⟩ := c_lw58 (E := E) (w := w) (I := J) (L := M) (Q := Q) hG q1 qJ ht w0
  have e : ∀ v, (v < c 1 ∧ S v) ↔ S v := fun v => ⟨fun a => a.2, fun a => ⟨hS v a, a⟩⟩
  refine ⟨J, L', hJ, fun k hk => (a1 k (by omega) (by omega) (by omega)).trans (hM k hk), hJ3, ⟨fun v hv => ?_, fun hf h1 j hj => ?_, fun p hp hf h1 j hj => ?_, fun p hp q hq => ?_⟩, hJ38, ?_⟩
  · rw [a1 32 (by decide) (by decide) (by decide), m32]; exact ht v hv
  · rw [a2.1 hf h1 j hj, e]
  · rw [a2.2.1 p hp hf h1 j hj, e]
  · rw [a2.2.2 p hp q hq]; exact exists_congr fun a => by rw [e]
  · unfold F_X10_layWays
    simp only [Option.bind_some, Option.map_some, Option.join, cI_r, cL_r, cV_r, xI_r, xL_r, xV_r, xI_t, xL_t, xV_t, lt_r, rtZ_0, rtZ_1, rtZ_zb, pf32_3, pf32_4, true_or, if_true, gf32_5, gf32_6, gf32_7, f_fillL hG (lv_of (show 33 < 165 by decide)) (show sh 33 = .inl (1, 2) from rfl) (by decide), f_fillL hG (lv_of (show 34 < 165 by decide)) (show sh 34 = .inl (1, 80) from rfl) (by decide), f_fillL hG (lv_of (show 35 < 165 by decide)) (show sh 35 = .inl (1, 40) from rfl) (by decide)]
    rw [c_lw36 hG, eJ, eM, a3]
theorem f_prepd {y : Int32} : F_X10_isPreparedFor E (rr w 32) y (Hw E w I L Q) = rtI (zb (I 32 1 ≤ y ∧ y ≤ I 32 2)) (Hw E w I L Q) := by
  unfold F_X10_isPreparedFor
  simp only [Option.bind_some, Option.map_some, Option.join, cI_r, cL_r, cV_r, xI_r, xL_r, xV_r, xI_t, xL_t, xV_t, lt_r, rtZ_0, rtZ_1, rtZ_zb, gf32_1, gf32_2]
  by_cases c1 : y < I 32 1
  · rw [if_pos c1, zb_f (fun z => Int32.not_le.mpr c1 z.1)]
  · rw [if_neg c1]
    by_cases c2 : I 32 2 < y
    · rw [if_pos c2, zb_f (fun z => Int32.not_le.mpr c2 z.2)]
    · rw [if_neg c2, zb_t ⟨Int32.not_lt.mp c1, Int32.not_lt.mp c2⟩]
/-- the map is ready for a year -/
def MapY (I : Nat → Ro) (L : Nat → Nat → Int64) (T : Ro) (c : Nat → Nat) (y : Nat) : Prop := MapR I L T c ∧ I 32 1 ≤ nI y ∧ nI y ≤ I 32 2
theorem c_prepare {y : Nat} (hG : 100000 ≤ E.2.2.1) (q1 : WfT T c) (q2 : LandR I T c) (q5 : MapR I L T c) (hy : y ≤ 200) : ∃ I' L', (∀ k, k ≠ 32 → k ≠ 38 → I' k = I k) ∧ (∀ k, ¬ (32 ≤ k ∧ k < 40) → L' k = L k) ∧ MapY I' L' T c y ∧ F_X10_prepare E (rr w 32) (nI y) (Hw E w I L Q) = rtV (Hw E w I' L' Q) := by
  unfold F_X10_prepare
  simp only [Option.bind_some, Option.map_some, Option.join, cI_r, cL_r, cV_r, xI_r, xL_r, xV_r, xI_t, xL_t, xV_t, lt_r, rtZ_0, rtZ_1, rtZ_zb, o32, f_prepd]
  by_cases p : I 32 1 ≤ nI y ∧ nI y ≤ I 32 2
  · exact ⟨I, L, fun _ _ _ => rfl, fun _ _ => rfl, ⟨q5, p⟩, by rw [zi_t p]⟩
  · rw [zi_f p]
    simp only [Option.bind_some, Option.map_some, Option.join, cI_r, cL_r, cV_r, xI_r, xL_r, xV_r, xI_t, xL_t, xV_t, lt_r, rtZ_0, rtZ_1, rtZ_zb, pf32_1, pf32_2]
    obtain ⟨s01, S0, s1, s2, s3⟩ := q5
    generalize eJ : up2 (up2 I 32 1 0) 32 2 200 = J
    have hJ : ∀ k i, ¬ (k = 32 ∧ (i = 1 ∨ i = 2)) → J k i = I k i := fun k j h => by
      rw [← eJ, up2_ne _ _ _ _ (fun e => by cases e; exact h ⟨rfl, Or.inr rfl⟩), up2_ne _ _ _ _ (fun e => by cases e; exact h ⟨rfl, Or.inl rfl⟩)]
    have qJ : LandR J T c := LandR_c (fun j hj => funext fun i => hJ j i (by omega)) q2
    have st0 : strt J y 0 200 := ⟨by rw [← eJ, up2_i _ _ _ (by decide), up2_s]; rfl, by rw [← eJ, up2_s]; rfl, by omega, hy, by omega⟩
    obtain ⟨I1, f, l, t, a1, a2, a3, a4, a5⟩ := c_prep26 (E := E) (w := w) (I := J) (L := L) (Q := Q) (K := fun w1 h3 => (gfI h3 (rr w 32) 10 3).bind fun v80 => if ¬ v80 = 0 then (isO h3 (rr w 32) 10).bind fun _ => cV (F_X10_layWays E (rr w 32) w1 h3) fun h97 => J_X10_prepare_100 E (rr w 32) (nI y) h97 else (gfL h3 (rr w 32) 10 4).bind fun v88 => if w1 = v88 then J_X10_prepare_100 E (rr w 32) (nI y) h3 else (isO h3 (rr w 32) 10).bind fun _ => cV (F_X10_layWays E (rr w 32) w1 h3) fun h97 => J_X10_prepare_100 E (rr w 32) (nI y) h97) hG q1 qJ hy st0
    rw [a5]
    simp only [Option.bind_some, Option.map_some, Option.join, cI_r, cL_r, cV_r, xI_r, xL_r, xV_r, xI_t, xL_t, xV_t, lt_r, rtZ_0, rtZ_1, rtZ_zb, gf32_3, gf32_4, o32]
    have q1a : LandR I1 T c := LandR_c (fun j hj => funext fun i => a1 j i (by omega)) qJ
    have i3 : I1 32 3 = I 32 3 := by rw [a1 32 3 (by omega), hJ 32 3 (by omega)]
    have hS : ∀ v, thr0 T c y v → v < c 1 := fun v h => h.1
    have fin : ∀ (I2 : Nat → Nat → Int32) (L2 : Nat → Nat → Int64), (∀ k i, k ≠ 38 → ¬ (k = 32 ∧ i = 3) → I2 k i = I1 k i) → (∀ k, ¬ (32 ≤ k ∧ k < 40) → L2 k = L k) → I2 32 3 = 0 → WaysOk L2 T c (thr0 T c y) → (∀ s, s < 240 → I2 38 s = 0 ∨ (I2 38 s = 1 ∧ s < 4 * c 1 ∧ RowOk (L2 39) T c (thr0 T c y) s)) → ∃ I' L', (∀ k, k ≠ 32 → k ≠ 38 → I' k = I k) ∧ (∀ k, ¬ (32 ≤ k ∧ k < 40) → L' k = L k) ∧ MapY I' L' T c y ∧ J_X10_prepare_100 E (rr w 32) (nI y) (Hw E w I2 L2 Q) = rtV (Hw E w I' L' Q) := by
      intro I2 L2 b1 b2 b3 b4 b5
      unfold J_X10_prepare_100
      simp only [Option.bind_some, Option.map_some, Option.join, cI_r, cL_r, cV_r, xI_r, xL_r, xV_r, xI_t, xL_t, xV_t, lt_r, rtZ_0, rtZ_1, rtZ_zb, gf32_8, gf32_9, f_fillL hG (lv_of (show 36 < 165 by decide)) (show sh 36 = .inl (1, 12) from rfl) (by decide), f_fillL hG (lv_of (show 37 < 165 by decide)) (show sh 37 = .inl (1, 12) from rfl) (by decide)]
      generalize eM : rs (rs L2 36 0 12 (fun _ => 0)) 37 0 12 (fun _ => 0) = M
      have q2a : LandR I2 T c := LandR_c (fun j hj => funext fun i => b1 j i (by omega) (by omega)) q1a
      have st2 : strt I2 y f l := ⟨by rw [b1 32 1 (by decide) (by omega)]; exact a2.1, by rw [b1 32 2 (by decide) (by omega)]; exact a2.2.1, a2.2.2⟩
      have mM : ∀ k, k ≠ 36 → k ≠ 37 → M k = L2 k := fun k h1 h2 => by rw [← eM, rs_row _ _ h2, rs_row _ _ h1]
      obtain ⟨I3, L3, f3, l3, d1, d2, d3, d4, d5, d6, d7⟩ := c_prep119 (E := E) (w := w) (I := I2) (L := M) (Q := Q) hG q1 q2a hy st2 (fun k hk => ⟨by rw [← eM, rs_row _ _ (by decide), rs_in _ _ (by omega) (by omega)], by rw [← eM, rs_in _ _ (by omega) (by omega)]⟩)
      rw [d7]
      have lL : ∀ k, k ≠ 36 → k ≠ 37 → L3 k = L2 k := fun k h1 h2 => by rw [d2 k h1 h2, mM k h1 h2]
      have lw : WaysOk L3 T c (thr0 T c y) := by
        unfold WaysOk at *
        rw [lL 32 (by decide) (by decide), lL 33 (by decide) (by decide), lL 34 (by decide) (by decide), lL 35 (by decide) (by decide)]; exact b4
      have i33 : I3 32 3 = 0 := by rw [d1 32 3 (by omega)]; exact b3
      refine ⟨I3, L3, fun k h1 h2 => funext fun i => by rw [d1 k i (by omega), b1 k i h2 (by omega), a1 k i (by omega), hJ k i (by omega)], fun k hk => (lL k (by omega) (by omega)).trans (b2 k hk), ⟨⟨Or.inl i33, thr0 T c y, hS, fun _ => ⟨lw, fun s hs => ?_⟩, fun z hz h1 h2 => ?_⟩, ?_, ?_⟩, rfl⟩
      · have e38 : I3 38 = I2 38 := funext fun i => d1 38 i (by omega)
        rw [e38, lL 39 (by decide) (by decide)]; exact b5 s hs
      · rw [d3.1, nI_leI (by have := d3.2.2.1; omega) (by omega)] at h1
        rw [d3.2.1, nI_leI (by omega) (by have := d3.2.2.2.2; omega)] at h2
        exact ⟨i33, fun v => (a3 z (by omega) (by omega) v).symm, d6 z h1 h2⟩
      · rw [d3.1]; exact nI_le d3.2.2.1 (by omega)
      · rw [d3.2.1]; exact nI_le d3.2.2.2.1 (by have := d3.2.2.2.2; omega)
    have lay : ∃ I' L', (∀ k, k ≠ 32 → k ≠ 38 → I' k = I k) ∧ (∀ k, ¬ (32 ≤ k ∧ k < 40) → L' k = L k) ∧ MapY I' L' T c y ∧ (cV (F_X10_layWays E (rr w 32) t (Hw E w I1 L Q)) fun h97 => J_X10_prepare_100 E (rr w 32) (nI y) h97) = rtV (Hw E w I' L' Q) := by
      obtain ⟨I2, L2, b1, b2, b3, b4, b5, b6⟩ := c_layWays (E := E) (w := w) (I := I1) (L := L) (Q := Q) hG q1 q1a hS a4
      rw [b6]
      exact fin I2 L2 b1 (fun k hk => b2 k (by omega)) b3 b4 (fun s hs => Or.inl (b5 s hs))
    by_cases p3 : I1 32 3 = 0
    · rw [if_neg (not_not_intro p3)]
      have z := s2 (i3.symm.trans p3)
      by_cases p4 : t = L 32 4
      · rw [if_pos p4]
        have eS : S0 = thr0 T c y := funext fun v => propext (by
          by_cases hv : v < 64
          · rw [← z.1.1 v hv, ← p4, a4 v hv]
          · have k1 : c 1 ≤ 60 := (q1.1 1 (by decide)).2
            exact ⟨fun h => absurd (s1 v h) (by omega), fun h => absurd h.1 (by omega)⟩)
        rw [eS] at z
        refine fin I1 L (fun _ _ _ _ => rfl) (fun _ _ => rfl) p3 z.1 (fun s hs => ?_)
        have e38 : I1 38 = I 38 := funext fun i => by rw [a1 38 i (by omega), hJ 38 i (by omega)]
        rw [e38]; exact z.2 s hs
      · rw [if_neg p4]; exact lay
    · rw [if_pos p3]; exact lay
theorem MapY_use {y : Nat} (q : MapY I L T c y) (hy : y ≤ 200) : I 32 3 = 0 ∧ WaysOk L T c (thr0 T c y) ∧ (∀ s, s < 240 → I 38 s = 0 ∨ (I 38 s = 1 ∧ s < 4 * c 1 ∧ RowOk (L 39) T c (thr0 T c y) s)) ∧ MarksOk L T c y := by
  obtain ⟨⟨-, S, -, q2, q3⟩, h1, h2⟩ := q
  obtain ⟨a1, a2, a3⟩ := q3 y hy h1 h2
  have e : S = thr0 T c y := funext fun v => propext (a2 v)
  rw [e] at q2
  exact ⟨a1, (q2 a1).1, (q2 a1).2, a3⟩
end
