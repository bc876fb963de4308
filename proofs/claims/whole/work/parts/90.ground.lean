/-! the ground: where names stand and are seen -/
def stdK (T : Ro) (c : Nat → Nat) (y : Nat) (ks : Int32) (p : Nat) : Prop := ∃ m kd, kd < 12 ∧ mkAt T c y kd p m ∧ b32 ks kd
def tlK (T : Ro) (c : Nat → Nat) (y : Nat) (ks : Int32) (p : Nat) : Prop := ∃ m kd, kd < 12 ∧ (mkAt T c y kd p m ∧ T (452 + 5 * m) = 1) ∧ b32 ks kd
def jnP (T : Ro) (c : Nat → Nat) (y p q : Nat) : Prop := ∃ a, thr0 T c y (a / 2) ∧ ast T a = nI p ∧ aen T a = nI q
def senK (T : Ro) (c : Nat → Nat) (y : Nat) (ks : Int32) (p : Nat) : Prop := stdK T c y ks p ∨ ∃ q, q < 64 ∧ jnP T c y p q ∧ tlK T c y ks q
def Gnd (I : Nat → Ro) (L : Nat → Nat → Int64) (T : Ro) (c : Nat → Nat) (y k : Nat) : Prop := ∀ n, n < 12 → I 41 (12 * k + n) = knd T k n ∧ ∀ p, p < 64 → (b64 (L 42 (12 * k + n)) p ↔ stdA T c y k n p)
section
variable {E : Ev} {w : Wo} {I : Nat → Nat → Int32} {L : Nat → Nat → Int64} {Q : Nat → Nat → Option Nat} {c : Nat → Nat} {T : Ro} {y : Nat}
theorem c_places {ks : Int32} (hG : 100000 ≤ E.2.2.1) (hm : MarksOk L T c y) : ∃ v, (∀ p, p < 64 → (b64 v p ↔ stdK T c y ks p)) ∧ F_X10_placesWith E (rr w 32) ks (Hw E w I L Q) = rtL v (Hw E w I L Q) := by
  unfold F_X10_placesWith
  refine lpK2 (σ := Int64) (Lp := fun g i s => L_X10_placesWith_5 E (rr w 32) ks g s (nI i) (Hw E w I L Q)) (K := fun s => rtL s (Hw E w I L Q)) (Iv := fun i s => ∀ p, p < 64 → (b64 s p ↔ ∃ m kd, kd < i ∧ mkAt T c y kd p m ∧ b32 ks kd)) (N := 12) (g := E.2.2.1) (i := 0) (s := 0) ?_ ?_ ?_ (by omega) (by omega) (fun p hp => ⟨fun z => absurd z b64_0, fun ⟨m, kd, z, _⟩ => absurd z (by omega)⟩)
  · rintro v z ee
    exact ⟨v, z, ee⟩
  · rintro g i v hi z
    have st : L_X10_placesWith_5 E (rr w 32) ks (g + 1) v (nI i) (Hw E w I L Q) = if zb (b32 ks i) = 0 then L_X10_placesWith_5 E (rr w 32) ks g v (nI (i + 1)) (Hw E w I L Q) else L_X10_placesWith_5 E (rr w 32) ks g (v ||| L 36 i) (nI (i + 1)) (Hw E w I L Q) := by
      rw [L_X10_placesWith_5]
      simp (disch := omega) only [Option.bind_some, Option.map_some, Option.join, cI_r, cL_r, cV_r, xI_r, xL_r, xV_r, xI_t, xL_t, xV_t, lt_r, rtZ_0, rtZ_1, rtZ_zb, m2, m3, m4, m5, m6, m7, m8, m9, m10, m11, m12, m13, m14, m15, m16, m17, m18, m19, m20, m21, m22, m23, m24, m25, m26, m27, m28, m29, m30, m31, m32, m40, m41, m60, m63, m64, m90, m99, m100, m120, m127, m164, m173, m200, m240, m255, m450, m480, m650, m722, m762, m960, m1000000, m2838, m2988, m4095, pk_mul, nI_add, nI_1, nI_leI, nI_ltI, nI_eq, ix_n, if_neg, f_isIn, zb_c (b64_32 (x := ks) (show i < 32 by omega)), gf32_8, ga36]
    by_cases p : b32 ks i
    · refine ⟨v ||| L 36 i, fun q hq => ?_, by show L_X10_placesWith_5 E (rr w 32) ks (g + 1) v (nI i) (Hw E w I L Q) = _; rw [st, zi_t p]⟩
      rw [b64_or, z q hq, (hm i hi q hq).1]
      constructor
      · rintro (⟨m, kd, h1, h2⟩ | ⟨m, h1⟩)
        · exact ⟨m, kd, by omega, h2⟩
        · exact ⟨m, i, by omega, h1, p⟩
      · rintro ⟨m, kd, h1, h2, h3⟩
        by_cases e : kd = i
        · subst e; exact Or.inr ⟨m, h2⟩
        · exact Or.inl ⟨m, kd, by omega, h2, h3⟩
    · refine ⟨v, fun q hq => ?_, by show L_X10_placesWith_5 E (rr w 32) ks (g + 1) v (nI i) (Hw E w I L Q) = _; rw [st, zi_f p]⟩
      rw [z q hq]
      refine ⟨fun ⟨m, kd, h1, h2⟩ => ⟨m, kd, by omega, h2⟩, fun ⟨m, kd, h1, h2, h3⟩ => ⟨m, kd, ?_, h2, h3⟩⟩
      by_cases e : kd = i
      · subst e; exact absurd h3 p
      · omega
  · rintro g v _
    show L_X10_placesWith_5 E (rr w 32) ks (g + 1) v (nI 12) (Hw E w I L Q) = _
    rw [L_X10_placesWith_5]
    simp (disch := omega) only [m2, m3, m4, m5, m6, m7, m8, m9, m10, m11, m12, m13, m14, m15, m16, m17, m18, m19, m20, m21, m22, m23, m24, m25, m26, m27, m28, m29, m30, m31, m32, m40, m41, m60, m63, m64, m90, m99, m100, m120, m127, m164, m173, m200, m240, m255, m450, m480, m650, m722, m762, m960, m1000000, m2838, m2988, m4095, pk_mul, nI_add, nI_1, nI_leI, nI_ltI, nI_eq, ix_n, if_pos]
theorem c_tall {ks : Int32} (hG : 100000 ≤ E.2.2.1) (hm : MarksOk L T c y) : ∃ v, (∀ p, p < 64 → (b64 v p ↔ tlK T c y ks p)) ∧ ∀ K, L_X10_seenPlaces_5 E K (rr w 32) ks E.2.2.1 0 0 (Hw E w I L Q) = K v (Hw E w I L Q) := by
  refine lpK2 (ρ := (Int64 → Hp → Rs) → Rs) (σ := Int64) (Lp := fun g i s => fun K => L_X10_seenPlaces_5 E K (rr w 32) ks g s (nI i) (Hw E w I L Q)) (K := fun s => fun K => K s (Hw E w I L Q)) (Iv := fun i s => ∀ p, p < 64 → (b64 s p ↔ ∃ m kd, kd < i ∧ (mkAt T c y kd p m ∧ T (452 + 5 * m) = 1) ∧ b32 ks kd)) (N := 12) (g := E.2.2.1) (i := 0) (s := 0) ?_ ?_ ?_ (by omega) (by omega) (fun p hp => ⟨fun z => absurd z b64_0, fun ⟨m, kd, z, _⟩ => absurd z (by omega)⟩)
  · rintro v z ee
    exact ⟨v, z, fun K => congrFun ee K⟩
  · rintro g i v hi z
    have st : ∀ K, L_X10_seenPlaces_5 E K (rr w 32) ks (g + 1) v (nI i) (Hw E w I L Q) = if zb (b32 ks i) = 0 then L_X10_seenPlaces_5 E K (rr w 32) ks g v (nI (i + 1)) (Hw E w I L Q) else L_X10_seenPlaces_5 E K (rr w 32) ks g (v ||| L 37 i) (nI (i + 1)) (Hw E w I L Q) := fun K => by
      rw [L_X10_seenPlaces_5]
      simp (disch := omega) only [Option.bind_some, Option.map_some, Option.join, cI_r, cL_r, cV_r, xI_r, xL_r, xV_r, xI_t, xL_t, xV_t, lt_r, rtZ_0, rtZ_1, rtZ_zb, m2, m3, m4, m5, m6, m7, m8, m9, m10, m11, m12, m13, m14, m15, m16, m17, m18, m19, m20, m21, m22, m23, m24, m25, m26, m27, m28, m29, m30, m31, m32, m40, m41, m60, m63, m64, m90, m99, m100, m120, m127, m164, m173, m200, m240, m255, m450, m480, m650, m722, m762, m960, m1000000, m2838, m2988, m4095, pk_mul, nI_add, nI_1, nI_leI, nI_ltI, nI_eq, ix_n, if_neg, f_isIn, zb_c (b64_32 (x := ks) (show i < 32 by omega)), gf32_9, ga37]
    by_cases p : b32 ks i
    · refine ⟨v ||| L 37 i, fun q hq => ?_, by funext K; show L_X10_seenPlaces_5 E K (rr w 32) ks (g + 1) v (nI i) (Hw E w I L Q) = _; rw [st, zi_t p]⟩
      rw [b64_or, z q hq, (hm i hi q hq).2]
      constructor
      · rintro (⟨m, kd, h1, h2⟩ | ⟨m, h1⟩)
        · exact ⟨m, kd, by omega, h2⟩
        · exact ⟨m, i, by omega, h1, p⟩
      · rintro ⟨m, kd, h1, h2, h3⟩
        by_cases e : kd = i
        · subst e; exact Or.inr ⟨m, h2⟩
        · exact Or.inl ⟨m, kd, by omega, h2, h3⟩
    · refine ⟨v, fun q hq => ?_, by funext K; show L_X10_seenPlaces_5 E K (rr w 32) ks (g + 1) v (nI i) (Hw E w I L Q) = _; rw [st, zi_f p]⟩
      rw [z q hq]
      refine ⟨fun ⟨m, kd, h1, h2⟩ => ⟨m, kd, by omega, h2⟩, fun ⟨m, kd, h1, h2, h3⟩ => ⟨m, kd, ?_, h2, h3⟩⟩
      by_cases e : kd = i
      · subst e; exact absurd h3 p
      · omega
  · rintro g v _
    funext K
    show L_X10_seenPlaces_5 E K (rr w 32) ks (g + 1) v (nI 12) (Hw E w I L Q) = _
    rw [L_X10_seenPlaces_5]
    simp (disch := omega) only [m2, m3, m4, m5, m6, m7, m8, m9, m10, m11, m12, m13, m14, m15, m16, m17, m18, m19, m20, m21, m22, m23, m24, m25, m26, m27, m28, m29, m30, m31, m32, m40, m41, m60, m63, m64, m90, m99, m100, m120, m127, m164, m173, m200, m240, m255, m450, m480, m650, m722, m762, m960, m1000000, m2838, m2988, m4095, pk_mul, nI_add, nI_1, nI_leI, nI_ltI, nI_eq, ix_n, if_pos]
theorem c_seen {ks : Int32} (hG : 100000 ≤ E.2.2.1) (q1 : WfT T c) (q2 : LandR I T c) (hy : y ≤ 200) (h : MapY I L T c y) : ∃ v, (∀ p, p < 64 → (b64 v p ↔ senK T c y ks p)) ∧ F_X10_seenPlaces E (rr w 32) ks (Hw E w I L Q) = rtL v (Hw E w I L Q) := by
  have k0 : c 0 ≤ 40 := (q1.1 0 (by decide)).2
  have k1 : c 1 ≤ 60 := (q1.1 1 (by decide)).2
  have mu := MapY_use h hy
  have e0 : I 0 0 = nI (c 0) := q2.1.1.trans (q1.1 0 (by decide)).1
  obtain ⟨tl, t1, t2⟩ := c_tall (E := E) (w := w) (I := I) (Q := Q) (ks := ks) hG mu.2.2.2
  obtain ⟨v0, v1, v2⟩ := c_places (E := E) (w := w) (I := I) (Q := Q) (ks := ks) hG mu.2.2.2
  unfold F_X10_seenPlaces
  rw [t2]
  simp only [Option.bind_some, Option.map_some, Option.join, cI_r, cL_r, cV_r, xI_r, xL_r, xV_r, xI_t, xL_t, xV_t, lt_r, rtZ_0, rtZ_1, rtZ_zb, o32, v2]
  have jn : ∀ p, p < c 0 → ((L 35 p &&& tl) = 0 ↔ ¬ ∃ q, q < 64 ∧ jnP T c y p q ∧ tlK T c y ks q) := fun p hp => by
    rw [z64]
    constructor
    · rintro g ⟨q, g1, g2, g3⟩
      exact g q g1 (b64_and.mpr ⟨(mu.2.1.2.2.2 p (by omega) q g1).mpr g2, (t1 q g1).mpr g3⟩)
    · intro g q hq z
      have := b64_and.mp z
      exact g ⟨q, hq, (mu.2.1.2.2.2 p (by omega) q hq).mp this.1, (t1 q hq).mp this.2⟩
  refine lpK2 (σ := Int64) (Lp := fun g i s => L_X10_seenPlaces_48 E (rr w 32) tl g s (nI i) (Hw E w I L Q)) (K := fun s => rtL s (Hw E w I L Q)) (Iv := fun i s => ∀ p, p < 64 → (b64 s p ↔ stdK T c y ks p ∨ (p < i ∧ ∃ q, q < 64 ∧ jnP T c y p q ∧ tlK T c y ks q))) (N := c 0) (g := E.2.2.1) (i := 0) (s := v0) ?_ ?_ ?_ (by omega) (by omega) (fun p hp => by rw [v1 p hp]; exact ⟨Or.inl, fun z => z.elim id (fun z => absurd z.1 (by omega))⟩)
  · rintro v z ee
    refine ⟨v, fun p hp => ?_, ee⟩
    rw [z p hp]
    refine or_congr_right ⟨fun z => z.2, fun z => ⟨?_, z⟩⟩
    obtain ⟨q, _, ⟨a, g1, g2, g3⟩, _⟩ := z
    obtain ⟨j, e1, e2⟩ := (ast_b q1.2.2.1 g1.1).1
    have : j = p := (nI_eq (by omega) (by omega)).mp (by rw [← e1, g2])
    omega
  · rintro g i v hi z
    have st : L_X10_seenPlaces_48 E (rr w 32) tl (g + 1) v (nI i) (Hw E w I L Q) = if (L 35 i &&& tl) = 0 then L_X10_seenPlaces_48 E (rr w 32) tl g v (nI (i + 1)) (Hw E w I L Q) else L_X10_seenPlaces_48 E (rr w 32) tl g (v ||| ((1 : Int64) <<< ((nI i).toInt64 &&& 63))) (nI (i + 1)) (Hw E w I L Q) := by
      rw [L_X10_seenPlaces_48]
      simp (disch := omega) only [Option.bind_some, Option.map_some, Option.join, cI_r, cL_r, cV_r, xI_r, xL_r, xV_r, xI_t, xL_t, xV_t, lt_r, rtZ_0, rtZ_1, rtZ_zb, m2, m3, m4, m5, m6, m7, m8, m9, m10, m11, m12, m13, m14, m15, m16, m17, m18, m19, m20, m21, m22, m23, m24, m25, m26, m27, m28, m29, m30, m31, m32, m40, m41, m60, m63, m64, m90, m99, m100, m120, m127, m164, m173, m200, m240, m255, m450, m480, m650, m722, m762, m960, m1000000, m2838, m2988, m4095, pk_mul, nI_add, nI_1, nI_leI, nI_ltI, nI_eq, ix_n, gf32_0, gf0_0, e0, if_neg, gf32_7, ga35]
    by_cases p : ∃ q, q < 64 ∧ jnP T c y i q ∧ tlK T c y ks q
    · refine ⟨v ||| ((1 : Int64) <<< ((nI i).toInt64 &&& 63)), fun q hq => ?_, by show L_X10_seenPlaces_48 E (rr w 32) tl (g + 1) v (nI i) (Hw E w I L Q) = _; rw [st, if_neg (fun z => (jn i hi).mp z p)]⟩
      rw [b64_or, b64_one (by omega), z q hq, or_assoc]
      refine or_congr_right ⟨?_, ?_⟩
      · rintro (h | h)
        · exact ⟨by omega, h.2⟩
        · rw [h]; exact ⟨by omega, p⟩
      · rintro ⟨h1, h2⟩
        by_cases e : q = i
        · exact Or.inr e
        · exact Or.inl ⟨by omega, h2⟩
    · refine ⟨v, fun q hq => ?_, by show L_X10_seenPlaces_48 E (rr w 32) tl (g + 1) v (nI i) (Hw E w I L Q) = _; rw [st, if_pos ((jn i hi).mpr p)]⟩
      rw [z q hq]
      refine or_congr_right ⟨fun h => ⟨by omega, h.2⟩, fun h => ⟨?_, h.2⟩⟩
      by_cases e : q = i
      · rw [e] at h; exact absurd h.2 p
      · omega
  · rintro g v _
    show L_X10_seenPlaces_48 E (rr w 32) tl (g + 1) v (nI (c 0)) (Hw E w I L Q) = _
    rw [L_X10_seenPlaces_48]
    simp (disch := omega) only [Option.bind_some, Option.map_some, Option.join, cI_r, cL_r, cV_r, xI_r, xL_r, xV_r, xI_t, xL_t, xV_t, lt_r, rtZ_0, rtZ_1, rtZ_zb, m2, m3, m4, m5, m6, m7, m8, m9, m10, m11, m12, m13, m14, m15, m16, m17, m18, m19, m20, m21, m22, m23, m24, m25, m26, m27, m28, m29, m30, m31, m32, m40, m41, m60, m63, m64, m90, m99, m100, m120, m127, m164, m173, m200, m240, m255, m450, m480, m650, m722, m762, m960, m1000000, m2838, m2988, m4095, pk_mul, nI_add, nI_1, nI_leI, nI_ltI, nI_eq, ix_n, gf32_0, gf0_0, e0, if_pos]
/-- a walker learns the ground -/
theorem c_learn {k : Nat} (hG : 100000 ≤ E.2.2.1) (q1 : WfT (I 137) c) (q3 : FolkR (fun j => I (15 + j)) (I 137) c) (hk : k < c 4) (hm : MarksOk L (I 137) c y) : ∃ I' L', (∀ k', k' ≠ 41 → I' k' = I k') ∧ (∀ k', k' ≠ 42 → L' k' = L k') ∧ (∀ i, (i < 12 * k ∨ 12 * k + 12 ≤ i) → I' 41 i = I 41 i ∧ L' 42 i = L 42 i) ∧ Gnd I' L' (I 137) c y k ∧ F_X9_learnGround E (rr w 40) (nI k) (Hw E w I L Q) = rtV (Hw E w I' L' Q) := by
  have k4 : c 4 ≤ 8 := (q1.1 4 (by decide)).2
  unfold F_X9_learnGround
  refine lpK2 (σ := (Nat → Nat → Int32) × (Nat → Nat → Int64)) (Lp := fun g i z => L_X9_learnGround_2 E (rr w 40) (nI k) g (nI i) (Hw E w z.1 z.2 Q)) (K := fun z => rtV (Hw E w z.1 z.2 Q)) (Iv := fun i z => (∀ k', k' ≠ 41 → z.1 k' = I k') ∧ (∀ k', k' ≠ 42 → z.2 k' = L k') ∧ (∀ i, (i < 12 * k ∨ 12 * k + 12 ≤ i) → z.1 41 i = I 41 i ∧ z.2 42 i = L 42 i) ∧ ∀ n, n < i → z.1 41 (12 * k + n) = knd (I 137) k n ∧ ∀ p, p < 64 → (b64 (z.2 42 (12 * k + n)) p ↔ stdA (I 137) c y k n p)) (N := 12) (g := E.2.2.1) (i := 0) (s := (I, L)) ?_ ?_ ?_ (by omega) (by omega) ⟨fun _ _ => rfl, fun _ _ => rfl, fun _ _ => ⟨rfl, rfl⟩, fun n hn => absurd hn (by omega)⟩
  · rintro ⟨I', L'⟩ ⟨z1, z2, z3, z4⟩ ee
    exact ⟨I', L', z1, z2, z3, z4, ee⟩
  · rintro g i ⟨I1, L1⟩ hi ⟨z1, z2, z3, z4⟩
    dsimp only at *
    have hT : I1 137 = I 137 := z1 137 (by decide)
    have fk := f_kindsOfC (E := E) (w := w) (I := I1) (L := L1) (Q := Q) (k := k) (n := i) (by rw [hT]; exact q1) (by rw [hT]; exact FolkR_c (fun j hj => z1 (15 + j) (by omega)) q3) hk hi
    rw [hT] at fk
    generalize eI2 : up2 I1 41 (12 * k + i) (knd (I 137) k i) = I2
    have hm1 : MarksOk L1 (I 137) c y := by unfold MarksOk at *; rw [z2 36 (by decide), z2 37 (by decide)]; exact hm
    obtain ⟨v, v1, v2⟩ := c_places (E := E) (w := w) (I := I2) (Q := Q) (ks := knd (I 137) k i) hG hm1
    refine ⟨(I2, up2 L1 42 (12 * k + i) v), ⟨fun k' hk' => ?_, fun k' hk' => ?_, fun j hj => ?_, fun n hn => ?_⟩, ?_⟩
    · show I2 k' = _
      rw [← eI2, up2_row _ _ hk']; exact z1 k' hk'
    · show up2 L1 42 _ _ k' = _
      rw [up2_row _ _ hk']; exact z2 k' hk'
    · show I2 41 j = _ ∧ up2 L1 42 _ _ 42 j = _
      rw [← eI2, up2_i _ _ _ (by omega), up2_i _ _ _ (by omega)]; exact z3 j hj
    · show I2 41 (12 * k + n) = _ ∧ ∀ p, p < 64 → (b64 (up2 L1 42 (12 * k + i) v 42 (12 * k + n)) p ↔ _)
      by_cases e : n = i
      · subst e
        rw [← eI2, up2_s, up2_s]
        exact ⟨rfl, v1⟩
      · rw [← eI2, up2_i _ _ _ (by omega), up2_i _ _ _ (by omega)]; exact z4 n (by omega)
    · show L_X9_learnGround_2 E (rr w 40) (nI k) (g + 1) (nI i) (Hw E w I1 L1 Q) = _
      rw [L_X9_learnGround_2]
      simp (disch := omega) only [Option.bind_some, Option.map_some, Option.join, cI_r, cL_r, cV_r, xI_r, xL_r, xV_r, xI_t, xL_t, xV_t, lt_r, rtZ_0, rtZ_1, rtZ_zb, m12, nI_leI, if_neg, gf40_1, o15, fk, gf40_4, pk_mul, nI_add, show k * 12 + i = 12 * k + i by omega, pa41, ix_n, eI2, gf40_5, gf40_0, o32, v2, pa42, nI_1]
  · rintro g ⟨I1, L1⟩ _
    show L_X9_learnGround_2 E (rr w 40) (nI k) (g + 1) (nI 12) (Hw E w I1 L1 Q) = _
    rw [L_X9_learnGround_2]
    simp (disch := omega) only [m2, m3, m4, m5, m6, m7, m8, m9, m10, m11, m12, m13, m14, m15, m16, m17, m18, m19, m20, m21, m22, m23, m24, m25, m26, m27, m28, m29, m30, m31, m32, m40, m41, m60, m63, m64, m90, m99, m100, m120, m127, m164, m173, m200, m240, m255, m450, m480, m650, m722, m762, m960, m1000000, m2838, m2988, m4095, pk_mul, nI_add, nI_1, nI_leI, nI_ltI, nI_eq, ix_n, if_pos]
theorem c_setOut {k : Nat} (hG : 100000 ≤ E.2.2.1) (q1 : WfT (I 137) c) (q2 : LandR I (I 137) c) (q3 : FolkR (fun j => I (15 + j)) (I 137) c) (q5 : MapR I L (I 137) c) (hy : y ≤ 200) (hk : k < c 4) : ∃ I' L', (∀ k', k' ≠ 32 → k' ≠ 38 → k' ≠ 40 → k' ≠ 41 → I' k' = I k') ∧ (∀ i, i ≠ 6 → I' 40 i = I 40 i) ∧ I' 40 6 = nI k ∧ (∀ k', ¬ (32 ≤ k' ∧ k' < 40) → k' ≠ 42 → L' k' = L k') ∧ (∀ i, (i < 12 * k ∨ 12 * k + 12 ≤ i) → I' 41 i = I 41 i ∧ L' 42 i = L 42 i) ∧ MapY I' L' (I 137) c y ∧ Gnd I' L' (I 137) c y k ∧ F_X11_setOut E (rr w 136) (nI k) (nI y) (Hw E w I L Q) = rtV (Hw E w I' L' Q) := by
  obtain ⟨I1, L1, a1, a2, a3, a4⟩ := c_prepare (E := E) (w := w) (I := I) (L := L) (Q := Q) hG q1 q2 q5 hy
  have hT : I1 137 = I 137 := a1 137 (by decide) (by decide)
  have mu := MapY_use a3 hy
  obtain ⟨I2, L2, b1, b2, b3, b4, b5⟩ := c_learn (E := E) (w := w) (I := I1) (L := L1) (Q := Q) (y := y) (c := c) (k := k) hG (by rw [hT]; exact q1) (by rw [hT]; exact FolkR_c (fun j hj => a1 (15 + j) (by omega) (by omega)) q3) hk (by rw [hT]; exact mu.2.2.2)
  rw [hT] at b4
  refine ⟨up2 I2 40 6 (nI k), L2, fun k' h1 h2 h3 h4 => by rw [up2_row _ _ h3, b1 k' h4, a1 k' h1 h2], fun i hi => by rw [up2_i _ _ _ hi, b1 40 (by decide), a1 40 (by decide) (by decide)], up2_s _ _ _ _, fun k' h1 h2 => by rw [b2 k' h2, a2 k' h1], fun i hi => ?_, ⟨MapR_c (I := I1) (L := L1) (by rw [up2_row _ _ (by decide), b1 32 (by decide)]) (by rw [up2_row _ _ (by decide), b1 38 (by decide)]) (fun k' h1 h2 => b2 k' (by omega)) a3.1, by rw [up2_row _ _ (by decide), b1 32 (by decide)]; exact a3.2⟩, fun n hn => by rw [up2_row _ _ (by decide)]; exact b4 n hn, ?_⟩
  · rw [up2_row _ _ (by decide)]
    have := b3 i hi
    rw [a1 41 (by decide) (by decide), a2 42 (by omega)] at this
    exact this
  · unfold F_X11_setOut F_X9_become
    simp only [Option.bind_some, Option.map_some, Option.join, cI_r, cL_r, cV_r, xI_r, xL_r, xV_r, xI_t, xL_t, xV_t, lt_r, rtZ_0, rtZ_1, rtZ_zb, gf136_3, o32, a4, gf136_4, o40, b5, pf40_6]
end
