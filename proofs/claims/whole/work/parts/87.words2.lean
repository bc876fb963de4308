/-! words of the class: sides, back, stay, until -/
def wSide (T : Ro) (c : Nat → Nat) (y sd : Nat) (X : Nat → Prop) (q : Nat) : Prop := q % 2 = 0 ∧ ∃ s, s < 4 * c 1 ∧ X s ∧ isOt T c (thr0 T c y) s (q / 2) ∧ sid T s (q / 2) = sd
def wBack (T : Ro) (c : Nat → Nat) (y : Nat) (X : Nat → Prop) (q : Nat) : Prop := ∃ s, X s ∧ s % 2 = 0 ∧ thr0 T c y (s / 4) ∧ q = 2 * (s / 2 ^^^ 1)
/-- the place of a state is among some -/
def inP (T : Ro) (v : Int64) (s : Nat) : Prop := ∃ p, p < 64 ∧ spl T s = nI p ∧ b64 v p
def fU (T : Ro) (c : Nat → Nat) (y : Nat) (St : Nat → Prop) (X : Nat → Prop) : Nat → (Nat → Prop)
  | 0 => X
  | i + 1 => fun q => ONs T c y (fU T c y St X i) q ∧ ¬ St q
def stU (T : Ro) (c : Nat → Nat) (y : Nat) (St : Nat → Prop) (X : Nat → Prop) (i q : Nat) : Prop := ONs T c y (fU T c y St X i) q ∧ St q
def wUn (T : Ro) (c : Nat → Nat) (y : Nat) (St : Nat → Prop) (past : Prop) (X : Nat → Prop) (i q : Nat) : Prop := (¬ past ∧ stU T c y St X i q) ∨ (past ∧ ONs T c y (stU T c y St X i) q)
section
variable {E : Ev} {w : Wo} {I : Nat → Nat → Int32} {L : Nat → Nat → Int64} {Q : Nat → Nat → Option Nat} {c : Nat → Nat} {T : Ro} {a b t u y : Nat}
theorem xo2 : ∀ s, s < 240 → s % 2 = 0 → nI s ^^^ 2 = nI (2 * (s / 2 ^^^ 1)) := by decide +kernel
theorem c_turn {k to fr nf n sd : Nat} (hG : 100000 ≤ E.2.2.1) (h : WC I L Q T c y k) (so : SO w to) (ht : okTo to) (hf : Frm w I c fr nf n) (hsd : sd < 3) : LdP E w T c y I L Q to (wSide T c y sd (frX I fr n)) (F_X9_turn E (rr w 40) (nI sd) (rr w fr) (nI n) (rr w to) (Hw E w I L Q)) := by
  obtain ⟨q1, q2, hm, hy, hs, hk, hw6, -, -, -⟩ := h
  have k1 : c 1 ≤ 60 := (q1.1 1 (by decide)).2
  have hfn := hf.1.2.2
  unfold okTo at ht
  unfold F_X9_turn
  refine lpK2 (σ := (Nat → Nat → Int32) × (Nat → Nat → Int64)) (Lp := fun g i z => L_X9_turn_3 E (rr w 40) (nI sd) (rr w fr) (nI n) (rr w to) g (nI i) (Hw E w z.1 z.2 Q)) (K := fun z => rtV (Hw E w z.1 z.2 Q)) (Iv := fun i z => (∀ k, k ≠ 38 → z.1 k = I k) ∧ (∀ k, k ≠ 39 → k ≠ to + 1 → z.2 k = L k) ∧ MapY z.1 z.2 T c y ∧ ∀ q, q < 256 → (bq (z.2 (to + 1)) q ↔ bq (L (to + 1)) q ∨ wSide T c y sd (frX I fr i) q)) (N := n) (g := E.2.2.1) (i := 0) (s := (I, L)) ?_ ?_ ?_ (by have := hf.2.2.1; omega) (by omega) ⟨fun _ _ => rfl, fun _ _ _ => rfl, hm, fun q hq => ⟨Or.inl, fun z => z.elim id (fun ⟨_, s, _, ⟨_, i, z, _⟩, _⟩ => absurd z (by omega))⟩⟩
  · rintro ⟨I', L'⟩ ⟨z1, z2, z3, z4⟩ ee
    dsimp only at *
    exact ⟨I', L', Q, ⟨fun k g1 g2 g3 g4 => z1 k g1, fun k g1 g2 g3 g4 g5 => z2 k g1 g5, fun _ _ => rfl⟩, z3, StepsR_c (z1 48 (by decide)) (z1 49 (by decide)) (z1 51 (by decide)) (z2 50 (by decide) (by omega)) (z2 52 (by decide) (by omega)) hs, z4, ee⟩
  · rintro g i ⟨I1, L1⟩ hi ⟨z1, z2, z3, z4⟩
    dsimp only at *
    obtain ⟨s, es, hs4⟩ := hf.2.2.2.2 i hi
    have hn := hf.2.2.1
    obtain ⟨I2, L2, b1, b2, b3, b4, b5⟩ := c_look (E := E) (w := w) (I := I1) (L := L1) (Q := Q) hG q1 (LandR_c (fun j hj => z1 j (by omega)) q2) z3 hy hs4
    refine ⟨(I2, adA L2 (to + 1) (L2 39 (8 * s + 2 * sd)) (L2 39 (8 * s + 2 * sd + 1))), ⟨fun k hk => (b1 k hk).trans (z1 k hk), fun k g1 g2 => ?_, ⟨MapR_c rfl rfl (fun k g1 g2 => adA_row (by omega)) b3.1, b3.2⟩, fun q hq => ?_⟩, ?_⟩
    · show adA L2 (to + 1) _ _ k = _
      rw [adA_row g2, b2 k g1, z2 k g1 g2]
    · show bq (adA L2 (to + 1) _ _ (to + 1)) q ↔ _
      rw [adA_b hq, ba_side b4 (by omega) hsd, b2 (to + 1) (by omega), z4 q hq, or_assoc]
      refine or_congr_right ⟨?_, ?_⟩
      · rintro (⟨g1, s', g2, ⟨g3, i', g4, g5⟩, g6⟩ | ⟨g1, g2⟩)
        · exact ⟨g1, s', g2, ⟨g3, i', by omega, g5⟩, g6⟩
        · exact ⟨g1, s, hs4, ⟨by omega, i, by omega, es⟩, g2⟩
      · rintro ⟨g1, s', g2, ⟨g3, i', g4, g5⟩, g6⟩
        by_cases e : i' = i
        · have : s' = s := (nI_eq (by omega) (by omega)).mp (by rw [← g5, e, es])
          subst this; exact Or.inr ⟨g1, g6⟩
        · exact Or.inl ⟨g1, s', g2, ⟨g3, i', by omega, g5⟩, g6⟩
    · have ef : I1 fr i = nI s := by rw [z1 fr hf.2.1.1]; exact es
      show L_X9_turn_3 E (rr w 40) (nI sd) (rr w fr) (nI n) (rr w to) (g + 1) (nI i) (Hw E w I1 L1 Q) = L_X9_turn_3 E (rr w 40) (nI sd) (rr w fr) (nI n) (rr w to) g (nI (i + 1)) (Hw E w I2 (adA L2 (to + 1) (L2 39 (8 * s + 2 * sd)) (L2 39 (8 * s + 2 * sd + 1))) Q)
      rw [L_X9_turn_3, if_neg (nI_ge hi (by omega))]
      simp (disch := omega) only [Option.bind_some, Option.map_some, Option.join, cI_r, cL_r, cV_r, xI_r, xL_r, xV_r, xI_t, xL_t, xV_t, lt_r, rtZ_0, rtZ_1, rtZ_zb, gf40_0, hf.1.ga, ix_n, ef, o32, b5, m2, pk_mul, nI_add, nI_1, gf32_11, ga39, so.o, c_addArrows so]
  · rintro g ⟨I1, L1⟩ _
    show L_X9_turn_3 E (rr w 40) (nI sd) (rr w fr) (nI n) (rr w to) (g + 1) (nI n) (Hw E w I1 L1 Q) = _
    rw [L_X9_turn_3, if_pos (nI_le (Nat.le_refl n) (by have := hf.2.2.1; omega))]
theorem c_goBack {k to fr nf n : Nat} (hG : 100000 ≤ E.2.2.1) (h : WC I L Q T c y k) (so : SO w to) (ht : okTo to) (hf : Frm w I c fr nf n) : LdP E w T c y I L Q to (wBack T c y (frX I fr n)) (F_X9_goBack E (rr w 40) (rr w fr) (nI n) (rr w to) (Hw E w I L Q)) := by
  obtain ⟨q1, q2, hm, hy, hs, hk, hw6, -, -, -⟩ := h
  have k1 : c 1 ≤ 60 := (q1.1 1 (by decide)).2
  have hfn := hf.1.2.2
  have hn := hf.2.2.1
  have mu := MapY_use hm hy
  unfold okTo at ht
  unfold F_X9_goBack
  refine lpK2 (σ := Nat → Nat → Int64) (Lp := fun g i z => L_X9_goBack_3 E (rr w 40) (rr w fr) (nI n) (rr w to) g (nI i) (Hw E w I z Q)) (K := fun z => rtV (Hw E w I z Q)) (Iv := fun i z => (∀ k, k ≠ to + 1 → z k = L k) ∧ ∀ q, q < 256 → (bq (z (to + 1)) q ↔ bq (L (to + 1)) q ∨ wBack T c y (frX I fr i) q)) (N := n) (g := E.2.2.1) (i := 0) (s := L) ?_ ?_ ?_ (by omega) (by omega) ⟨fun _ _ => rfl, fun q hq => ⟨Or.inl, fun z => z.elim id (fun ⟨s, ⟨_, i, z, _⟩, _⟩ => absurd z (by omega))⟩⟩
  · rintro L' ⟨z2, z4⟩ ee
    exact ⟨I, L', Q, ⟨fun k g1 g2 g3 g4 => rfl, fun k g1 g2 g3 g4 g5 => z2 k g5, fun _ _ => rfl⟩, ⟨MapR_c rfl rfl (fun k g1 g2 => z2 k (by omega)) hm.1, hm.2⟩, StepsR_c rfl rfl rfl (z2 50 (by omega)) (z2 52 (by omega)) hs, z4, ee⟩
  · rintro g i L1 hi ⟨z2, z4⟩
    obtain ⟨s, es, hs4⟩ := hf.2.2.2.2 i hi
    have e4 : L1 32 4 = L 32 4 := by rw [z2 32 (by omega)]
    have zt : zb (b64 (L 32 4) (s / 4)) = zb (thr0 T c y (s / 4)) := zb_c (mu.2.1.1 _ (by omega))
    have grow : ∀ q, wBack T c y (frX I fr (i + 1)) q ↔ wBack T c y (frX I fr i) q ∨ (s % 2 = 0 ∧ thr0 T c y (s / 4) ∧ q = 2 * (s / 2 ^^^ 1)) := fun q => by
      constructor
      · rintro ⟨s', ⟨g1, i', g2, g3⟩, g4⟩
        by_cases e : i' = i
        · have : s' = s := (nI_eq (by omega) (by omega)).mp (by rw [← g3, e, es])
          subst this; exact Or.inr g4
        · exact Or.inl ⟨s', ⟨g1, i', by omega, g3⟩, g4⟩
      · rintro (⟨s', ⟨g1, i', g2, g3⟩, g4⟩ | g4)
        · exact ⟨s', ⟨g1, i', by omega, g3⟩, g4⟩
        · exact ⟨s, ⟨by omega, i, by omega, es⟩, g4⟩
    have hx : 2 * (s / 2 ^^^ 1) < 256 := by rw [xo_1]; split <;> omega
    have st : L_X9_goBack_3 E (rr w 40) (rr w fr) (nI n) (rr w to) (g + 1) (nI i) (Hw E w I L1 Q) = if ¬ nI (s % 2) = 0 then L_X9_goBack_3 E (rr w 40) (rr w fr) (nI n) (rr w to) g (nI (i + 1)) (Hw E w I L1 Q) else if zb (thr0 T c y (s / 4)) = 0 then L_X9_goBack_3 E (rr w 40) (rr w fr) (nI n) (rr w to) g (nI (i + 1)) (Hw E w I L1 Q) else cV (F_X6_add E (rr w to) (nI s ^^^ 2) (Hw E w I L1 Q)) fun h44 => L_X9_goBack_3 E (rr w 40) (rr w fr) (nI n) (rr w to) g (nI (i + 1)) h44 := by
      rw [L_X9_goBack_3, if_neg (nI_ge hi (by omega))]
      have s2 : nI s >>> ((2 : Int32) &&& 31) = nI (s / 4) := pk_shrN (by omega) _ 2 (by decide)
      simp (disch := omega) only [Option.bind_some, Option.map_some, Option.join, cI_r, cL_r, cV_r, xI_r, xL_r, xV_r, xI_t, xL_t, xV_t, lt_r, rtZ_0, rtZ_1, rtZ_zb, hf.1.ga, ix_n, es, ad1, gf40_0, gf32_4, e4, s2, f_isIn, zt, so.o, nI_1]
    by_cases p : s % 2 = 0
    · by_cases p2 : thr0 T c y (s / 4)
      · refine ⟨adS L1 (to + 1) (2 * (s / 2 ^^^ 1)), ⟨fun k hk => (adS_row hk).trans (z2 k hk), fun q hq => ?_⟩, ?_⟩
        · rw [adS_b hx hq, z4 q hq, grow q, or_assoc]
          exact or_congr_right (or_congr_right ⟨fun e => ⟨p, p2, e⟩, fun e => e.2.2⟩)
        · show L_X9_goBack_3 E (rr w 40) (rr w fr) (nI n) (rr w to) (g + 1) (nI i) (Hw E w I L1 Q) = _
          rw [st, p, if_neg (not_not_intro nI_0), zi_t p2, xo2 s (by omega) p, c_add so hx]; rfl
      · refine ⟨L1, ⟨z2, fun q hq => ?_⟩, ?_⟩
        · rw [z4 q hq, grow q]
          exact or_congr_right ⟨Or.inl, fun z => z.elim id (fun z => absurd z.2.1 p2)⟩
        · show L_X9_goBack_3 E (rr w 40) (rr w fr) (nI n) (rr w to) (g + 1) (nI i) (Hw E w I L1 Q) = _
          rw [st, p, if_neg (not_not_intro nI_0), zi_f p2]
    · refine ⟨L1, ⟨z2, fun q hq => ?_⟩, ?_⟩
      · rw [z4 q hq, grow q]
        exact or_congr_right ⟨Or.inl, fun z => z.elim id (fun z => absurd z.1 p)⟩
      · show L_X9_goBack_3 E (rr w 40) (rr w fr) (nI n) (rr w to) (g + 1) (nI i) (Hw E w I L1 Q) = _
        rw [st, if_pos (nI_ne0 (by omega) (by omega))]
  · rintro g L1 _
    show L_X9_goBack_3 E (rr w 40) (rr w fr) (nI n) (rr w to) (g + 1) (nI n) (Hw E w I L1 Q) = _
    rw [L_X9_goBack_3, if_pos (nI_le (Nat.le_refl n) (by omega))]
theorem f_isInP {v : Int64} {s p : Nat} {h : Hp} (hp : p < 64) (es : spl T s = nI p) : F_X11_isIn E v (nI p) h = rtI (zb (inP T v s)) h := by
  rw [f_isIn hp]
  congr 1
  apply zb_c
  exact ⟨fun z => ⟨p, hp, es, z⟩, fun ⟨p', h1, h2, h3⟩ => by
    have : p' = p := (nI_eq (by omega) (by omega)).mp (by rw [← h2, es])
    rw [← this]; exact h3⟩
theorem c_stay {k to fr nf n : Nat} {v : Int64} (hG : 100000 ≤ E.2.2.1) (h : WC I L Q T c y k) (so : SO w to) (ht : okTo to) (hf : Frm w I c fr nf n) : LdP E w T c y I L Q to (fun q => frX I fr n q ∧ inP T v q) (F_X9_staySeeing E (rr w 40) v (rr w fr) (nI n) (rr w to) (Hw E w I L Q)) := by
  obtain ⟨q1, q2, hm, hy, hs, hk, hw6, -, -, -⟩ := h
  have k0 : c 0 ≤ 40 := (q1.1 0 (by decide)).2
  have k1 : c 1 ≤ 60 := (q1.1 1 (by decide)).2
  have hfn := hf.1.2.2
  have hn := hf.2.2.1
  unfold okTo at ht
  unfold F_X9_staySeeing
  refine lpK2 (σ := Nat → Nat → Int64) (Lp := fun g i z => L_X9_staySeeing_3 E (rr w 40) v (rr w fr) (nI n) (rr w to) g (nI i) (Hw E w I z Q)) (K := fun z => rtV (Hw E w I z Q)) (Iv := fun i z => (∀ k, k ≠ to + 1 → z k = L k) ∧ ∀ q, q < 256 → (bq (z (to + 1)) q ↔ bq (L (to + 1)) q ∨ (frX I fr i q ∧ inP T v q))) (N := n) (g := E.2.2.1) (i := 0) (s := L) ?_ ?_ ?_ (by omega) (by omega) ⟨fun _ _ => rfl, fun q hq => ⟨Or.inl, fun z => z.elim id (fun ⟨⟨_, i, z, _⟩, _⟩ => absurd z (by omega))⟩⟩
  · rintro L' ⟨z2, z4⟩ ee
    exact ⟨I, L', Q, ⟨fun k g1 g2 g3 g4 => rfl, fun k g1 g2 g3 g4 g5 => z2 k g5, fun _ _ => rfl⟩, ⟨MapR_c rfl rfl (fun k g1 g2 => z2 k (by omega)) hm.1, hm.2⟩, StepsR_c rfl rfl rfl (z2 50 (by omega)) (z2 52 (by omega)) hs, z4, ee⟩
  · rintro g i L1 hi ⟨z2, z4⟩
    obtain ⟨s, es, hs4⟩ := hf.2.2.2.2 i hi
    obtain ⟨p, ep, hp, e7⟩ := spl_n (I := I) q1 q2 hs4
    have grow : ∀ q, q < 256 → ((frX I fr (i + 1) q ∧ inP T v q) ↔ (frX I fr i q ∧ inP T v q) ∨ (q = s ∧ inP T v s)) := fun q hq => by
      constructor
      · rintro ⟨⟨g1, i', g2, g3⟩, g4⟩
        by_cases e : i' = i
        · have : q = s := (nI_eq (by omega) (by omega)).mp (by rw [← g3, e, es])
          subst this; exact Or.inr ⟨rfl, g4⟩
        · exact Or.inl ⟨⟨g1, i', by omega, g3⟩, g4⟩
      · rintro (⟨⟨g1, i', g2, g3⟩, g4⟩ | ⟨rfl, g4⟩)
        · exact ⟨⟨g1, i', by omega, g3⟩, g4⟩
        · exact ⟨⟨by omega, i, by omega, es⟩, g4⟩
    have st : L_X9_staySeeing_3 E (rr w 40) v (rr w fr) (nI n) (rr w to) (g + 1) (nI i) (Hw E w I L1 Q) = if zb (inP T v s) = 0 then L_X9_staySeeing_3 E (rr w 40) v (rr w fr) (nI n) (rr w to) g (nI (i + 1)) (Hw E w I L1 Q) else L_X9_staySeeing_3 E (rr w 40) v (rr w fr) (nI n) (rr w to) g (nI (i + 1)) (Hw E w I (adS L1 (to + 1) s) Q) := by
      rw [L_X9_staySeeing_3, if_neg (nI_ge hi (by omega))]
      simp (disch := omega) only [Option.bind_some, Option.map_some, Option.join, cI_r, cL_r, cV_r, xI_r, xL_r, xV_r, xI_t, xL_t, xV_t, lt_r, rtZ_0, rtZ_1, rtZ_zb, gf40_0, gf32_0, gf0_8, hf.1.ga, ix_n, es, ga7, e7, f_isInP (s := s) (show p < 64 by omega) ep, so.o, c_add so, nI_1]
    by_cases p2 : inP T v s
    · refine ⟨adS L1 (to + 1) s, ⟨fun k hk => (adS_row hk).trans (z2 k hk), fun q hq => ?_⟩, ?_⟩
      · rw [adS_b (by omega) hq, z4 q hq, grow q hq, or_assoc]
        exact or_congr_right (or_congr_right ⟨fun e => ⟨e, p2⟩, fun e => e.1⟩)
      · show L_X9_staySeeing_3 E (rr w 40) v (rr w fr) (nI n) (rr w to) (g + 1) (nI i) (Hw E w I L1 Q) = _
        rw [st, zi_t p2]
    · refine ⟨L1, ⟨z2, fun q hq => ?_⟩, ?_⟩
      · rw [z4 q hq, grow q hq]
        exact or_congr_right ⟨Or.inl, fun z => z.elim id (fun z => absurd z.2 p2)⟩
      · show L_X9_staySeeing_3 E (rr w 40) v (rr w fr) (nI n) (rr w to) (g + 1) (nI i) (Hw E w I L1 Q) = _
        rw [st, zi_f p2]
  · rintro g L1 _
    show L_X9_staySeeing_3 E (rr w 40) v (rr w fr) (nI n) (rr w to) (g + 1) (nI n) (Hw E w I L1 Q) = _
    rw [L_X9_staySeeing_3, if_pos (nI_le (Nat.le_refl n) (by omega))]
theorem fU_lt {St X : Nat → Prop} (hX : ∀ s, X s → s < 4 * c 1) (i : Nat) : ∀ s, fU T c y St X i s → s < 4 * c 1 := by
  cases i with
  | zero => exact hX
  | succ i => exact fun s h => ONs_lt h.1
theorem nxZ_U {St X : Nat → Prop} {i s l : Nat} (hc : c 1 ≤ 60) (hX : ∀ s, X s → s < 4 * c 1) : nxZ T c y 0 (fun s l => fU T c y St X i s ∧ l = 0) s l ↔ ONs T c y (fU T c y St X i) s ∧ l = 0 := by
  unfold nxZ mvB
  simp only [if_true]
  constructor
  · rintro ⟨h1, h2, s0, l0, ⟨h3, h4⟩, h5, h6⟩
    exact ⟨⟨h1, s0, fU_lt hX i s0 h3, h3, h5⟩, by omega⟩
  · rintro ⟨h, h1⟩
    have hlt := ONs_lt h
    obtain ⟨h2, s0, h3, h4, h5⟩ := h
    exact ⟨h2, by omega, s0, 0, ⟨h4, rfl⟩, h5, h1⟩
/-- one turn over the arrows come to: those where the name stands stop -/
theorem c_until52 {to fr nf n st : Nat} {v : Int64} {past : Prop} {x5 : Int32} {Z : Nat → Prop} (hG : 100000 ≤ E.2.2.1) (q1 : WfT T c) (q2 : LandR I T c) (hy : y ≤ 200) (so : SO w to) (ht : okTo to) (hto : fr ≠ 38) (h : Wk w T c y fr nf 0 I L Q (fun s l => Z s ∧ l = 0) a b t u n st 0) (hl : Lst (2 * c 1) (I a) (L t) n) (hp : x5 = 0 ↔ ¬ past) : ∃ I' L', Wk w T c y fr nf 0 I' L' Q (fun s l => (Z s ∧ ¬ inP T v s) ∧ l = 0) a b t u n st 0 ∧ (∀ k, k ≠ 38 → I' k = I k) ∧ (∀ k, k ≠ 39 → k ≠ 50 → k ≠ 52 → k ≠ to + 1 → L' k = L k) ∧ (∀ q, q < 256 → (bq (L' (to + 1)) q ↔ bq (L (to + 1)) q ∨ ((¬ past ∧ Z q ∧ inP T v q) ∨ (past ∧ ONs T c y (fun s => Z s ∧ inP T v s) q)))) ∧ ∀ K, L_X9_goUntil_52 E K (rr w 40) v x5 (rr w to) E.2.2.1 0 (Hw E w I L Q) = K (Hw E w I' L' Q) := by
  have k0 : c 0 ≤ 40 := (q1.1 0 (by decide)).2
  have k1 : c 1 ≤ 60 := (q1.1 1 (by decide)).2
  unfold okTo at ht
  have lz := fun j hj => Lst_Z h hl k1 j hj
  obtain ⟨w1, w2, w3, w4, w5, w6, w7, w8, w9, w10⟩ := h
  obtain ⟨hA, C2, C3, C4, C5, C6, C7, C8, C9⟩ := w1
  have gg := fun (I : Nat → Nat → Int32) (L : Nat → Nat → Int64) => hA.g (E := E) (w := w) (I := I) (L := L)
  have nn := hA.n
  have hA' := hA.2.2.2.2.2
  have ia := (hA.ia (w := w)).1
  have la := (hA.la (w := w)).1
  have zev : ∀ s, Z s → s % 2 = 0 ∧ s < 4 * c 1 := fun s z => by
    rcases (w10 s 0).mpr ⟨z, rfl⟩ with ⟨i, z1, z2, _⟩ | ⟨x, z1, z2, z3⟩
    · omega
    · obtain ⟨i, h1, h2⟩ := C8 x z1 (fun e => by rw [e] at z3; exact b64_0 z3)
      obtain ⟨j, h3, h4⟩ := C6 i h1
      have : j = x := (nI_eq (by omega) (by omega)).mp (by rw [← h3, h2])
      omega
  -- prc: arrows seen so far
  refine lpK2 (ρ := (Hp → Rs) → Rs) (σ := (Nat → Nat → Int32) × (Nat → Nat → Int64)) (Lp := fun g i z => fun K => L_X9_goUntil_52 E K (rr w 40) v x5 (rr w to) g (nI i) (Hw E w z.1 z.2 Q)) (K := fun z => fun K => K (Hw E w z.1 z.2 Q)) (Iv := fun i z => (∀ k, k ≠ 38 → z.1 k = I k) ∧ (∀ k, k ≠ 39 → k ≠ t → k ≠ to + 1 → z.2 k = L k) ∧ MapY z.1 z.2 T c y ∧ (∀ j, j < 120 → ((∃ i', i' < i ∧ I a i' = nI j) ∧ inP T v (2 * j) → z.2 t j = 0) ∧ (¬ ((∃ i', i' < i ∧ I a i' = nI j) ∧ inP T v (2 * j)) → z.2 t j = L t j)) ∧ ∀ q, q < 256 → (bq (z.2 (to + 1)) q ↔ bq (L (to + 1)) q ∨ ((¬ past ∧ q % 2 = 0 ∧ (∃ i', i' < i ∧ I a i' = nI (q / 2)) ∧ inP T v q) ∨ (past ∧ q % 2 = 0 ∧ ∃ x, x < 2 * c 1 ∧ (∃ i', i' < i ∧ I a i' = nI x) ∧ inP T v (2 * x) ∧ isOn T c (thr0 T c y) (2 * x) (q / 2))))) (N := n) (g := E.2.2.1) (i := 0) (s := (I, L)) ?_ ?_ ?_ (by omega) (by omega) ⟨fun _ _ => rfl, fun _ _ _ _ => rfl, w9, fun j hj => ⟨fun ⟨⟨i, z, _⟩, _⟩ => absurd z (by omega), fun _ => rfl⟩, fun q hq => ⟨Or.inl, fun z => z.elim id (fun z => z.elim (fun ⟨_, _, ⟨i, z, _⟩, _⟩ => absurd z (by omega)) (fun ⟨_, _, x, _, ⟨i, z, _⟩, _⟩ => absurd z (by omega)))⟩⟩
  · rintro ⟨I', L'⟩ ⟨z1, z2, z3, z4, z5⟩ ee
    dsimp only at *
    refine ⟨I', L', ⟨⟨hA, C2, by rw [z1 48 (by decide)]; exact C3, C4, by rw [z1 48 (by decide)]; exact C5, by rw [z1 a (by omega)]; exact C6, by rw [z1 a (by omega)]; exact C7, fun j hj hz => ?_, fun j hj => ?_⟩, w2, by rw [z1 48 (by decide)]; exact w3, by rw [z1 48 (by decide)]; exact w4, w5, w6, fun i _ hi => absurd hi (by omega), by rw [z2 48 (by decide) (by omega) (by omega)]; exact w8, z3, fun s l => ?_⟩, z1, fun k g1 g2 g3 g4 => z2 k g1 (by omega) g4, fun q hq => ?_, fun K => congrFun ee K⟩
    · rw [z1 a (by omega)]
      by_cases p : (∃ i', i' < n ∧ I a i' = nI j) ∧ inP T v (2 * j)
      · exact p.1
      · rw [(z4 j hj).2 p] at hz; exact C8 j hj hz
    · rw [z2 u (by omega) (by omega) (by omega)]; exact C9 j hj
    · have key : ∀ x, x < 120 → ∀ l, (b64 (L' t x) l ↔ b64 (L t x) l ∧ ¬ inP T v (2 * x)) := fun x hx l => by
        by_cases p : (∃ i', i' < n ∧ I a i' = nI x) ∧ inP T v (2 * x)
        · rw [(z4 x hx).1 p]; exact ⟨fun z => absurd z b64_0, fun z => absurd p.2 z.2⟩
        · rw [(z4 x hx).2 p]
          refine ⟨fun z => ⟨z, fun y => p ⟨?_, y⟩⟩, fun z => z.1⟩
          exact C8 x hx (fun e => by rw [e] at z; exact b64_0 z)
      constructor
      · rintro (⟨i, g1, g2, _⟩ | ⟨x, g1, g2, g3⟩)
        · omega
        · have g4 := (key x g1 l).mp g3
          have g5 := (w10 s l).mp (Or.inr ⟨x, g1, g2, g4.1⟩)
          exact ⟨⟨g5.1, by rw [g2]; exact g4.2⟩, g5.2⟩
      · rintro ⟨⟨g1, g2⟩, g3⟩
        rcases (w10 s l).mpr ⟨g1, g3⟩ with ⟨i, g4, g5, _⟩ | ⟨x, g4, g5, g6⟩
        · omega
        · exact Or.inr ⟨x, g4, g5, (key x g4 l).mpr ⟨g6, by rw [← g5]; exact g2⟩⟩
    · rw [z5 q hq]
      have lz' : ∀ j, j < 120 → ((∃ i, i < n ∧ I a i = nI j) ↔ Z (2 * j)) := fun j hj => by
        rw [lz j hj]; exact ⟨fun ⟨l, g⟩ => g.1, fun g => ⟨0, g, rfl⟩⟩
      refine or_congr_right (or_congr ?_ ?_)
      · constructor
        · rintro ⟨g1, g2, ⟨i', g3, g4⟩, g5⟩
          have : q / 2 < 120 := by
            obtain ⟨j, e1, e2⟩ := C6 i' g3
            have : j = q / 2 := (nI_eq (by omega) (by omega)).mp (by rw [← e1, g4])
            omega
          have := (lz' (q / 2) this).mp ⟨i', g3, g4⟩
          rw [show 2 * (q / 2) = q by omega] at this
          exact ⟨g1, this, g5⟩
        · rintro ⟨g1, g2, g3⟩
          have := zev q g2
          exact ⟨g1, this.1, (lz' (q / 2) (by omega)).mpr (by rw [show 2 * (q / 2) = q by omega]; exact g2), g3⟩
      · constructor
        · rintro ⟨g1, g2, x, g3, g4, g5, g6⟩
          exact ⟨g1, g2, 2 * x, by omega, ⟨(lz' x (by omega)).mp g4, g5⟩, g6⟩
        · rintro ⟨g1, g2, s, g3, ⟨g4, g5⟩, g6⟩
          have := zev s g4
          have es : 2 * (s / 2) = s := by omega
          exact ⟨g1, g2, s / 2, by omega, (lz' (s / 2) (by omega)).mpr (by rw [es]; exact g4), by rw [es]; exact g5, by rw [es]; exact g6⟩
  · rintro g i ⟨I1, L1⟩ hi ⟨z1, z2, z3, z4, z5⟩
    dsimp only at *
    obtain ⟨x, ex, hx⟩ := C6 i hi
    obtain ⟨p, ep, hp', e7⟩ := spl_n (I := I) q1 q2 (show 2 * x < 4 * c 1 by omega)
    have e1 : I1 48 1 = nI n := by rw [z1 48 (by decide)]; exact C3
    have ea : I1 a i = nI x := by rw [z1 a (by omega)]; exact ex
    have e7' : I1 7 (2 * x) = nI p := by rw [z1 7 (by decide)]; exact e7
    have prc : ∀ j, j < 120 → ((∃ i', i' < i + 1 ∧ I a i' = nI j) ↔ (∃ i', i' < i ∧ I a i' = nI j) ∨ j = x) := fun j hj => by
      constructor
      · rintro ⟨i', g1, g2⟩
        by_cases e : i' = i
        · exact Or.inr ((nI_eq (by omega) (by omega)).mp (by rw [← g2, e, ex]))
        · exact Or.inl ⟨i', by omega, g2⟩
      · rintro (⟨i', g1, g2⟩ | rfl)
        · exact ⟨i', by omega, g2⟩
        · exact ⟨i, by omega, ex⟩
    generalize eL2 : up2 L1 t x 0 = L2
    have l2r : ∀ k, k ≠ t → L2 k = L1 k := fun k hk => by rw [← eL2, up2_row _ _ hk]
    have m2y : MapY I1 L2 T c y := ⟨MapR_c rfl rfl (fun k g1 g2 => l2r k (by omega)) z3.1, z3.2⟩
    have st0 : ∀ K, L_X9_goUntil_52 E K (rr w 40) v x5 (rr w to) (g + 1) (nI i) (Hw E w I1 L1 Q) = if ¬ zb (inP T v (2 * x)) = 0 then (if x5 = 0 then (cV (F_X6_add E (rr w to) (nI (2 * x)) (Hw E w I1 L2 Q)) fun h169 => L_X9_goUntil_52 E K (rr w 40) v x5 (rr w to) g (nI (i + 1)) h169) else (cI (F_X10_look E (rr w 32) (nI (2 * x)) (Hw E w I1 L2 Q)) fun v125 h125 => (gfR h125 (rr w 40) 9 0).bind fun v136 => (gfR h125 v136 10 11).bind fun v139 => (gaL E h125 v139 (v125 + (6 : Int32))).bind fun v144 => (gfR h125 (rr w 40) 9 0).bind fun v146 => (gfR h125 v146 10 11).bind fun v149 => (gaL E h125 v149 ((v125 + (6 : Int32)) + (1 : Int32))).bind fun v156 => (isO h125 (rr w to) 6).bind fun _ => cV (F_X6_addArrows E (rr w to) v144 v156 h125) fun h157 => L_X9_goUntil_52 E K (rr w 40) v x5 (rr w to) g (nI (i + 1)) h157)) else L_X9_goUntil_52 E K (rr w 40) v x5 (rr w to) g (nI (i + 1)) (Hw E w I1 L1 Q) := fun K => by
      rw [L_X9_goUntil_52, gf40_3, Option.bind_some, gf48_1, Option.bind_some, e1, if_neg (nI_ge hi (by omega)), Option.bind_some, (gg I1 L1).1, Option.bind_some]
      simp (disch := omega) only [Option.bind_some, Option.map_some, Option.join, cI_r, cL_r, cV_r, xI_r, xL_r, xV_r, xI_t, xL_t, xV_t, lt_r, rtZ_0, rtZ_1, rtZ_zb, ia.ga, ix_n, ea, gf40_0, gf40_3, gf32_0, gf0_8, m2, pk_mul, ga7, e7', f_isInP (s := 2 * x) (show p < 64 by omega) ep, (gg I1 L1).2.2.1, la.pa, eL2, so.o, o32, nI_1]
    by_cases ps : inP T v (2 * x)
    · have tg : ∀ L3 : Nat → Nat → Int64, L3 t = L2 t → ∀ j, j < 120 → ((∃ i', i' < i + 1 ∧ I a i' = nI j) ∧ inP T v (2 * j) → L3 t j = 0) ∧ (¬ ((∃ i', i' < i + 1 ∧ I a i' = nI j) ∧ inP T v (2 * j)) → L3 t j = L t j) := fun L3 e3 j hj => by
        rw [e3, ← eL2]
        by_cases e : j = x
        · subst e
          refine ⟨fun _ => up2_s _ _ _ _, fun z => absurd ⟨(prc j hj).mpr (Or.inr rfl), ps⟩ z⟩
        · rw [up2_i _ _ _ e, prc j hj]
          refine ⟨fun z => (z4 j hj).1 ⟨z.1.elim id (fun y => absurd y e), z.2⟩, fun z => (z4 j hj).2 (fun y => z ⟨Or.inl y.1, y.2⟩)⟩
      by_cases p5 : x5 = 0
      · have np := hp.mp p5
        refine ⟨(I1, adS L2 (to + 1) (2 * x)), ⟨z1, fun k g1 g2 g3 => ?_, ⟨MapR_c rfl rfl (fun k g1 g2 => adS_row (by omega)) m2y.1, m2y.2⟩, tg _ (adS_row (by omega)), fun q hq => ?_⟩, ?_⟩
        · show adS L2 (to + 1) (2 * x) k = _
          rw [adS_row g3, l2r k g2, z2 k g1 g2 g3]
        · show bq (adS L2 (to + 1) (2 * x) (to + 1)) q ↔ _
          rw [adS_b (by omega) hq, l2r (to + 1) (by omega), z5 q hq, or_assoc]
          refine or_congr_right ⟨?_, ?_⟩
          · rintro ((⟨g1, g2, ⟨i', g3, g4⟩, g5⟩ | g) | e)
            · exact Or.inl ⟨g1, g2, ⟨i', by omega, g4⟩, g5⟩
            · exact absurd g.1 np
            · subst e
              exact Or.inl ⟨np, by omega, ⟨i, by omega, by rw [show 2 * x / 2 = x by omega]; exact ex⟩, ps⟩
          · rintro (⟨g1, g2, g3, g5⟩ | g)
            · rcases (prc (q / 2) (by
                obtain ⟨i', g6, g7⟩ := g3
                obtain ⟨j, e1', e2'⟩ := C6 i' (by omega)
                have : j = q / 2 := (nI_eq (by omega) (by omega)).mp (by rw [← e1', g7])
                omega)).mp g3 with g4 | g4
              · exact Or.inl (Or.inl ⟨g1, g2, g4, g5⟩)
              · exact Or.inr (by omega)
            · exact absurd g.1 np
        · funext K
          show L_X9_goUntil_52 E K (rr w 40) v x5 (rr w to) (g + 1) (nI i) (Hw E w I1 L1 Q) = _
          rw [st0, zn_t ps, if_pos p5, c_add so (by omega)]; rfl
      · have pp : past := Classical.not_not.mp (fun z => p5 (hp.mpr z))
        obtain ⟨I3, L3, b1, b2, b3, b4, b5⟩ := c_look (E := E) (w := w) (I := I1) (L := L2) (Q := Q) hG q1 (LandR_c (fun j hj => z1 j (by omega)) q2) m2y hy (show 2 * x < 4 * c 1 by omega)
        refine ⟨(I3, adA L3 (to + 1) (L3 39 (8 * (2 * x) + 6)) (L3 39 (8 * (2 * x) + 6 + 1))), ⟨fun k hk => (b1 k hk).trans (z1 k hk), fun k g1 g2 g3 => ?_, ⟨MapR_c rfl rfl (fun k g1 g2 => adA_row (by omega)) b3.1, b3.2⟩, tg _ ((adA_row (by omega)).trans (b2 t (by omega))), fun q hq => ?_⟩, ?_⟩
        · show adA L3 (to + 1) _ _ k = _
          rw [adA_row g3, b2 k g1, l2r k g2, z2 k g1 g2 g3]
        · show bq (adA L3 (to + 1) _ _ (to + 1)) q ↔ _
          rw [adA_b hq, ba_row b4 (by omega), b2 (to + 1) (by omega), l2r (to + 1) (by omega), z5 q hq, or_assoc]
          refine or_congr_right ⟨?_, ?_⟩
          · rintro ((g | ⟨g1, g2, x', g3, ⟨i', g4, g5⟩, g6⟩) | ⟨g1, g2⟩)
            · exact absurd pp g.1
            · exact Or.inr ⟨g1, g2, x', g3, ⟨i', by omega, g5⟩, g6⟩
            · exact Or.inr ⟨pp, g1, x, hx, ⟨i, by omega, ex⟩, ps, g2⟩
          · rintro (g | ⟨g1, g2, x', g3, g4, g5, g6⟩)
            · exact absurd pp g.1
            · rcases (prc x' (by omega)).mp g4 with g7 | g7
              · exact Or.inl (Or.inr ⟨g1, g2, x', g3, g7, g5, g6⟩)
              · rw [g7] at g6; exact Or.inr ⟨g2, g6⟩
        · funext K
          show L_X9_goUntil_52 E K (rr w 40) v x5 (rr w to) (g + 1) (nI i) (Hw E w I1 L1 Q) = _
          rw [st0, zn_t ps, if_neg p5, b5]
          simp (disch := omega) only [Option.bind_some, Option.map_some, Option.join, cI_r, cL_r, cV_r, xI_r, xL_r, xV_r, xI_t, xL_t, xV_t, lt_r, rtZ_0, rtZ_1, rtZ_zb, gf40_0, gf32_11, m6, nI_add, nI_1, ga39, ix_n, so.o, c_addArrows so]
    · refine ⟨(I1, L1), ⟨z1, z2, z3, fun j hj => ?_, fun q hq => ?_⟩, ?_⟩
      · rw [prc j hj]
        refine ⟨fun z => (z4 j hj).1 ⟨z.1.elim id (fun y => by rw [y] at z; exact absurd z.2 ps), z.2⟩, fun z => (z4 j hj).2 (fun y => z ⟨Or.inl y.1, y.2⟩)⟩
      · show bq (L1 (to + 1)) q ↔ _
        rw [z5 q hq]
        refine or_congr_right (or_congr ?_ ?_)
        · constructor
          · rintro ⟨g1, g2, ⟨i', g3, g4⟩, g5⟩; exact ⟨g1, g2, ⟨i', by omega, g4⟩, g5⟩
          · rintro ⟨g1, g2, ⟨i', g3, g4⟩, g5⟩
            by_cases e : i' = i
            · have : q / 2 = x := (nI_eq (by omega) (by omega)).mp (by rw [← g4, e, ex])
              rw [show q = 2 * x by omega] at g5; exact absurd g5 ps
            · exact ⟨g1, g2, ⟨i', by omega, g4⟩, g5⟩
        · constructor
          · rintro ⟨g1, g2, x', g3, ⟨i', g4, g5⟩, g6⟩; exact ⟨g1, g2, x', g3, ⟨i', by omega, g5⟩, g6⟩
          · rintro ⟨g1, g2, x', g3, g4, g5, g6⟩
            rcases (prc x' (by omega)).mp g4 with g7 | g7
            · exact ⟨g1, g2, x', g3, g7, g5, g6⟩
            · rw [g7] at g5; exact absurd g5 ps
      · funext K
        show L_X9_goUntil_52 E K (rr w 40) v x5 (rr w to) (g + 1) (nI i) (Hw E w I1 L1 Q) = _
        rw [st0, zn_f ps]
  · rintro g ⟨I1, L1⟩ ⟨z1, _⟩
    funext K
    have e1 : I1 48 1 = nI n := (congrFun (z1 48 (by decide)) 1).trans C3
    show L_X9_goUntil_52 E K (rr w 40) v x5 (rr w to) (g + 1) (nI n) (Hw E w I1 L1 Q) = _
    rw [L_X9_goUntil_52, gf40_3, Option.bind_some, gf48_1, Option.bind_some, e1, if_pos (nI_le (Nat.le_refl n) (by omega))]
/-- on until, past -/
theorem c_goUntil {k to fr nf n : Nat} {v : Int64} {past : Prop} {x5 : Int32} (hG : 100000 ≤ E.2.2.1) (h : WC I L Q T c y k) (so : SO w to) (ht : okTo to) (hf : Frm w I c fr nf n) (hp : x5 = 0 ↔ ¬ past) (hv : ∀ p, b64 v p → p < 64) : LdP E w T c y I L Q to (fun q => ∃ i, i < tn (T (726 + 5 * k)) ∧ wUn T c y (inP T v) past (frX I fr n) i q) (F_X9_goUntil E (rr w 40) v (rr w fr) (nI n) x5 (rr w to) (Hw E w I L Q)) := by
  obtain ⟨p, p1, p2, p3, p4, p5⟩ := pat_n h
  have tp : tn (T (726 + 5 * k)) = p := by rw [p2]; exact nI_clamp (by omega)
  rw [tp]
  have h0 := h
  obtain ⟨q1, q2, hm, hy, hs, hk, hw6, -, -, -⟩ := h
  have k1 : c 1 ≤ 60 := (q1.1 1 (by decide)).2
  have ht0 := ht
  unfold okTo at ht
  unfold F_X9_goUntil
  by_cases c0 : v = 0
  · rw [if_neg (not_not_intro c0)]
    refine ⟨I, L, Q, LdF.rf, hm, hs, fun q hq => ⟨Or.inl, fun z => z.elim id ?_⟩, rfl⟩
    rintro ⟨i, _, z⟩
    have no : ∀ s, ¬ inP T v s := fun s ⟨p, _, _, z⟩ => by rw [c0] at z; exact b64_0 z
    rcases z with z | z
    · exact absurd z.2.2 (no q)
    · obtain ⟨_, _, s, _, z, _⟩ := z
      exact absurd z.2 (no s)
  · rw [if_pos c0]
    simp only [Option.bind_some, Option.map_some, Option.join, cI_r, cL_r, cV_r, xI_r, xL_r, xV_r, xI_t, xL_t, xV_t, lt_r, rtZ_0, rtZ_1, rtZ_zb, gf40_3, o48]
    obtain ⟨a, b, t, u, I1, L1, Q1, d1, d2, d3, d4⟩ := c_beginW (E := E) (w := w) (st := 0) (en := n) (lens := 0) hG k1 hm hs hf.1 hf.2.1 hf.2.2.1 (by omega) (fun i _ hi => hf.2.2.2.2 i hi) (to + 1)
    have d1' := Wk_c (Z' := fun s l => frX I fr n s ∧ l = 0) (fun s l => ⟨fun z => ⟨⟨z.1.1, by obtain ⟨i, _, g2, g3⟩ := z.1.2; exact ⟨i, g2, g3⟩⟩, z.2⟩, fun z => ⟨⟨z.1.1, by obtain ⟨i, g2, g3⟩ := z.1.2; exact ⟨i, by omega, g2, g3⟩⟩, z.2⟩⟩) d1
    rw [show (0 : Int32) = nI 0 from rfl, d4, cV_r]
    have hX : ∀ s, frX I fr n s → s < 4 * c 1 := fun s hx => hf.lt k1 hx
    have el : L1 (to + 1) = L (to + 1) := d3 _ (by omega) (by omega) (by omega)
    generalize hXX : frX I fr n = X at *
    refine lpE (σ := (Nat → Nat → Int32) × (Nat → Nat → Int64) × (Nat → Nat → Option Nat)) (Lp := fun g i z => L_X9_goUntil_22 E (rr w 40) v x5 (rr w to) g (nI i) (Hw E w z.1 z.2.1 z.2.2)) (Iv := fun i z => (∃ a' b' t' u' n' st' en', Wk w T c y fr nf 0 z.1 z.2.1 z.2.2 (fun s l => fU T c y (inP T v) X i s ∧ l = 0) a' b' t' u' n' st' en') ∧ LdF I z.1 L z.2.1 Q z.2.2 (to + 1) ∧ ∀ q, q < 256 → (bq (z.2.1 (to + 1)) q ↔ bq (L (to + 1)) q ∨ ∃ i', i' < i ∧ wUn T c y (inP T v) past X i' q)) (Post := LdP E w T c y I L Q to (fun q => ∃ i, i < p ∧ wUn T c y (inP T v) past X i q)) (N := p) ?_ ?_ E.2.2.1 0 (I1, L1, Q1) (by omega) (by omega) ⟨⟨a, b, t, u, 0, 0, n, d1'⟩, d2, fun q hq => by
      show bq (L1 (to + 1)) q ↔ _
      rw [el]; exact ⟨Or.inl, fun z => z.elim id (fun ⟨i, z, _⟩ => absurd z (by omega))⟩⟩
    · rintro g i ⟨I2, L2, Q2⟩ hi ⟨⟨a', b', t', u', n', st', en', z1⟩, z2, z3⟩
      dsimp only at *
      have q2' : LandR I2 T c := LandR_c (fun j hj => z2.1 j (by omega) (by omega) (by omega) (by omega)) q2
      obtain ⟨I3, L3, Q3, n3, e1, e2, e3, e4, e5, e6⟩ := c_goW (E := E) (w := w) hG q1 q2' hy hf.1 hf.2.1 z1 (to + 1)
      have e1' := Wk_c (fun s l => nxZ_U k1 hX) e1
      have pk : I2 21 k = nI p := by rw [z2.1 21 (by decide) (by decide) (by decide) (by decide)]; exact p1
      have wk : I2 40 6 = nI k := by rw [z2.1 40 (by decide) (by decide) (by decide) (by decide)]; exact hw6
      have el3 : L3 (to + 1) = L2 (to + 1) := e5 _ (by omega) (by omega) (by omega)
      have st0 : L_X9_goUntil_22 E (rr w 40) v x5 (rr w to) (g + 1) (nI i) (Hw E w I2 L2 Q2) = if zb (0 < n3) = 0 then rtV (Hw E w I3 L3 Q3) else L_X9_goUntil_52 E (fun h4 => L_X9_goUntil_22 E (rr w 40) v x5 (rr w to) g (nI (i + 1)) h4) (rr w 40) v x5 (rr w to) E.2.2.1 0 (Hw E w I3 L3 Q3) := by
        rw [L_X9_goUntil_22]
        simp (disch := omega) only [Option.bind_some, Option.map_some, Option.join, cI_r, cL_r, cV_r, xI_r, xL_r, xV_r, xI_t, xL_t, xV_t, lt_r, rtZ_0, rtZ_1, rtZ_zb, gf40_1, gf15_7, gf40_6, wk, ga21, ix_n, pk, nI_leI, if_neg, gf40_3, o48, e6, nI_1]
      by_cases pn : 0 < n3
      · left
        obtain ⟨I4, L4, g1, g2, g3, g4, g5⟩ := c_until52 (E := E) (w := w) (v := v) (past := past) (x5 := x5) (to := to) hG q1 (LandR_c (fun j hj => e4.1 j (by omega) (by omega) (by omega) (by omega)) q2') hy so ht0 hf.2.1.1 e1' e2 hp
        have f4 : LdF I3 I4 L3 L4 Q3 Q3 (to + 1) := ⟨fun k g1' _ _ _ => g2 k g1', fun k a1 a2 a3 a4 a5 => g3 k a1 a3 a4 a5, fun _ _ => rfl⟩
        refine ⟨(I4, L4, Q3), ⟨⟨b', a', u', t', n3, st', 0, g1⟩, (z2.tr e4).tr f4, fun q hq => ?_⟩, ?_⟩
        · show bq (L4 (to + 1)) q ↔ _
          rw [g4 q hq, el3, z3 q hq, or_assoc]
          refine or_congr_right ⟨?_, ?_⟩
          · rintro (⟨i', a1, a2⟩ | a1)
            · exact ⟨i', by omega, a2⟩
            · exact ⟨i, by omega, a1⟩
          · rintro ⟨i', a1, a2⟩
            by_cases e : i' = i
            · subst e; exact Or.inr a2
            · exact Or.inl ⟨i', by omega, a2⟩
        · show L_X9_goUntil_22 E (rr w 40) v x5 (rr w to) (g + 1) (nI i) (Hw E w I2 L2 Q2) = _
          rw [st0, zi_t pn, g5]
      · right
        have em : ∀ s, ¬ ONs T c y (fU T c y (inP T v) X i) s := fun s z => pn (e3.mpr ⟨s, 0, (nxZ_U k1 hX).mpr ⟨z, rfl⟩⟩)
        have em2 : ∀ j s, i ≤ j → ¬ ONs T c y (fU T c y (inP T v) X j) s := fun j => by
          induction j with
          | zero => intro s hj; rw [show i = 0 by omega] at em; exact em s
          | succ j ih =>
            intro s hj
            by_cases e : i = j + 1
            · rw [← e]; exact em s
            · rintro ⟨_, s0, _, z, _⟩
              exact ih s0 (by omega) z.1
        refine ⟨I3, L3, Q3, z2.tr e4, e1.2.2.2.2.2.2.2.2.1, Cur.st (B := 2 * c 1) (by omega) e1.1, fun q hq => ?_, ?_⟩
        · rw [el3, z3 q hq]
          refine or_congr_right ⟨fun ⟨i', a1, a2⟩ => ⟨i', by omega, a2⟩, fun ⟨i', a1, a2⟩ => ?_⟩
          by_cases e : i' < i
          · exact ⟨i', e, a2⟩
          · exfalso
            rcases a2 with a2 | a2
            · exact em2 i' q (by omega) a2.2.1
            · obtain ⟨_, _, s, _, z, _⟩ := a2
              exact em2 i' s (by omega) z.1
        · show L_X9_goUntil_22 E (rr w 40) v x5 (rr w to) (g + 1) (nI i) (Hw E w I2 L2 Q2) = _
          rw [st0, zi_f pn]
    · rintro g ⟨I2, L2, Q2⟩ ⟨⟨a', b', t', u', n', st', en', z1⟩, z2, z3⟩
      dsimp only at *
      have pk : I2 21 k = nI p := by rw [z2.1 21 (by decide) (by decide) (by decide) (by decide)]; exact p1
      have wk : I2 40 6 = nI k := by rw [z2.1 40 (by decide) (by decide) (by decide) (by decide)]; exact hw6
      refine ⟨I2, L2, Q2, z2, z1.2.2.2.2.2.2.2.2.1, Cur.st (B := 2 * c 1) (by omega) z1.1, z3, ?_⟩
      show L_X9_goUntil_22 E (rr w 40) v x5 (rr w to) (g + 1) (nI p) (Hw E w I2 L2 Q2) = _
      rw [L_X9_goUntil_22]
      simp (disch := omega) only [Option.bind_some, Option.map_some, Option.join, cI_r, cL_r, cV_r, xI_r, xL_r, xV_r, xI_t, xL_t, xV_t, lt_r, rtZ_0, rtZ_1, rtZ_zb, gf40_1, gf15_7, gf40_6, wk, ga21, ix_n, pk, nI_leI, if_pos]
end
