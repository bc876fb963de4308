/-! words of the class: far, over -/
def ZI (T : Ro) (c : Nat → Nat) (y : Nat) (lens : Int64) (Z : Nat → Nat → Prop) : Nat → (Nat → Nat → Prop)
  | 0 => Z
  | i + 1 => nxZ T c y lens (ZI T c y lens Z i)
section
variable {E : Ev} {w : Wo} {I : Nat → Nat → Int32} {L : Nat → Nat → Int64} {Q : Nat → Nat → Option Nat} {c : Nat → Nat} {T : Ro} {a b t u y : Nat}
theorem bs_m1 {m i : Nat} (hm : m < 64) (hi : i < 64) : b64 (bs m - 1) i ↔ i < m := by
  rw [b64_m1 hi, bs_b hm]
  constructor
  · intro z
    rcases Nat.lt_trichotomy i m with h | h | h
    · exact h
    · obtain ⟨j, h1, h2⟩ := z.mp h
      rw [bs_b hm] at h2; omega
    · have := z.mpr ⟨m, h, (bs_b hm).mpr rfl⟩; omega
  · intro h
    exact ⟨fun e => by omega, fun ⟨j, h1, h2⟩ => by rw [bs_b hm] at h2; omega⟩
theorem bs_ng {m i : Nat} (hm : m < 64) (hi : i < 64) : b64 (-bs m) i ↔ m ≤ i := by
  rw [b64_neg hi, bs_b hm]
  constructor
  · intro z
    apply Classical.byContradiction
    intro h
    exact z ⟨fun e => by omega, fun ⟨j, h1, h2⟩ => by rw [bs_b hm] at h2; omega⟩
  · intro h z
    rcases Nat.lt_or_ge m i with h1 | h1
    · have := z.mpr ⟨m, h1, (bs_b hm).mpr rfl⟩; omega
    · obtain ⟨j, h2, h3⟩ := z.mp (by omega)
      rw [bs_b hm] at h3; omega
theorem Wk_to {fr nf n st en to : Nat} {lens : Int64} {Z : Nat → Nat → Prop} {L' : Nat → Nat → Int64} (ht : okTo to) (h : ∀ k, k ≠ to + 1 → L' k = L k) (q : Wk w T c y fr nf lens I L Q Z a b t u n st en) : Wk w T c y fr nf lens I L' Q Z a b t u n st en := by
  unfold okTo at ht
  obtain ⟨w1, w2, w3, w4, w5, w6, w7, w8, w9, w10⟩ := q
  obtain ⟨hA, C2, C3, C4, C5, C6, C7, C8, C9⟩ := w1
  have hA' := hA.2.2.2.2.2
  have et := h t (by omega)
  have eu := h u (by omega)
  exact ⟨⟨hA, C2, C3, C4, C5, C6, C7, by rw [et]; exact C8, by rw [eu]; exact C9⟩, w2, w3, w4, w5, w6, w7, by rw [h 48 (by omega)]; exact w8, ⟨MapR_c rfl rfl (fun k g1 g2 => h k (by omega)) w9.1, w9.2⟩, by rw [et]; exact w10⟩
theorem c_far69 {to fr nf n st : Nat} {lens v : Int64} {Z : Nat → Nat → Prop} (hG : 100000 ≤ E.2.2.1) (hc : c 1 ≤ 60) (so : SO w to) (ht : okTo to) (h : Wk w T c y fr nf lens I L Q Z a b t u n st 0) : ∃ L', (∀ k, k ≠ to + 1 → L' k = L k) ∧ (∀ q, q < 256 → (bq (L' (to + 1)) q ↔ bq (L (to + 1)) q ∨ ∃ l, Z q l ∧ b64 v l)) ∧ ∀ K, L_X9_goFar_69 E K (rr w 40) (rr w to) v E.2.2.1 0 (Hw E w I L Q) = K (Hw E w I L' Q) := by
  unfold okTo at ht
  obtain ⟨w1, w2, w3, w4, w5, w6, w7, w8, w9, w10⟩ := h
  obtain ⟨hA, C2, C3, C4, C5, C6, C7, C8, C9⟩ := w1
  have gg := fun (L : Nat → Nat → Int64) => hA.g (E := E) (w := w) (I := I) (L := L)
  have nn := hA.n
  have hA' := hA.2.2.2.2.2
  have ia := (hA.ia (w := w)).1
  have la := (hA.la (w := w)).1
  refine lpK2 (ρ := (Hp → Rs) → Rs) (σ := Nat → Nat → Int64) (Lp := fun g i s => fun K => L_X9_goFar_69 E K (rr w 40) (rr w to) v g (nI i) (Hw E w I s Q)) (K := fun s => fun K => K (Hw E w I s Q)) (Iv := fun i s => (∀ k, k ≠ to + 1 → s k = L k) ∧ ∀ q, q < 256 → (bq (s (to + 1)) q ↔ bq (L (to + 1)) q ∨ (q % 2 = 0 ∧ (∃ i', i' < i ∧ I a i' = nI (q / 2)) ∧ ∃ l, b64 (L t (q / 2)) l ∧ b64 v l))) (N := n) (g := E.2.2.1) (i := 0) (s := L) ?_ ?_ ?_ (by omega) (by omega) ⟨fun _ _ => rfl, fun q hq => ⟨Or.inl, fun z => z.elim id (fun ⟨_, ⟨i, h, _⟩, _⟩ => absurd h (by omega))⟩⟩
  · rintro L' ⟨z1, z2⟩ ee
    refine ⟨L', z1, fun q hq => ?_, fun K => congrFun ee K⟩
    rw [z2 q hq]
    refine or_congr_right ⟨?_, ?_⟩
    · rintro ⟨g1, ⟨i, g2, g3⟩, l, g4, g5⟩
      have : q / 2 < 120 := by
        obtain ⟨j, e1, e2⟩ := C6 i g2
        have : j = q / 2 := (nI_eq (by omega) (by omega)).mp (by rw [← e1, g3])
        omega
      exact ⟨l, (w10 q l).mp (Or.inr ⟨q / 2, this, by omega, g4⟩), g5⟩
    · rintro ⟨l, g1, g2⟩
      rcases (w10 q l).mpr g1 with ⟨i, z1, z2, _⟩ | ⟨x, z1, z2, z3⟩
      · omega
      · have : q / 2 = x := by omega
        rw [this]
        exact ⟨by omega, C8 x z1 (fun e => by rw [e] at z3; exact b64_0 z3), l, z3, g2⟩
  · rintro g i L1 hi ⟨z1, z2⟩
    obtain ⟨x, ex, hx⟩ := C6 i hi
    have et : L1 t = L t := z1 t (by omega)
    have nz : (L t x &&& v) = 0 ↔ ¬ ∃ l, b64 (L t x) l ∧ b64 v l := by
      rw [z64]
      exact ⟨fun h ⟨l, g1, g2⟩ => h l (b64_lt g1) (b64_and.mpr ⟨g1, g2⟩), fun h l _ z => h ⟨l, b64_and.mp z⟩⟩
    have st0 : ∀ K, L_X9_goFar_69 E K (rr w 40) (rr w to) v (g + 1) (nI i) (Hw E w I L1 Q) = if (L t x &&& v) = 0 then L_X9_goFar_69 E K (rr w 40) (rr w to) v g (nI (i + 1)) (Hw E w I L1 Q) else L_X9_goFar_69 E K (rr w 40) (rr w to) v g (nI (i + 1)) (Hw E w I (adS L1 (to + 1) (2 * x)) Q) := fun K => by
      rw [L_X9_goFar_69, gf40_3, Option.bind_some, gf48_1, Option.bind_some, C3, if_neg (nI_ge hi (by omega)), Option.bind_some, (gg L1).1, Option.bind_some]
      simp (disch := omega) only [Option.bind_some, Option.map_some, Option.join, cI_r, cL_r, cV_r, xI_r, xL_r, xV_r, xI_t, xL_t, xV_t, lt_r, rtZ_0, rtZ_1, rtZ_zb, ia.ga, ix_n, ex, gf40_3, (gg L1).2.2.1, la.ga, et, so.o, m2, pk_mul, c_add so, nI_1]
    have grow : ∀ q, q < 256 → ((q % 2 = 0 ∧ (∃ i', i' < i + 1 ∧ I a i' = nI (q / 2)) ∧ ∃ l, b64 (L t (q / 2)) l ∧ b64 v l) ↔ (q % 2 = 0 ∧ (∃ i', i' < i ∧ I a i' = nI (q / 2)) ∧ ∃ l, b64 (L t (q / 2)) l ∧ b64 v l) ∨ (q = 2 * x ∧ ∃ l, b64 (L t x) l ∧ b64 v l)) := fun q hq => by
      constructor
      · rintro ⟨g1, ⟨i', g2, g3⟩, g4⟩
        by_cases e : i' = i
        · have : q / 2 = x := (nI_eq (by omega) (by omega)).mp (by rw [← g3, e, ex])
          rw [this] at g4; exact Or.inr ⟨by omega, g4⟩
        · exact Or.inl ⟨g1, ⟨i', by omega, g3⟩, g4⟩
      · rintro (⟨g1, ⟨i', g2, g3⟩, g4⟩ | ⟨g1, g4⟩)
        · exact ⟨g1, ⟨i', by omega, g3⟩, g4⟩
        · have : q / 2 = x := by omega
          rw [this]; exact ⟨by omega, ⟨i, by omega, ex⟩, g4⟩
    by_cases p : ∃ l, b64 (L t x) l ∧ b64 v l
    · refine ⟨adS L1 (to + 1) (2 * x), ⟨fun k hk => (adS_row hk).trans (z1 k hk), fun q hq => ?_⟩, ?_⟩
      · rw [adS_b (by omega) hq, z2 q hq, grow q hq, or_assoc]
        exact or_congr_right (or_congr_right ⟨fun e => ⟨e, p⟩, fun e => e.1⟩)
      · funext K
        show L_X9_goFar_69 E K (rr w 40) (rr w to) v (g + 1) (nI i) (Hw E w I L1 Q) = _
        rw [st0, if_neg (fun z => nz.mp z p)]
    · refine ⟨L1, ⟨z1, fun q hq => ?_⟩, ?_⟩
      · rw [z2 q hq, grow q hq]
        exact or_congr_right ⟨Or.inl, fun z => z.elim id (fun z => absurd z.2 p)⟩
      · funext K
        show L_X9_goFar_69 E K (rr w 40) (rr w to) v (g + 1) (nI i) (Hw E w I L1 Q) = _
        rw [st0, if_pos (nz.mpr p)]
  · rintro g L1 _
    funext K
    show L_X9_goFar_69 E K (rr w 40) (rr w to) v (g + 1) (nI n) (Hw E w I L1 Q) = _
    rw [L_X9_goFar_69, gf40_3, Option.bind_some, gf48_1, Option.bind_some, C3, if_pos (nI_le (Nat.le_refl n) (by omega))]
/-- lengths followed by far N -/
def lnF (N : Nat) : Int64 := bs (2 * N + 1) - 1
def Z0 (X : Nat → Prop) (s l : Nat) : Prop := X s ∧ l = 0
def wFar (T : Ro) (c : Nat → Nat) (y : Nat) (pat N : Nat) (X : Nat → Prop) (q : Nat) : Prop := ∃ i, i < pat ∧ ∃ l, ZI T c y (lnF N) (Z0 X) (i + 1) q l ∧ (N + 1) / 2 ≤ l ∧ l ≤ 2 * N
theorem ZI_e {lens : Int64} {Z : Nat → Nat → Prop} {i j : Nat} (h : ∀ s l, ¬ ZI T c y lens Z i s l) (hij : i ≤ j) : ∀ s l, ¬ ZI T c y lens Z j s l := by
  induction j with
  | zero => rw [show i = 0 by omega] at h; exact h
  | succ j ih =>
    by_cases e : i = j + 1
    · rw [← e]; exact h
    · rintro s l ⟨_, _, s0, l0, z, _⟩
      exact ih (by omega) s0 l0 z
theorem c_goFar {k to fr nf n N : Nat} (hG : 100000 ≤ E.2.2.1) (h : WC I L Q T c y k) (so : SO w to) (ht : okTo to) (hf : Frm w I c fr nf n) (hN : 1 ≤ N) (hN2 : N ≤ 20) : LdP E w T c y I L Q to (wFar T c y (tn (T (726 + 5 * k))) N (frX I fr n)) (F_X9_goFar E (rr w 40) (nI N) (rr w fr) (nI n) (rr w to) (Hw E w I L Q)) := by
  obtain ⟨p, p1, p2, p3, p4, p5⟩ := pat_n h
  have tp : tn (T (726 + 5 * k)) = p := by rw [p2]; exact nI_clamp (by omega)
  rw [tp]
  have h0 := h
  obtain ⟨q1, q2, hm, hy, hs, hk, hw6, -, -, -⟩ := h
  have k1 : c 1 ≤ 60 := (q1.1 1 (by decide)).2
  have ht0 := ht
  unfold okTo at ht
  unfold F_X9_goFar
  simp (disch := omega) only [Option.bind_some, Option.map_some, Option.join, cI_r, cL_r, cV_r, xI_r, xL_r, xV_r, xI_t, xL_t, xV_t, lt_r, rtZ_0, rtZ_1, rtZ_zb, m2, pk_mul, nI_1, dv2, gf40_3, o48]
  have el : (1 : Int64) <<< ((nI (2 * N + 1)).toInt64 &&& 63) - 1 = lnF N := rfl
  rw [el]
  generalize ev : lnF N &&& -((1 : Int64) <<< ((nI ((N + 1) / 2)).toInt64 &&& 63)) = v
  have hv : ∀ l, b64 v l ↔ (N + 1) / 2 ≤ l ∧ l ≤ 2 * N := fun l => by
    rw [← ev, b64_and]
    constructor
    · rintro ⟨g1, g2⟩
      have hl := b64_lt g1
      have g3 := (bs_m1 (by omega) hl).mp g1
      have g4 := (bs_ng (m := (N + 1) / 2) (by omega) hl).mp g2
      omega
    · rintro ⟨g1, g2⟩
      exact ⟨(bs_m1 (by omega) (by omega)).mpr (by omega), (bs_ng (m := (N + 1) / 2) (by omega) (by omega)).mpr g1⟩
  obtain ⟨a, b, t, u, I1, L1, Q1, d1, d2, d3, d4⟩ := c_beginW (E := E) (w := w) (st := 0) (en := n) (lens := lnF N) hG k1 hm hs hf.1 hf.2.1 hf.2.2.1 (by omega) (fun i _ hi => hf.2.2.2.2 i hi) (to + 1)
  have d1' := Wk_c (Z' := Z0 (frX I fr n)) (fun s l => ⟨fun z => ⟨⟨z.1.1, by obtain ⟨i, _, g2, g3⟩ := z.1.2; exact ⟨i, g2, g3⟩⟩, z.2⟩, fun z => ⟨⟨z.1.1, by obtain ⟨i, g2, g3⟩ := z.1.2; exact ⟨i, by omega, g2, g3⟩⟩, z.2⟩⟩) d1
  rw [show (0 : Int32) = nI 0 from rfl, d4, cV_r]
  have el1 : L1 (to + 1) = L (to + 1) := d3 _ (by omega) (by omega) (by omega)
  generalize hXX : frX I fr n = X at *
  have key : ∀ i q, (∃ l, ZI T c y (lnF N) (Z0 X) (i + 1) q l ∧ b64 v l) ↔ (∃ l, ZI T c y (lnF N) (Z0 X) (i + 1) q l ∧ (N + 1) / 2 ≤ l ∧ l ≤ 2 * N) := fun i q => exists_congr fun l => by rw [hv l]
  refine lpE (σ := (Nat → Nat → Int32) × (Nat → Nat → Int64) × (Nat → Nat → Option Nat)) (Lp := fun g i z => L_X9_goFar_39 E (rr w 40) (rr w to) v g (nI i) (Hw E w z.1 z.2.1 z.2.2)) (Iv := fun i z => (∃ a' b' t' u' n' st' en', Wk w T c y fr nf (lnF N) z.1 z.2.1 z.2.2 (ZI T c y (lnF N) (Z0 X) i) a' b' t' u' n' st' en') ∧ LdF I z.1 L z.2.1 Q z.2.2 (to + 1) ∧ ∀ q, q < 256 → (bq (z.2.1 (to + 1)) q ↔ bq (L (to + 1)) q ∨ ∃ i', i' < i ∧ ∃ l, ZI T c y (lnF N) (Z0 X) (i' + 1) q l ∧ (N + 1) / 2 ≤ l ∧ l ≤ 2 * N)) (Post := LdP E w T c y I L Q to (wFar T c y p N X)) (N := p) ?_ ?_ E.2.2.1 0 (I1, L1, Q1) (by omega) (by omega) ⟨⟨a, b, t, u, 0, 0, n, d1'⟩, d2, fun q hq => by
    show bq (L1 (to + 1)) q ↔ _
    rw [el1]; exact ⟨Or.inl, fun z => z.elim id (fun ⟨i, z, _⟩ => absurd z (by omega))⟩⟩
  · rintro g i ⟨I2, L2, Q2⟩ hi ⟨⟨a', b', t', u', n', st', en', z1⟩, z2, z3⟩
    dsimp only at *
    have q2' : LandR I2 T c := LandR_c (fun j hj => z2.1 j (by omega) (by omega) (by omega) (by omega)) q2
    obtain ⟨I3, L3, Q3, n3, e1, e2, e3, e4, e5, e6⟩ := c_goW (E := E) (w := w) hG q1 q2' hy hf.1 hf.2.1 z1 (to + 1)
    have pk : I2 21 k = nI p := by rw [z2.1 21 (by decide) (by decide) (by decide) (by decide)]; exact p1
    have wk : I2 40 6 = nI k := by rw [z2.1 40 (by decide) (by decide) (by decide) (by decide)]; exact hw6
    have el3 : L3 (to + 1) = L2 (to + 1) := e5 _ (by omega) (by omega) (by omega)
    have st0 : L_X9_goFar_39 E (rr w 40) (rr w to) v (g + 1) (nI i) (Hw E w I2 L2 Q2) = if zb (0 < n3) = 0 then rtV (Hw E w I3 L3 Q3) else L_X9_goFar_69 E (fun h4 => L_X9_goFar_39 E (rr w 40) (rr w to) v g (nI (i + 1)) h4) (rr w 40) (rr w to) v E.2.2.1 0 (Hw E w I3 L3 Q3) := by
      rw [L_X9_goFar_39]
      simp (disch := omega) only [Option.bind_some, Option.map_some, Option.join, cI_r, cL_r, cV_r, xI_r, xL_r, xV_r, xI_t, xL_t, xV_t, lt_r, rtZ_0, rtZ_1, rtZ_zb, gf40_1, gf15_7, gf40_6, wk, ga21, ix_n, pk, nI_leI, if_neg, gf40_3, o48, e6, nI_1]
    by_cases pn : 0 < n3
    · left
      obtain ⟨L4, g3, g4, g5⟩ := c_far69 (E := E) (w := w) (v := v) (to := to) hG k1 so ht0 e1
      refine ⟨(I3, L4, Q3), ⟨⟨b', a', u', t', n3, st', 0, Wk_to ht0 g3 e1⟩, (z2.tr e4).tr ⟨fun _ _ _ _ _ => rfl, fun k a1 a2 a3 a4 a5 => g3 k a5, fun _ _ => rfl⟩, fun q hq => ?_⟩, ?_⟩
      · show bq (L4 (to + 1)) q ↔ _
        rw [g4 q hq, el3, z3 q hq, or_assoc]
        refine or_congr_right ⟨?_, ?_⟩
        · rintro (⟨i', a1, a2⟩ | a1)
          · exact ⟨i', by omega, a2⟩
          · exact ⟨i, by omega, (key i q).mp a1⟩
        · rintro ⟨i', a1, a2⟩
          by_cases e : i' = i
          · subst e; exact Or.inr ((key i' q).mpr a2)
          · exact Or.inl ⟨i', by omega, a2⟩
      · show L_X9_goFar_39 E (rr w 40) (rr w to) v (g + 1) (nI i) (Hw E w I2 L2 Q2) = _
        rw [st0, zi_t pn, g5]
    · right
      have em : ∀ s l, ¬ ZI T c y (lnF N) (Z0 X) (i + 1) s l := fun s l z => pn (e3.mpr ⟨s, l, z⟩)
      refine ⟨I3, L3, Q3, z2.tr e4, e1.2.2.2.2.2.2.2.2.1, Cur.st (B := 2 * c 1) (by omega) e1.1, fun q hq => ?_, ?_⟩
      · rw [el3, z3 q hq]
        refine or_congr_right ⟨fun ⟨i', a1, a2⟩ => ⟨i', by omega, a2⟩, fun ⟨i', a1, a2⟩ => ?_⟩
        by_cases e : i' < i
        · exact ⟨i', e, a2⟩
        · obtain ⟨l, z, _⟩ := a2
          exact absurd z (ZI_e em (by omega) q l)
      · show L_X9_goFar_39 E (rr w 40) (rr w to) v (g + 1) (nI i) (Hw E w I2 L2 Q2) = _
        rw [st0, zi_f pn]
  · rintro g ⟨I2, L2, Q2⟩ ⟨⟨a', b', t', u', n', st', en', z1⟩, z2, z3⟩
    dsimp only at *
    have pk : I2 21 k = nI p := by rw [z2.1 21 (by decide) (by decide) (by decide) (by decide)]; exact p1
    have wk : I2 40 6 = nI k := by rw [z2.1 40 (by decide) (by decide) (by decide) (by decide)]; exact hw6
    refine ⟨I2, L2, Q2, z2, z1.2.2.2.2.2.2.2.2.1, Cur.st (B := 2 * c 1) (by omega) z1.1, z3, ?_⟩
    show L_X9_goFar_39 E (rr w 40) (rr w to) v (g + 1) (nI p) (Hw E w I2 L2 Q2) = _
    rw [L_X9_goFar_39]
    simp (disch := omega) only [Option.bind_some, Option.map_some, Option.join, cI_r, cL_r, cV_r, xI_r, xL_r, xV_r, xI_t, xL_t, xV_t, lt_r, rtZ_0, rtZ_1, rtZ_zb, gf40_1, gf15_7, gf40_6, wk, ga21, ix_n, pk, nI_leI, if_pos]
theorem zb_or {p q : Prop} : zb p ||| zb q = zb (p ∨ q) := by
  by_cases h1 : p
  · rw [zb_t h1, zb_t (Or.inl h1)]
    by_cases h2 : q
    · rw [zb_t h2]; rfl
    · rw [zb_f h2]; rfl
  · rw [zb_f h1]
    by_cases h2 : q
    · rw [zb_t h2, zb_t (Or.inr h2)]; rfl
    · rw [zb_f h2, zb_f (fun z => z.elim h1 h2)]; rfl
theorem c_ahead55 {fr nf n st : Nat} {v : Int64} {p0 : Prop} {Z : Nat → Prop} (hG : 100000 ≤ E.2.2.1) (q1 : WfT T c) (q2 : LandR I T c) (h : Wk w T c y fr nf 0 I L Q (fun s l => Z s ∧ l = 0) a b t u n st 0) (hl : Lst (2 * c 1) (I a) (L t) n) (K : Int32 → Hp → Rs) : L_X9_stayAheadOf_55 E K (rr w 40) v E.2.2.1 (zb p0) 0 (Hw E w I L Q) = K (zb (p0 ∨ ∃ q, Z q ∧ inP T v q)) (Hw E w I L Q) := by
  have k0 : c 0 ≤ 40 := (q1.1 0 (by decide)).2
  have k1 : c 1 ≤ 60 := (q1.1 1 (by decide)).2
  have lz := fun j hj => Lst_Z h hl k1 j hj
  obtain ⟨w1, w2, w3, w4, w5, w6, w7, w8, w9, w10⟩ := h
  obtain ⟨hA, C2, C3, C4, C5, C6, C7, C8, C9⟩ := w1
  have gg := hA.g (E := E) (w := w) (I := I) (L := L)
  have ia := (hA.ia (w := w)).1
  refine lpI (σ := Int32) (Lp := fun g i s => L_X9_stayAheadOf_55 E K (rr w 40) v g s (nI i) (Hw E w I L Q)) (Inv := fun i s => s = zb (p0 ∨ ∃ i' x, i' < i ∧ I a i' = nI x ∧ x < 2 * c 1 ∧ inP T v (2 * x))) (N := n) ?_ ?_ E.2.2.1 0 (zb p0) (by omega) (by omega) (zb_c ⟨Or.inl, fun z => z.elim id (fun ⟨i, x, z, _⟩ => absurd z (by omega))⟩)
  · intro g i s hi es
    subst es
    obtain ⟨x, ex, hx⟩ := C6 i hi
    obtain ⟨p, ep, hp', e7⟩ := spl_n (I := I) q1 q2 (show 2 * x < 4 * c 1 by omega)
    refine ⟨_, rfl, ?_⟩
    show L_X9_stayAheadOf_55 E K (rr w 40) v (g + 1) (zb (p0 ∨ ∃ i' x, i' < i ∧ I a i' = nI x ∧ x < 2 * c 1 ∧ inP T v (2 * x))) (nI i) (Hw E w I L Q) = L_X9_stayAheadOf_55 E K (rr w 40) v g (zb (p0 ∨ ∃ i' x, i' < i + 1 ∧ I a i' = nI x ∧ x < 2 * c 1 ∧ inP T v (2 * x))) (nI (i + 1)) (Hw E w I L Q)
    rw [L_X9_stayAheadOf_55, gf40_3, Option.bind_some, gf48_1, Option.bind_some, C3, if_neg (nI_ge hi (by omega))]
    simp (disch := omega) only [Option.bind_some, Option.map_some, Option.join, cI_r, cL_r, cV_r, xI_r, xL_r, xV_r, xI_t, xL_t, xV_t, lt_r, rtZ_0, rtZ_1, rtZ_zb, gf40_0, gf32_0, gf0_8, gf40_3, gg.1, ia.ga, ix_n, ex, m2, pk_mul, ga7, e7, f_isInP (s := 2 * x) (show p < 64 by omega) ep, zb_or, nI_1]
    congr 1
    apply zb_c
    rw [or_assoc]
    refine or_congr_right ⟨?_, ?_⟩
    · rintro (⟨i', x', g1, g2⟩ | g)
      · exact ⟨i', x', by omega, g2⟩
      · exact ⟨i, x, by omega, ex, hx, g⟩
    · rintro ⟨i', x', g1, g2, g3, g4⟩
      by_cases e : i' = i
      · have : x' = x := (nI_eq (by omega) (by omega)).mp (by rw [← g2, e, ex])
        subst this; exact Or.inr g4
      · exact Or.inl ⟨i', x', by omega, g2, g3, g4⟩
  · intro g s es
    subst es
    show L_X9_stayAheadOf_55 E K (rr w 40) v (g + 1) _ (nI n) (Hw E w I L Q) = _
    rw [L_X9_stayAheadOf_55, gf40_3, Option.bind_some, gf48_1, Option.bind_some, C3, if_pos (nI_le (Nat.le_refl n) (by omega))]
    congr 1
    apply zb_c
    refine or_congr_right ⟨?_, ?_⟩
    · rintro ⟨i', x, g1, g2, g3, g4⟩
      obtain ⟨l, z⟩ := (lz x (by omega)).mp ⟨i', g1, g2⟩
      exact ⟨2 * x, z.1, g4⟩
    · rintro ⟨q, g1, g2⟩
      rcases (w10 q 0).mpr ⟨g1, rfl⟩ with ⟨i, z1, z2, _⟩ | ⟨x, z1, z2, z3⟩
      · omega
      · obtain ⟨i, h1, h2⟩ := C8 x z1 (fun e => by rw [e] at z3; exact b64_0 z3)
        obtain ⟨j, h3, h4⟩ := C6 i h1
        have : j = x := (nI_eq (by omega) (by omega)).mp (by rw [← h3, h2])
        subst this
        exact ⟨i, j, h1, h2, h4, by rw [← z2]; exact g2⟩
/-- over: by ON, 1 to 3 times, one comes to where it stands -/
def ovr (T : Ro) (c : Nat → Nat) (y : Nat) (P : Nat → Prop) (m s : Nat) : Prop := ∃ j, j < m ∧ ∃ q, onN T c y (fun s' => s' = s) (j + 1) q ∧ P q
theorem c_ahead31 {fr nf n st en s : Nat} {v : Int64} (to : Nat) (hG : 100000 ≤ E.2.2.1) (q1 : WfT T c) (q2 : LandR I T c) (hy : y ≤ 200) (hf : IA w fr nf) (hfn : fr ≠ 38 ∧ fr ≠ 48 ∧ fr ≠ 49 ∧ fr ≠ 51) (hs : s < 4 * c 1) (h : Wk w T c y fr nf 0 I L Q (fun s' l => s' = s ∧ l = 0) a b t u n st en) : ∃ I' L' Q' a' b' t' u' n' st' en' Z', Wk w T c y fr nf 0 I' L' Q' Z' a' b' t' u' n' st' en' ∧ LdF I I' L L' Q Q' to ∧ (∀ k, k ≠ 39 → k ≠ 50 → k ≠ 52 → L' k = L k) ∧ ∀ K, L_X9_stayAheadOf_31 E K (rr w 40) v E.2.2.1 0 0 (Hw E w I L Q) = K (zb (ovr T c y (inP T v) 3 s)) (Hw E w I' L' Q') := by
  have k1 : c 1 ≤ 60 := (q1.1 1 (by decide)).2
  have hX : ∀ s', s' = s → s' < 4 * c 1 := fun s' e => e ▸ hs
  have e0 : zb (ovr T c y (inP T v) 0 s) = 0 := zb_f (fun ⟨j, h, _⟩ => absurd h (by omega))
  suffices hh : ∃ I' L' Q' a' b' t' u' n' st' en' Z', Wk w T c y fr nf 0 I' L' Q' Z' a' b' t' u' n' st' en' ∧ LdF I I' L L' Q Q' to ∧ (∀ k, k ≠ 39 → k ≠ 50 → k ≠ 52 → L' k = L k) ∧ ∀ K, L_X9_stayAheadOf_31 E K (rr w 40) v E.2.2.1 (zb (ovr T c y (inP T v) 0 s)) (nI 0) (Hw E w I L Q) = K (zb (ovr T c y (inP T v) 3 s)) (Hw E w I' L' Q') by
    rw [e0] at hh; exact hh
  refine lpE (ρ := (Int32 → Hp → Rs) → Rs) (σ := (Nat → Nat → Int32) × (Nat → Nat → Int64) × (Nat → Nat → Option Nat)) (Lp := fun g i z => fun K => L_X9_stayAheadOf_31 E K (rr w 40) v g (zb (ovr T c y (inP T v) i s)) (nI i) (Hw E w z.1 z.2.1 z.2.2)) (Iv := fun i z => (∃ a' b' t' u' n' st' en', Wk w T c y fr nf 0 z.1 z.2.1 z.2.2 (fun s' l => onN T c y (fun s' => s' = s) i s' ∧ l = 0) a' b' t' u' n' st' en') ∧ LdF I z.1 L z.2.1 Q z.2.2 to ∧ (∀ k, k ≠ 39 → k ≠ 50 → k ≠ 52 → z.2.1 k = L k)) (Post := fun r => ∃ I' L' Q' a' b' t' u' n' st' en' Z', Wk w T c y fr nf 0 I' L' Q' Z' a' b' t' u' n' st' en' ∧ LdF I I' L L' Q Q' to ∧ (∀ k, k ≠ 39 → k ≠ 50 → k ≠ 52 → L' k = L k) ∧ ∀ K, r K = K (zb (ovr T c y (inP T v) 3 s)) (Hw E w I' L' Q')) (N := 3) ?_ ?_ E.2.2.1 0 (I, L, Q) (by omega) (by omega) ⟨⟨a, b, t, u, n, st, en, h⟩, LdF.rf, fun _ _ _ _ => rfl⟩
  · rintro g i ⟨I1, L1, Q1⟩ hi ⟨⟨a1, b1, t1, u1, n1, st1, en1, z1⟩, z3, z4⟩
    dsimp only at *
    by_cases po : ovr T c y (inP T v) i s
    · right
      refine ⟨I1, L1, Q1, a1, b1, t1, u1, n1, st1, en1, _, z1, z3, z4, fun K => ?_⟩
      show L_X9_stayAheadOf_31 E K (rr w 40) v (g + 1) (zb (ovr T c y (inP T v) i s)) (nI i) (Hw E w I1 L1 Q1) = _
      have po3 : ovr T c y (inP T v) 3 s := by obtain ⟨j, h1, h2⟩ := po; exact ⟨j, by omega, h2⟩
      rw [L_X9_stayAheadOf_31, if_neg (show ¬ (3 : Int32) ≤ nI i from nI_ge (b := 3) hi (by decide)), zn_t po, zb_t po, zb_t po3]
    · have q2' : LandR I1 T c := LandR_c (fun j hj => z3.1 j (by omega) (by omega) (by omega) (by omega)) q2
      obtain ⟨I2, L2, Q2, n2, d1, d2, d3, d4, d5, d6⟩ := c_goW (E := E) (w := w) hG q1 q2' hy hf hfn z1 to
      have d1' := Wk_c (fun s l => nxZ_0 k1 hX) d1
      have st0 : ∀ K, L_X9_stayAheadOf_31 E K (rr w 40) v (g + 1) (zb (ovr T c y (inP T v) i s)) (nI i) (Hw E w I1 L1 Q1) = if zb (0 < n2) = 0 then K (zb (ovr T c y (inP T v) i s)) (Hw E w I2 L2 Q2) else L_X9_stayAheadOf_55 E (fun w1 h3 => L_X9_stayAheadOf_31 E K (rr w 40) v g w1 (nI (i + 1)) h3) (rr w 40) v E.2.2.1 (zb (ovr T c y (inP T v) i s)) 0 (Hw E w I2 L2 Q2) := fun K => by
        rw [L_X9_stayAheadOf_31, if_neg (show ¬ (3 : Int32) ≤ nI i from nI_ge (b := 3) hi (by decide)), zn_f po, gf40_3, Option.bind_some, o48, Option.bind_some, d6, cI_r, nI_1]
      by_cases p : 0 < n2
      · left
        refine ⟨(I2, L2, Q2), ⟨⟨b1, a1, u1, t1, n2, st1, 0, d1'⟩, z3.tr d4, fun k g1 g2 g3 => (d5 k g1 g2 g3).trans (z4 k g1 g2 g3)⟩, ?_⟩
        funext K
        show L_X9_stayAheadOf_31 E K (rr w 40) v (g + 1) (zb (ovr T c y (inP T v) i s)) (nI i) (Hw E w I1 L1 Q1) = L_X9_stayAheadOf_31 E K (rr w 40) v g (zb (ovr T c y (inP T v) (i + 1) s)) (nI (i + 1)) (Hw E w I2 L2 Q2)
        rw [st0, zi_t p, c_ahead55 hG q1 (LandR_c (fun j hj => d4.1 j (by omega) (by omega) (by omega) (by omega)) q2') d1' d2]
        congr 1
        apply zb_c
        constructor
        · rintro (⟨j, h1, h2⟩ | ⟨q, h1, h2⟩)
          · exact ⟨j, by omega, h2⟩
          · exact ⟨i, by omega, q, h1, h2⟩
        · rintro ⟨j, h1, q, h2, h3⟩
          by_cases e : j = i
          · subst e; exact Or.inr ⟨q, h2, h3⟩
          · exact Or.inl ⟨j, by omega, q, h2, h3⟩
      · right
        have em : ∀ s', ¬ onN T c y (fun s' => s' = s) (i + 1) s' := fun s' h => p (d3.mpr ⟨s', 0, (nxZ_0 k1 hX).mpr ⟨h, rfl⟩⟩)
        have po3 : ¬ ovr T c y (inP T v) 3 s := fun ⟨j, h1, q, h2, h3⟩ => by
          by_cases e : j < i
          · exact po ⟨j, e, q, h2, h3⟩
          · exact onN_e em (show i + 1 ≤ j + 1 by omega) q h2
        refine ⟨I2, L2, Q2, b1, a1, u1, t1, n2, st1, 0, _, d1', z3.tr d4, fun k g1 g2 g3 => (d5 k g1 g2 g3).trans (z4 k g1 g2 g3), fun K => ?_⟩
        show L_X9_stayAheadOf_31 E K (rr w 40) v (g + 1) (zb (ovr T c y (inP T v) i s)) (nI i) (Hw E w I1 L1 Q1) = _
        rw [st0, zi_f p, zb_f po, zb_f po3]
  · rintro g ⟨I1, L1, Q1⟩ ⟨⟨a1, b1, t1, u1, n1, st1, en1, z1⟩, z3, z4⟩
    dsimp only at *
    refine ⟨I1, L1, Q1, a1, b1, t1, u1, n1, st1, en1, _, z1, z3, z4, fun K => ?_⟩
    show L_X9_stayAheadOf_31 E K (rr w 40) v (g + 1) (zb (ovr T c y (inP T v) 3 s)) (nI 3) (Hw E w I1 L1 Q1) = _
    rw [L_X9_stayAheadOf_31, if_pos (show (3 : Int32) ≤ nI 3 from nI_le (Nat.le_refl 3) (by decide))]
theorem c_over {k to fr nf n : Nat} {v : Int64} (hG : 100000 ≤ E.2.2.1) (h : WC I L Q T c y k) (so : SO w to) (ht : okTo to) (hf : Frm w I c fr nf n) : LdP E w T c y I L Q to (fun q => frX I fr n q ∧ ovr T c y (inP T v) 3 q) (F_X9_stayAheadOf E (rr w 40) v (rr w fr) (nI n) (rr w to) (Hw E w I L Q)) := by
  obtain ⟨q1, q2, hm, hy, hs, hk, hw6, -, -, -⟩ := h
  have k1 : c 1 ≤ 60 := (q1.1 1 (by decide)).2
  have hfn := hf.1.2.2
  have hn := hf.2.2.1
  have hn4 := hf.2.2.2.1
  unfold okTo at ht
  unfold F_X9_stayAheadOf
  refine lpK2 (σ := (Nat → Nat → Int32) × (Nat → Nat → Int64) × (Nat → Nat → Option Nat)) (Lp := fun g i z => L_X9_stayAheadOf_3 E (rr w 40) v (rr w fr) (nI n) (rr w to) g (nI i) (Hw E w z.1 z.2.1 z.2.2)) (K := fun z => rtV (Hw E w z.1 z.2.1 z.2.2)) (Iv := fun i z => LdF I z.1 L z.2.1 Q z.2.2 (to + 1) ∧ MapY z.1 z.2.1 T c y ∧ StepsR z.1 z.2.1 z.2.2 ∧ ∀ q, q < 256 → (bq (z.2.1 (to + 1)) q ↔ bq (L (to + 1)) q ∨ (frX I fr i q ∧ ovr T c y (inP T v) 3 q))) (N := n) (g := E.2.2.1) (i := 0) (s := (I, L, Q)) ?_ ?_ ?_ (by omega) (by omega) ⟨LdF.rf, hm, hs, fun q hq => ⟨Or.inl, fun z => z.elim id (fun ⟨⟨_, i, z, _⟩, _⟩ => absurd z (by omega))⟩⟩
  · rintro ⟨I', L', Q'⟩ ⟨z1, z2, z3, z4⟩ ee
    exact ⟨I', L', Q', z1, z2, z3, z4, ee⟩
  · rintro g i ⟨I1, L1, Q1⟩ hi ⟨z1, z2, z3, z4⟩
    dsimp only at *
    have fe := hf.mv z1
    obtain ⟨s, es, hs4⟩ := hf.2.2.2.2 i hi
    have q2' : LandR I1 T c := LandR_c (fun j hj => z1.1 j (by omega) (by omega) (by omega) (by omega)) q2
    obtain ⟨a, b, t, u, I2, L2, Q2, d1, d2, d3, d4⟩ := c_beginW (E := E) (w := w) (st := i) (en := i + 1) (lens := 0) hG k1 z2 z3 hf.1 hf.2.1 (by omega) (by omega) (fun j h1 h2 => fe.1.2.2.2.2 j (by omega)) (to + 1)
    have d1' := Wk_c (Z' := fun s' l => s' = s ∧ l = 0) (fun s' l => ⟨fun z => ⟨by
      obtain ⟨hz, j, g1, g2, g3⟩ := z.1
      rw [show j = i by omega, fe.2, es] at g3
      exact ((nI_eq (by omega) (by omega)).mp g3).symm, z.2⟩, fun z => ⟨⟨by omega, i, by omega, by omega, by rw [fe.2, es, z.1]⟩, z.2⟩⟩) d1
    have q2'' : LandR I2 T c := LandR_c (fun j hj => d2.1 j (by omega) (by omega) (by omega) (by omega)) q2'
    obtain ⟨I3, L3, Q3, a3, b3, t3, u3, n3, st3, en3, Z3, e1, e2, e3, e4⟩ := c_ahead31 (E := E) (w := w) (v := v) (to + 1) hG q1 q2'' hy hf.1 hf.2.1 hs4 d1'
    have f3 : LdF I I3 L L3 Q Q3 (to + 1) := (z1.tr d2).tr e2
    have ef3 : I3 fr i = nI s := by rw [(hf.mv f3).2]; exact es
    have el : L3 (to + 1) = L1 (to + 1) := by rw [e3 _ (by omega) (by omega) (by omega), d3 _ (by omega) (by omega) (by omega)]
    have my : MapY I3 L3 T c y := e1.2.2.2.2.2.2.2.2.1
    have sr : StepsR I3 L3 Q3 := Cur.st (B := 2 * c 1) (by omega) e1.1
    have grow : ∀ q, q < 256 → ((frX I fr (i + 1) q ∧ ovr T c y (inP T v) 3 q) ↔ (frX I fr i q ∧ ovr T c y (inP T v) 3 q) ∨ (q = s ∧ ovr T c y (inP T v) 3 s)) := fun q hq => by
      constructor
      · rintro ⟨⟨g1, i', g2, g3⟩, g4⟩
        by_cases e : i' = i
        · have : q = s := (nI_eq (by omega) (by omega)).mp (by rw [← g3, e, es])
          subst this; exact Or.inr ⟨rfl, g4⟩
        · exact Or.inl ⟨⟨g1, i', by omega, g3⟩, g4⟩
      · rintro (⟨⟨g1, i', g2, g3⟩, g4⟩ | ⟨rfl, g4⟩)
        · exact ⟨⟨g1, i', by omega, g3⟩, g4⟩
        · exact ⟨⟨by omega, i, by omega, es⟩, g4⟩
    have st0 : L_X9_stayAheadOf_3 E (rr w 40) v (rr w fr) (nI n) (rr w to) (g + 1) (nI i) (Hw E w I1 L1 Q1) = if zb (ovr T c y (inP T v) 3 s) = 0 then L_X9_stayAheadOf_3 E (rr w 40) v (rr w fr) (nI n) (rr w to) g (nI (i + 1)) (Hw E w I3 L3 Q3) else L_X9_stayAheadOf_3 E (rr w 40) v (rr w fr) (nI n) (rr w to) g (nI (i + 1)) (Hw E w I3 (adS L3 (to + 1) s) Q3) := by
      rw [L_X9_stayAheadOf_3, if_neg (nI_ge hi (by omega)), gf40_3, Option.bind_some, o48, Option.bind_some, nI_1, d4, cV_r, e4]
      unfold J_X9_stayAheadOf_111
      simp (disch := omega) only [Option.bind_some, Option.map_some, Option.join, cI_r, cL_r, cV_r, xI_r, xL_r, xV_r, xI_t, xL_t, xV_t, lt_r, rtZ_0, rtZ_1, rtZ_zb, hf.1.ga, ix_n, ef3, so.o, c_add so, nI_1]
    by_cases p : ovr T c y (inP T v) 3 s
    · refine ⟨(I3, adS L3 (to + 1) s, Q3), ⟨⟨f3.1, fun k g1 g2 g3 g4 g5 => (adS_row g5).trans (f3.2.1 k g1 g2 g3 g4 g5), f3.2.2⟩, ⟨MapR_c rfl rfl (fun k g1 g2 => adS_row (by omega)) my.1, my.2⟩, StepsR_c rfl rfl rfl (adS_row (by omega)) (adS_row (by omega)) sr, fun q hq => ?_⟩, ?_⟩
      · show bq (adS L3 (to + 1) s (to + 1)) q ↔ _
        rw [adS_b (by omega) hq, el, z4 q hq, grow q hq, or_assoc]
        exact or_congr_right (or_congr_right ⟨fun e => ⟨e, p⟩, fun e => e.1⟩)
      · show L_X9_stayAheadOf_3 E (rr w 40) v (rr w fr) (nI n) (rr w to) (g + 1) (nI i) (Hw E w I1 L1 Q1) = _
        rw [st0, zi_t p]
    · refine ⟨(I3, L3, Q3), ⟨f3, my, sr, fun q hq => ?_⟩, ?_⟩
      · show bq (L3 (to + 1)) q ↔ _
        rw [el, z4 q hq, grow q hq]
        exact or_congr_right ⟨Or.inl, fun z => z.elim id (fun z => absurd z.2 p)⟩
      · show L_X9_stayAheadOf_3 E (rr w 40) v (rr w fr) (nI n) (rr w to) (g + 1) (nI i) (Hw E w I1 L1 Q1) = _
        rw [st0, zi_f p]
  · rintro g ⟨I1, L1, Q1⟩ _
    show L_X9_stayAheadOf_3 E (rr w 40) v (rr w fr) (nI n) (rr w to) (g + 1) (nI n) (Hw E w I1 L1 Q1) = _
    rw [L_X9_stayAheadOf_3, if_pos (nI_le (Nat.le_refl n) (by omega))]
end
