/-! the reference: where names stand, are seen; ON of a set -/
section
variable {E : Ev} {w : Wo} {I : Nat → Nat → Int32} {L : Nat → Nat → Int64} {Q : Nat → Nat → Option Nat} {c : Nat → Nat} {y : Nat}
theorem isMk_st {T : Ro} {m p : Nat} {ks : Int32} (q1 : WfT T c) : (∃ m, m < c 2 ∧ T (450 + 5 * m) = nI p ∧ isMk T m ks (nI y)) ↔ stdK T c y ks p := by
  constructor
  · rintro ⟨m, h1, h2, h3, h4⟩
    obtain ⟨kd, ek, hk⟩ := (q1.2.2.2.1 m h1).2.1
    have tk : tn (T (451 + 5 * m)) = kd := by rw [ek]; exact nI_clamp (by omega)
    rw [tk] at h3
    exact ⟨m, kd, hk, ⟨h1, h2, ek, h4⟩, h3⟩
  · rintro ⟨m, kd, hk, ⟨h1, h2, ek, h4⟩, h3⟩
    have tk : tn (T (451 + 5 * m)) = kd := by rw [ek]; exact nI_clamp (by omega)
    exact ⟨m, h1, h2, by rw [tk]; exact h3, h4⟩
theorem m_standsAt {k n p : Nat} (hG : 100000 ≤ E.2.2.1) (q1 : WfT (I 137) c) (hk : k < c 4) (hn : n < 12) : F_X12_standsAt E (rr w 163) (nI k) (nI n) (nI p) (nI y) (Hw E w I L Q) = rtI (zb (stdA (I 137) c y k n p)) (Hw E w I L Q) := by
  have k2 : c 2 ≤ 40 := (q1.1 2 (by decide)).2
  have e2 := (q1.1 2 (by decide)).1
  unfold F_X12_standsAt
  rw [o163, Option.bind_some, f_kindsOfM q1 hk hn, cI_r]
  generalize hks : knd (I 137) k n = ks
  have st : ∀ g i, i < c 2 → L_X12_standsAt_11 E (rr w 163) (nI p) (nI y) ks (g + 1) (nI i) (Hw E w I L Q) = if ¬ I 137 (450 + 5 * i) = nI p then L_X12_standsAt_11 E (rr w 163) (nI p) (nI y) ks g (nI i + 1) (Hw E w I L Q) else if zb (isMk (I 137) i ks (nI y)) = 0 then L_X12_standsAt_11 E (rr w 163) (nI p) (nI y) ks g (nI i + 1) (Hw E w I L Q) else rtI 1 (Hw E w I L Q) := fun g i hi => by
    rw [L_X12_standsAt_11]
    simp (disch := omega) only [Option.bind_some, Option.map_some, Option.join, cI_r, cL_r, cV_r, xI_r, xL_r, xV_r, xI_t, xL_t, xV_t, lt_r, rtZ_0, rtZ_1, rtZ_zb, m450, m5, pk_mul, nI_add, gf163_0, ga137, ix_n, show ix 2 2988 = some 2 from rfl, e2, nI_leI, if_neg, o163, f_isMark q1 hi]
  refine srch (Lp := fun g i => L_X12_standsAt_11 E (rr w 163) (nI p) (nI y) ks g i (Hw E w I L Q)) (N := c 2) (c := fun m => I 137 (450 + 5 * m) = nI p ∧ isMk (I 137) m ks (nI y)) (R := fun _ => rtI 1 (Hw E w I L Q)) (Z := rtI 0 (Hw E w I L Q)) ?_ ?_ ?_ ?_ ?_ _ (by omega)
  · intro g i hi _ hc
    rw [st g i hi, if_neg (not_not_intro hc.1), zi_t hc.2]
  · intro g i hi _ hc
    rw [st g i hi]
    by_cases c1 : I 137 (450 + 5 * i) = nI p
    · rw [if_neg (not_not_intro c1), zi_f (fun z => hc ⟨c1, z⟩)]
    · rw [if_pos c1]
  · intro g _
    rw [L_X12_standsAt_11]
    simp (disch := omega) only [Option.bind_some, Option.map_some, Option.join, cI_r, cL_r, cV_r, xI_r, xL_r, xV_r, xI_t, xL_t, xV_t, lt_r, rtZ_0, rtZ_1, rtZ_zb, gf163_0, ga137, show ix 2 2988 = some 2 from rfl, e2, nI_leI, if_pos]
  · intro i hi _ hc
    have z := (isMk_st (y := y) (m := 0) (ks := ks) q1).mp ⟨i, hi, hc⟩
    rw [zb_t (show stdA (I 137) c y k n p by unfold stdA; rw [hks]; exact z)]
  · intro hn'
    rw [zb_f (fun z => by unfold stdA at z; rw [hks] at z; obtain ⟨m, h1, h2⟩ := (isMk_st (y := y) (m := 0) q1).mpr z; exact hn' m h1 h2)]
theorem m_areJoined {a b : Nat} (hG : 100000 ≤ E.2.2.1) (q1 : WfT (I 137) c) : F_X12_areJoined E (rr w 163) (nI a) (nI b) (nI y) (Hw E w I L Q) = rtI (zb (jnP (I 137) c y b a)) (Hw E w I L Q) := by
  have k1 : c 1 ≤ 60 := (q1.1 1 (by decide)).2
  have e1 := (q1.1 1 (by decide)).1
  unfold F_X12_areJoined
  have w0 : ∀ v, v < 60 → F_X12_wayOf E (rr w 163) (nI v) 0 (Hw E w I L Q) = rtI (I 137 (90 + 6 * v)) (Hw E w I L Q) := fun v hv => f_wayOf (k := 0) hv (by decide)
  have w1 : ∀ v, v < 60 → F_X12_wayOf E (rr w 163) (nI v) 1 (Hw E w I L Q) = rtI (I 137 (91 + 6 * v)) (Hw E w I L Q) := fun v hv => by
    rw [show 91 + 6 * v = 90 + 6 * v + 1 by omega]; exact f_wayOf (k := 1) hv (by decide)
  have jn : jnP (I 137) c y b a ↔ ∃ v, v < c 1 ∧ (I 137 (94 + 6 * v) ≤ nI y ∧ nI y ≤ I 137 (95 + 6 * v)) ∧ samE (I 137) (nI a) (nI b) v := by
    constructor
    · rintro ⟨x, h1, h2, h3⟩
      refine ⟨x / 2, h1.1, h1.2, ?_⟩
      unfold ast at h2; unfold aen at h3; unfold samE
      by_cases p : x % 2 = 0
      · rw [if_pos p] at h2 h3; exact Or.inr ⟨h2, h3⟩
      · rw [if_neg p] at h2 h3; exact Or.inl ⟨h3, h2⟩
    · rintro ⟨v, h1, h2, h3⟩
      rcases h3 with ⟨h3, h4⟩ | ⟨h3, h4⟩
      · refine ⟨2 * v + 1, ?_, ?_, ?_⟩
        · rw [show (2 * v + 1) / 2 = v by omega]; exact ⟨h1, h2⟩
        · unfold ast; rw [if_neg (by omega), show (2 * v + 1) / 2 = v by omega]; exact h4
        · unfold aen; rw [if_neg (by omega), show (2 * v + 1) / 2 = v by omega]; exact h3
      · refine ⟨2 * v, ?_, ?_, ?_⟩
        · rw [show 2 * v / 2 = v by omega]; exact ⟨h1, h2⟩
        · unfold ast; rw [if_pos (by omega), show 2 * v / 2 = v by omega]; exact h3
        · unfold aen; rw [if_pos (by omega), show 2 * v / 2 = v by omega]; exact h4
  have st : ∀ g i, i < c 1 → L_X12_areJoined_3 E (rr w 163) (nI a) (nI b) (nI y) (g + 1) (nI i) (Hw E w I L Q) = if zb (I 137 (94 + 6 * i) ≤ nI y ∧ nI y ≤ I 137 (95 + 6 * i)) = 0 then L_X12_areJoined_3 E (rr w 163) (nI a) (nI b) (nI y) g (nI i + 1) (Hw E w I L Q) else if zb (samE (I 137) (nI a) (nI b) i) = 0 then L_X12_areJoined_3 E (rr w 163) (nI a) (nI b) (nI y) g (nI i + 1) (Hw E w I L Q) else rtI 1 (Hw E w I L Q) := fun g i hi => by
    rw [L_X12_areJoined_3]
    unfold J_X12_areJoined_46
    simp (disch := omega) only [Option.bind_some, Option.map_some, Option.join, cI_r, cL_r, cV_r, xI_r, xL_r, xV_r, xI_t, xL_t, xV_t, lt_r, rtZ_0, rtZ_1, rtZ_zb, gf163_0, ga137, show ix 1 2988 = some 1 from rfl, e1, nI_leI, if_neg, o163, f_isThereM, w0 i (by omega), w1 i (by omega)]
    by_cases p : I 137 (94 + 6 * i) ≤ nI y ∧ nI y ≤ I 137 (95 + 6 * i)
    · rw [zi_t p, zi_t p]
      by_cases c1 : I 137 (90 + 6 * i) = nI a
      · rw [if_neg (not_not_intro c1)]
        by_cases c2 : I 137 (91 + 6 * i) = nI b
        · rw [if_pos c2, zi_t (show samE (I 137) (nI a) (nI b) i from Or.inl ⟨c1, c2⟩)]
        · rw [if_neg c2]
          by_cases c3 : I 137 (90 + 6 * i) = nI b
          · rw [if_neg (not_not_intro c3)]
            by_cases c4 : I 137 (91 + 6 * i) = nI a
            · rw [if_neg (not_not_intro c4), zi_t (show samE (I 137) (nI a) (nI b) i from Or.inr ⟨c3, c4⟩)]
            · rw [if_pos c4, zi_f (fun z => z.elim (fun z => c2 z.2) (fun z => c4 z.2))]
          · rw [if_pos c3, zi_f (fun z => z.elim (fun z => c2 z.2) (fun z => c3 z.1))]
      · rw [if_pos c1]
        by_cases c3 : I 137 (90 + 6 * i) = nI b
        · rw [if_neg (not_not_intro c3)]
          by_cases c4 : I 137 (91 + 6 * i) = nI a
          · rw [if_neg (not_not_intro c4), zi_t (show samE (I 137) (nI a) (nI b) i from Or.inr ⟨c3, c4⟩)]
          · rw [if_pos c4, zi_f (fun z => z.elim (fun z => c1 z.1) (fun z => c4 z.2))]
        · rw [if_pos c3, zi_f (fun z => z.elim (fun z => c1 z.1) (fun z => c3 z.1))]
    · rw [zi_f p, zi_f p]
  refine srch (Lp := fun g i => L_X12_areJoined_3 E (rr w 163) (nI a) (nI b) (nI y) g i (Hw E w I L Q)) (N := c 1) (c := fun v => (I 137 (94 + 6 * v) ≤ nI y ∧ nI y ≤ I 137 (95 + 6 * v)) ∧ samE (I 137) (nI a) (nI b) v) (R := fun _ => rtI 1 (Hw E w I L Q)) (Z := rtI 0 (Hw E w I L Q)) ?_ ?_ ?_ ?_ ?_ _ (by omega)
  · intro g i hi _ hc
    rw [st g i hi, zi_t hc.1, zi_t hc.2]
  · intro g i hi _ hc
    rw [st g i hi]
    by_cases c1 : I 137 (94 + 6 * i) ≤ nI y ∧ nI y ≤ I 137 (95 + 6 * i)
    · rw [zi_t c1, zi_f (fun z => hc ⟨c1, z⟩)]
    · rw [zi_f c1]
  · intro g _
    rw [L_X12_areJoined_3]
    simp (disch := omega) only [Option.bind_some, Option.map_some, Option.join, cI_r, cL_r, cV_r, xI_r, xL_r, xV_r, xI_t, xL_t, xV_t, lt_r, rtZ_0, rtZ_1, rtZ_zb, gf163_0, ga137, show ix 1 2988 = some 1 from rfl, e1, nI_leI, if_pos]
  · intro i hi _ hc
    rw [zb_t (jn.mpr ⟨i, hi, hc⟩)]
  · intro hn'
    rw [zb_f (fun z => by obtain ⟨v, h1, h2⟩ := jn.mp z; exact hn' v h1 h2)]
theorem m_isSeenAt {k n p : Nat} (hG : 100000 ≤ E.2.2.1) (q1 : WfT (I 137) c) (hk : k < c 4) (hn : n < 12) : F_X12_isSeenAt E (rr w 163) (nI k) (nI n) (nI p) (nI y) (Hw E w I L Q) = rtI (zb (senK (I 137) c y (knd (I 137) k n) p)) (Hw E w I L Q) := by
  have k0 : c 0 ≤ 40 := (q1.1 0 (by decide)).2
  have k2 : c 2 ≤ 40 := (q1.1 2 (by decide)).2
  have e2 := (q1.1 2 (by decide)).1
  unfold F_X12_isSeenAt
  rw [o163, Option.bind_some, m_standsAt hG q1 hk hn, cI_r]
  by_cases ps : stdA (I 137) c y k n p
  · rw [zi_t ps, zb_t (show senK (I 137) c y (knd (I 137) k n) p from Or.inl ps)]; rfl
  · rw [zi_f ps, o163, Option.bind_some, f_kindsOfM q1 hk hn, cI_r]
    have ps' : ¬ stdK (I 137) c y (knd (I 137) k n) p := ps
    generalize hks : knd (I 137) k n = ks at *
    have pl : ∀ i, i < c 2 → ∃ q, I 137 (450 + 5 * i) = nI q ∧ q < c 0 := fun i hi => (q1.2.2.2.1 i hi).1
    have st : ∀ g i q, i < c 2 → I 137 (450 + 5 * i) = nI q → L_X12_isSeenAt_25 E (rr w 163) (nI p) (nI y) ks (g + 1) (nI i) (Hw E w I L Q) = if ¬ I 137 (452 + 5 * i) = 1 then L_X12_isSeenAt_25 E (rr w 163) (nI p) (nI y) ks g (nI i + 1) (Hw E w I L Q) else if zb (isMk (I 137) i ks (nI y)) = 0 then L_X12_isSeenAt_25 E (rr w 163) (nI p) (nI y) ks g (nI i + 1) (Hw E w I L Q) else if zb (jnP (I 137) c y p q) = 0 then L_X12_isSeenAt_25 E (rr w 163) (nI p) (nI y) ks g (nI i + 1) (Hw E w I L Q) else rtI 1 (Hw E w I L Q) := fun g i q hi eq => by
      rw [L_X12_isSeenAt_25]
      simp (disch := omega) only [Option.bind_some, Option.map_some, Option.join, cI_r, cL_r, cV_r, xI_r, xL_r, xV_r, xI_t, xL_t, xV_t, lt_r, rtZ_0, rtZ_1, rtZ_zb, m450, m5, pk_mul, nI_add, gf163_0, ga137, show ix 2 2988 = some 2 from rfl, e2, nI_leI, if_neg]
      rw [m2]
      simp (disch := omega) only [Option.bind_some, Option.map_some, Option.join, cI_r, cL_r, cV_r, xI_r, xL_r, xV_r, xI_t, xL_t, xV_t, lt_r, rtZ_0, rtZ_1, rtZ_zb, nI_add, ix_n, show 450 + 5 * i + 2 = 452 + 5 * i by omega, o163, f_isMark q1 hi, gf163_0, ga137, eq, m_areJoined hG q1]
    have key : senK (I 137) c y ks p ↔ ∃ m, m < c 2 ∧ I 137 (452 + 5 * m) = 1 ∧ isMk (I 137) m ks (nI y) ∧ ∃ q, I 137 (450 + 5 * m) = nI q ∧ q < c 0 ∧ jnP (I 137) c y p q := by
      constructor
      · rintro (z | ⟨q, hq, h1, m, kd, hk', ⟨⟨g1, g2, g3, g4⟩, g5⟩, g6⟩)
        · exact absurd z ps'
        · have tk : tn (I 137 (451 + 5 * m)) = kd := by rw [g3]; exact nI_clamp (by omega)
          obtain ⟨q', e1, e3⟩ := pl m g1
          have : q' = q := (nI_eq (by omega) (by omega)).mp (by rw [← e1, g2])
          exact ⟨m, g1, g5, ⟨by rw [tk]; exact g6, g4⟩, q, g2, by omega, h1⟩
      · rintro ⟨m, g1, g2, ⟨g3, g4⟩, q, g5, g6, g7⟩
        obtain ⟨kd, ek, hk'⟩ := (q1.2.2.2.1 m g1).2.1
        have tk : tn (I 137 (451 + 5 * m)) = kd := by rw [ek]; exact nI_clamp (by omega)
        rw [tk] at g3
        exact Or.inr ⟨q, by omega, g7, m, kd, hk', ⟨⟨g1, g5, ek, g4⟩, g2⟩, g3⟩
    refine srch (Lp := fun g i => L_X12_isSeenAt_25 E (rr w 163) (nI p) (nI y) ks g i (Hw E w I L Q)) (N := c 2) (c := fun m => I 137 (452 + 5 * m) = 1 ∧ isMk (I 137) m ks (nI y) ∧ ∃ q, I 137 (450 + 5 * m) = nI q ∧ q < c 0 ∧ jnP (I 137) c y p q) (R := fun _ => rtI 1 (Hw E w I L Q)) (Z := rtI 0 (Hw E w I L Q)) ?_ ?_ ?_ ?_ ?_ _ (by omega)
    · rintro g i hi _ ⟨h1, h2, q, h3, h4, h5⟩
      rw [st g i q hi h3, if_neg (not_not_intro h1), zi_t h2, zi_t h5]
    · intro g i hi _ hc
      obtain ⟨q, h3, h4⟩ := pl i hi
      rw [st g i q hi h3]
      by_cases c1 : I 137 (452 + 5 * i) = 1
      · rw [if_neg (not_not_intro c1)]
        by_cases c2 : isMk (I 137) i ks (nI y)
        · rw [zi_t c2, zi_f (fun z => hc ⟨c1, c2, q, h3, h4, z⟩)]
        · rw [zi_f c2]
      · rw [if_pos c1]
    · intro g _
      rw [L_X12_isSeenAt_25]
      simp (disch := omega) only [Option.bind_some, Option.map_some, Option.join, cI_r, cL_r, cV_r, xI_r, xL_r, xV_r, xI_t, xL_t, xV_t, lt_r, rtZ_0, rtZ_1, rtZ_zb, gf163_0, ga137, show ix 2 2988 = some 2 from rfl, e2, nI_leI, if_pos]
    · intro i hi _ hc
      rw [zb_t (key.mpr ⟨i, hi, hc⟩)]
    · intro hn'
      rw [zb_f (fun z => by obtain ⟨v, h1, h2⟩ := key.mp z; exact hn' v h1 h2)]
/-- a set of states of the reference -/
def mX (L : Nat → Nat → Int64) (k a q : Nat) : Prop := q < 256 ∧ b256 (L k) a q
theorem m_goOn {k n a : Nat} (hG : 100000 ≤ E.2.2.1) (hk : LA w k n) (ha : a + 4 ≤ n) (hne : k ≠ 147) (hl : LaidOk (L 140) (I 137) c y) (hc : c 1 ≤ 60) : ∃ L', (∀ k', k' ≠ 147 → L' k' = L k') ∧ (∀ q, q < 256 → (b256 (L' 147) 0 q ↔ ONs (I 137) c y (mX L k a) q)) ∧ F_X12_goOn E (rr w 163) (rr w k) (nI a) (rr w 147) 0 (Hw E w I L Q) = rtV (Hw E w I L' Q) := by
  have la : LA w 147 4 := ⟨lv_of (by decide), rfl, by decide⟩
  have em : F_X12_empty E (rr w 147) 0 (Hw E w I L Q) = rtV (Hw E w I (rs L 147 0 4 (fun _ => 0)) Q) := f_empty (a := 0) hG la (by decide)
  unfold F_X12_goOn
  rw [em, cV_r]
  refine lpK2 (σ := Nat → Nat → Int64) (Lp := fun g i s => L_X12_goOn_9 E (rr w 163) (rr w k) (nI a) (rr w 147) 0 g (nI i) (Hw E w I s Q)) (K := fun s => rtV (Hw E w I s Q)) (Iv := fun i s => (∀ k', k' ≠ 147 → s k' = L k') ∧ ∀ q, q < 256 → (b256 (s 147) 0 q ↔ ∃ s0, s0 < i ∧ b256 (L k) a s0 ∧ b256 (L 140) (4 * s0) q)) (N := 240) (g := E.2.2.1) (i := 0) (s := rs L 147 0 4 (fun _ => 0)) ?_ ?_ ?_ (by omega) (by omega) ⟨fun k' hk' => rs_row _ _ hk', fun q hq => by rw [rs_b hq]; exact ⟨fun z => absurd z bg_0, fun ⟨s, z, _⟩ => absurd z (by omega)⟩⟩
  · rintro L' ⟨z1, z2⟩ ee
    refine ⟨L', z1, fun q hq => ?_, ee⟩
    rw [z2 q hq]
    constructor
    · rintro ⟨s, h1, h2, h3⟩
      have := ((hl s h1 q hq).1).mp h3
      exact ⟨this.1, s, this.2.1, ⟨by omega, h2⟩, this.2.2⟩
    · rintro ⟨h1, s, h2, h3, h4⟩
      exact ⟨s, by omega, h3.2, ((hl s (by omega) q hq).1).mpr ⟨h1, h2, h4⟩⟩
  · rintro g i L1 hi ⟨z1, z2⟩
    have e1 : b256 (L1 k) a i ↔ b256 (L k) a i := by rw [z1 k hne]
    have jn : F_X12_join E (rr w 147) 0 (rr w 140) (nI (4 * i)) (Hw E w I L1 Q) = rtV (Hw E w I (rs L1 147 0 4 (fun j => L1 147 (0 + j) ||| L1 140 (4 * i + j))) Q) := f_join (a := 0) hG la (by decide) la140 (by omega) (Or.inl (by decide))
    have st : L_X12_goOn_9 E (rr w 163) (rr w k) (nI a) (rr w 147) 0 (g + 1) (nI i) (Hw E w I L1 Q) = if zb (b256 (L k) a i) = 0 then L_X12_goOn_9 E (rr w 163) (rr w k) (nI a) (rr w 147) 0 g (nI (i + 1)) (Hw E w I L1 Q) else L_X12_goOn_9 E (rr w 163) (rr w k) (nI a) (rr w 147) 0 g (nI (i + 1)) (Hw E w I (rs L1 147 0 4 (fun j => L1 147 (0 + j) ||| L1 140 (4 * i + j))) Q) := by
      rw [L_X12_goOn_9, m240, if_neg (nI_ge hi (by decide)), f_has hk ha (by omega), cI_r, zb_c e1]
      by_cases p : b256 (L k) a i
      · rw [zi_t p, zi_t p, gf163_5, Option.bind_some, m4, pk_mul, Int32.zero_add, jn, cV_r, nI_1]
      · rw [zi_f p, zi_f p, nI_1]
    by_cases p : b256 (L k) a i
    · refine ⟨rs L1 147 0 4 (fun j => L1 147 (0 + j) ||| L1 140 (4 * i + j)), ⟨fun k' hk' => (rs_row _ _ hk').trans (z1 k' hk'), fun q hq => ?_⟩, ?_⟩
      · show b256 (rs L1 147 0 4 (fun j => L1 147 (0 + j) ||| L1 140 (4 * i + j)) 147) 0 q ↔ _
        rw [rs_b hq, bg_or]
        have e3 : bg (fun i => L1 147 (0 + i)) q ↔ b256 (L1 147) 0 q := Iff.rfl
        have e4 : bg (fun j => L1 140 (4 * i + j)) q ↔ b256 (L 140) (4 * i) q := by rw [z1 140 (by decide)]; exact Iff.rfl
        rw [e3, e4, z2 q hq]
        constructor
        · rintro (⟨s, h1, h2⟩ | h)
          · exact ⟨s, by omega, h2⟩
          · exact ⟨i, by omega, p, h⟩
        · rintro ⟨s, h1, h2, h3⟩
          by_cases e : s = i
          · subst e; exact Or.inr h3
          · exact Or.inl ⟨s, by omega, h2, h3⟩
      · show L_X12_goOn_9 E (rr w 163) (rr w k) (nI a) (rr w 147) 0 (g + 1) (nI i) (Hw E w I L1 Q) = _
        rw [st, zi_t p]
    · refine ⟨L1, ⟨z1, fun q hq => ?_⟩, ?_⟩
      · rw [z2 q hq]
        refine ⟨fun ⟨s, h1, h2⟩ => ⟨s, by omega, h2⟩, fun ⟨s, h1, h2, h3⟩ => ⟨s, ?_, h2, h3⟩⟩
        by_cases e : s = i
        · subst e; exact absurd h2 p
        · omega
      · show L_X12_goOn_9 E (rr w 163) (rr w k) (nI a) (rr w 147) 0 (g + 1) (nI i) (Hw E w I L1 Q) = _
        rw [st, zi_f p]
  · rintro g L1 _
    show L_X12_goOn_9 E (rr w 163) (rr w k) (nI a) (rr w 147) 0 (g + 1) (nI 240) (Hw E w I L1 Q) = _
    rw [L_X12_goOn_9, m240, if_pos (nI_le (Nat.le_refl 240) (by decide))]
end
