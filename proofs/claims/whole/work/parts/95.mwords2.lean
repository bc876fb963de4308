/-! the reference's words: until, over, see, back, sides -/
section
variable {E : Ev} {w : Wo} {I : Nat → Nat → Int32} {L : Nat → Nat → Int64} {Q : Nat → Nat → Option Nat} {c : Nat → Nat} {y : Nat}
theorem fU_e {T : Ro} {St X : Nat → Prop} {i j : Nat} (h : ∀ s, s < 4 * c 1 → ¬ fU T c y St X i s) (hij : i ≤ j) : ∀ s, s < 4 * c 1 → ¬ fU T c y St X j s := by
  induction j with
  | zero => intro s hs z; rw [show i = 0 by omega] at h; exact h s hs z
  | succ j ih =>
    by_cases e : i = j + 1
    · subst e; exact h
    · rintro s hs ⟨⟨_, s', h1, h2, _⟩, _⟩
      exact ih (by omega) s' h1 h2
theorem m_un31 {k a p : Nat} {St X : Nat → Prop} (hG : 100000 ≤ E.2.2.1) (q1 : WfT (I 137) c) (hl : LaidOk (L 140) (I 137) c y) (hk : k < 8) (hp : I 137 (726 + 5 * k) = nI p) (hp2 : p ≤ 20) (ha : a + 4 ≤ 384) (hSt : ∀ q, q < 256 → (b256 (L 141) a q ↔ q < 4 * c 1 ∧ St q)) (h8 : ∀ q, q < 256 → ¬ b256 (L 148) 0 q) (h6 : ∀ q, q < 256 → (b256 (L 146) 0 q ↔ X q)) : ∃ L', (∀ k, k ≠ 146 → k ≠ 147 → k ≠ 148 → L' k = L k) ∧ (∀ q, q < 256 → (b256 (L' 148) 0 q ↔ ∃ i, i < p ∧ stU (I 137) c y St X i q)) ∧ ∀ K, L_X12_until_31 E K (rr w 163) (nI k) (nI a) E.2.2.1 0 (Hw E w I L Q) = K (Hw E w I L' Q) := by
  have k1 : c 1 ≤ 60 := (q1.1 1 (by decide)).2
  have onl : ∀ X q, q < 256 → ONs (I 137) c y X q → q < 4 * c 1 := fun X q hq z => by
    obtain ⟨z1, s, z2, z3, z4⟩ := z
    have := z4.1.1
    omega
  have c0 : nI 0 = 0 := rfl
  have ff := lpE (ρ := (Hp → Rs) → Rs) (σ := Nat → Nat → Int64) (Lp := fun g i s => fun K => L_X12_until_31 E K (rr w 163) (nI k) (nI a) g (nI i) (Hw E w I s Q)) (Post := fun r => ∃ L', (∀ k, k ≠ 146 → k ≠ 147 → k ≠ 148 → L' k = L k) ∧ (∀ q, q < 256 → (b256 (L' 148) 0 q ↔ ∃ i, i < p ∧ stU (I 137) c y St X i q)) ∧ r = fun K => K (Hw E w I L' Q)) (Iv := fun i s => (∀ k, k ≠ 146 → k ≠ 147 → k ≠ 148 → s k = L k) ∧ ∀ q, q < 256 → (b256 (s 148) 0 q ↔ ∃ j, j < i ∧ stU (I 137) c y St X j q) ∧ (b256 (s 146) 0 q ↔ fU (I 137) c y St X i q)) (N := p) ?_ ?_ E.2.2.1 0 L (by omega) (by omega) ⟨fun _ _ _ _ => rfl, fun q hq => ⟨⟨fun z => absurd z (h8 q hq), fun ⟨j, z, _⟩ => absurd z (by omega)⟩, h6 q hq⟩⟩
  · obtain ⟨L', r1, r2, r3⟩ := ff
    exact ⟨L', r1, r2, fun K => congrFun r3 K⟩
  · rintro g i s hi ⟨z1, z2⟩
    have inn := f_isNone (E := E) (w := w) (I := I) (L := s) (Q := Q) (a := 0) la146 (by decide)
    rw [c0] at inn
    by_cases pe : ∀ q, q < 256 → ¬ b256 (s 146) 0 q
    · right
      refine ⟨s, z1, fun q hq => ?_, ?_⟩
      · rw [(z2 q hq).1]
        refine ⟨fun ⟨j, h1, h2⟩ => ⟨j, by omega, h2⟩, fun ⟨j, h1, h2⟩ => ?_⟩
        by_cases e : j < i
        · exact ⟨j, e, h2⟩
        · obtain ⟨⟨_, s', g1, g2, _⟩, _⟩ := h2
          exact absurd g2 (fU_e (fun s' hs' z => pe s' (by omega) ((z2 s' (by omega)).2.mpr z)) (by omega) s' g1)
      · funext K
        show L_X12_until_31 E K (rr w 163) (nI k) (nI a) (g + 1) (nI i) (Hw E w I s Q) = _
        rw [L_X12_until_31, o163, Option.bind_some, f_patience hk, cI_r, hp, if_neg (nI_ge hi (by omega)), gf163_21, Option.bind_some, inn, cI_r, zn_t pe]
    · left
      have ld : LaidOk (s 140) (I 137) c y := by rw [z1 140 (by decide) (by decide) (by decide)]; exact hl
      obtain ⟨s1, d1, d2, d3⟩ := m_goOn (E := E) (w := w) (I := I) (L := s) (Q := Q) (y := y) (a := 0) hG la146 (by decide) (by decide) ld k1
      rw [c0] at d3
      obtain ⟨s2, f1, f2, f3⟩ := m_un69 (E := E) (w := w) (I := I) (L := s1) (Q := Q) (a := a) hG ha
      have on7 : ∀ q, q < 256 → (b256 (s1 147) 0 q ↔ ONs (I 137) c y (fU (I 137) c y St X i) q) := fun q hq => by
        rw [d2 q hq]
        exact ONs_c fun s' hs' => ⟨fun z => ((z2 s' (by omega)).2).mp z.2, fun z => ⟨by omega, ((z2 s' (by omega)).2).mpr z⟩⟩
      have e41 : s1 141 = L 141 := (d1 141 (by decide)).trans (z1 141 (by decide) (by decide) (by decide))
      have sq : ∀ q, q < 256 → ONs (I 137) c y (fU (I 137) c y St X i) q → (b256 (L 141) a q ↔ St q) := fun q hq z => by
        rw [hSt q hq]; exact ⟨fun h => h.2, fun h => ⟨onl _ q hq z, h⟩⟩
      refine ⟨s2, ⟨fun k' h1 h2 h3 => (f1 k' h1 h3).trans ((d1 k' h2).trans (z1 k' h1 h2 h3)), fun q hq => ⟨?_, ?_⟩⟩, ?_⟩
      · rw [(f2 q hq).1, d1 148 (by decide), (z2 q hq).1, on7 q hq, e41]
        constructor
        · rintro (⟨j, h1, h2⟩ | ⟨h1, h2⟩)
          · exact ⟨j, by omega, h2⟩
          · exact ⟨i, by omega, h1, (sq q hq h1).mp h2⟩
        · rintro ⟨j, h1, h2⟩
          by_cases e : j = i
          · subst e; exact Or.inr ⟨h2.1, (sq q hq h2.1).mpr h2.2⟩
          · exact Or.inl ⟨j, by omega, h2⟩
      · rw [(f2 q hq).2, on7 q hq, e41]
        show _ ↔ ONs (I 137) c y (fU (I 137) c y St X i) q ∧ ¬ St q
        exact ⟨fun z => ⟨z.1, fun h => z.2 ((sq q hq z.1).mpr h)⟩, fun z => ⟨z.1, fun h => z.2 ((sq q hq z.1).mp h)⟩⟩
      · funext K
        show L_X12_until_31 E K (rr w 163) (nI k) (nI a) (g + 1) (nI i) (Hw E w I s Q) = _
        rw [L_X12_until_31, o163, Option.bind_some, f_patience hk, cI_r, hp, if_neg (nI_ge hi (by omega)), gf163_21, Option.bind_some, inn, cI_r, zn_f pe, gf163_21, Option.bind_some, gf163_22, Option.bind_some, o163, Option.bind_some, d3, cV_r, f3, nI_1]
  · rintro g s ⟨z1, z2⟩
    refine ⟨s, z1, fun q hq => (z2 q hq).1, ?_⟩
    funext K
    show L_X12_until_31 E K (rr w 163) (nI k) (nI a) (g + 1) (nI p) (Hw E w I s Q) = _
    rw [L_X12_until_31, o163, Option.bind_some, f_patience hk, cI_r, hp, if_pos (nI_le (Nat.le_refl p) (by omega))]
theorem m_until {k n kf nf af kt nt at0 : Nat} {x3 : Int32} {past : Prop} (hG : 100000 ≤ E.2.2.1) (q1 : WfT (I 137) c) (hl : Laid I L (I 137) c y) (hk : k < c 4) (hn : n < 12) (hm : MT w kf nf af kt nt at0) (hp : x3 = 0 ↔ ¬ past) : MdP E w c y I L Q kt at0 (fun q => ∃ i, i < ptc (I 137) k ∧ wUn (I 137) c y (stS (I 137) c y k n) past (mX L kf af) i q) (F_X12_until E (rr w 163) (nI n) (nI k) x3 (rr w kf) (nI af) (rr w kt) (nI at0) (Hw E w I L Q)) := by
  have k1 : c 1 ≤ 60 := (q1.1 1 (by decide)).2
  have k4 : c 4 ≤ 8 := (q1.1 4 (by decide)).2
  obtain ⟨p, e1, e2, e3, e4⟩ := pat_m q1 hk
  have c0 : nI 0 = 0 := rfl
  obtain ⟨I1, L1, s1, s2, s3, s4, s5⟩ := m_standing (E := E) (w := w) (Q := Q) hG q1 hl hk hn
  have hm0 := hm
  obtain ⟨g1, g2, g3, g4, g5, g6, g7⟩ := hm
  have tn : ∀ k, 146 ≤ k → k ≤ 150 → k ≠ kt := fun k h1 h2 z => g6.1 (by unfold Tmp; omega)
  have n6 : kf ≠ 146 := fun z => g5.1 (by unfold Tmp; omega)
  have em : F_X12_empty E (rr w 148) 0 (Hw E w I1 L1 Q) = rtV (Hw E w I1 (rs L1 148 0 4 (fun _ => 0)) Q) := f_empty (a := 0) hG la148 (by decide)
  have cp := f_copy (E := E) (w := w) (I := I1) (L := rs L1 148 0 4 (fun _ => 0)) (Q := Q) (k := 146) (a := 0) hG la146 (by decide) g1 g2 n6
  rw [c0] at cp
  generalize hL2 : rs (rs L1 148 0 4 (fun _ => 0)) 146 0 4 (fun i => rs L1 148 0 4 (fun _ => 0) kf (af + i)) = L2 at cp
  have r2 : ∀ k, k ≠ 146 → k ≠ 148 → L2 k = L1 k := fun k h1 h2 => by rw [← hL2, rs_row _ _ h1, rs_row _ _ h2]
  have i137 : I1 137 = I 137 := s1 137 (by decide)
  have lkf : L1 kf = L kf := s2 kf (fun z => g5.1 (by unfold Tmp; omega))
  have x0 : ∀ q, q < 256 → (b256 (L2 146) 0 q ↔ mX L kf af q) := fun q hq => by
    rw [← hL2, rs_b hq, rs_row L1 _ (show kf ≠ 148 from fun z => g5.1 (by unfold Tmp; omega)), lkf]
    exact ⟨fun z => ⟨hq, z⟩, fun z => z.2⟩
  obtain ⟨L3, u1, u2, u3⟩ := m_un31 (E := E) (w := w) (I := I1) (L := L2) (Q := Q) (c := c) (y := y) (k := k) (a := 4 * (12 * k + n)) (p := p) (St := stS (I 137) c y k n) (X := mX L kf af) hG (by rw [i137]; exact q1) (by rw [r2 140 (by decide) (by decide), i137]; exact s3.2.1) (by omega) (by rw [i137]; exact e1) e4 (by omega) (fun q hq => by rw [r2 141 (by decide) (by decide)]; exact s4 q hq) (fun q hq => by rw [← hL2, rs_row _ _ (by decide), rs_b hq]; exact bg_0) x0
  rw [i137] at u2
  have rL3 : ∀ k, k ≠ 146 → k ≠ 147 → k ≠ 148 → L3 k = L1 k := fun k h1 h2 h3 => (u1 k h1 h2 h3).trans (r2 k h1 h3)
  have fr : ∀ k, ¬ Tmp k → L3 k = L k := fun k hk => by
    have : ¬ (k = 141 ∨ (146 ≤ k ∧ k ≤ 150)) := hk
    rw [rL3 k (by omega) (by omega) (by omega), s2 k (by omega)]
  have lai : Laid I1 L3 (I 137) c y := Laid_mv (fun _ _ => rfl) rfl (rL3 140 (by decide) (by decide) (by decide)) (rL3 141 (by decide) (by decide) (by decide)) s3
  unfold F_X12_until
  rw [o163, Option.bind_some, s5, cI_r, gf163_23, Option.bind_some, em, cV_r, gf163_21, Option.bind_some, cp, cV_r, u3, e2]
  unfold J_X12_until_144
  by_cases px : past
  · rw [if_neg (fun z => hp.mp z px), gf163_23, Option.bind_some, gf163_22, Option.bind_some, o163, Option.bind_some]
    obtain ⟨L4, d1, d2, d3⟩ := m_goOn (E := E) (w := w) (I := I1) (L := L3) (Q := Q) (c := c) (y := y) (a := 0) hG la148 (by decide) (by decide) (by rw [i137]; exact lai.2.1) k1
    rw [c0] at d3
    rw [i137] at d2
    rw [d3, cV_r, gf163_22, Option.bind_some]
    have fr4 : ∀ k, ¬ Tmp k → L4 k = L k := fun k hk => by
      have : ¬ (k = 141 ∨ (146 ≤ k ∧ k ≤ 150)) := hk
      rw [d1 k (by omega), fr k hk]
    obtain ⟨I5, L5, v1, v2, v3, v4⟩ := m_jn (E := E) (w := w) (I := I) (L := L) (Q := Q) (c := c) (y := y) (W := fun q => ∃ i, i < p ∧ wUn (I 137) c y (stS (I 137) c y k n) past (mX L kf af) i q) hG g3 g4 g6 la147 (a2 := 0) (by decide) (Or.inl (tn 147 (by decide) (by decide))) (MdF.tmp g6.1 s1 fr4) (fun q hq => by rw [fr4 kt g6.1]) (Laid_mv (fun _ _ => rfl) rfl (d1 140 (by decide)) (d1 141 (by decide)) lai) (fun q hq => by
      rw [d2 q hq]
      constructor
      · rintro ⟨h1, s, h2, h3, h4⟩
        obtain ⟨i, h5, h6⟩ := (u2 s (by omega)).mp h3.2
        exact ⟨i, h5, Or.inr ⟨px, h1, s, h2, h6, h4⟩⟩
      · rintro ⟨i, h5, ⟨h6, _⟩ | ⟨_, h1, s, h2, h6, h4⟩⟩
        · exact absurd px h6
        · exact ⟨h1, s, h2, ⟨by omega, (u2 s (by omega)).mpr ⟨i, h5, h6⟩⟩, h4⟩)
    rw [c0] at v4
    exact ⟨I5, L5, v1, v2, v3, by rw [v4]; rfl⟩
  · rw [if_pos (hp.mpr px), gf163_23, Option.bind_some]
    obtain ⟨I5, L5, v1, v2, v3, v4⟩ := m_jn (E := E) (w := w) (I := I) (L := L) (Q := Q) (c := c) (y := y) (W := fun q => ∃ i, i < p ∧ wUn (I 137) c y (stS (I 137) c y k n) past (mX L kf af) i q) hG g3 g4 g6 la148 (a2 := 0) (by decide) (Or.inl (tn 148 (by decide) (by decide))) (MdF.tmp g6.1 s1 fr) (fun q hq => by rw [fr kt g6.1]) lai (fun q hq => by
      rw [u2 q hq]
      exact ⟨fun ⟨i, h1, h2⟩ => ⟨i, h1, Or.inl ⟨px, h2⟩⟩, fun ⟨i, h1, h2⟩ => ⟨i, h1, h2.elim (fun z => z.2) (fun z => absurd z.1 px)⟩⟩)
    rw [c0] at v4
    exact ⟨I5, L5, v1, v2, v3, by rw [v4]; rfl⟩
end
