/-! the reference's words: the N-th, whole -/
section
variable {E : Ev} {w : Wo} {I : Nat → Nat → Int32} {L : Nat → Nat → Int64} {Q : Nat → Nat → Option Nat} {c : Nat → Nat} {y : Nat}
theorem m_nth101 {N sd k kt nt at0 : Nat} {y9 : Int32} {P : Nat → Prop} {Z : Nat → Nat → Prop} (hG : 100000 ≤ E.2.2.1) (q1 : WfT (I 137) c) (hld : LaidOk (L 140) (I 137) c y) (hk : k < c 4) (hsd : sd < 2) (hN : 1 ≤ N) (hN2 : N ≤ 20) (g3 : LA w kt nt) (g4 : at0 + 4 ≤ nt) (t6 : ¬ (kt = 141 ∨ (146 ≤ kt ∧ kt ≤ 150))) (t7 : kt ≠ 140) (hP : rowP w L c y9 P) (h5 : ∀ l, l ≤ 40 → ∀ q, q < 256 → ¬ b256 (L 150) (4 * l) q) (hZ : ∀ s l, Z s l → s < 4 * c 1 ∧ l < N) (h4 : ∀ l, l ≤ 40 → ∀ q, q < 256 → (b256 (L 149) (4 * l) q ↔ Z q l)) : ∃ L', (∀ k, k ≠ 147 → k ≠ 150 → k ≠ kt → L' k = L k) ∧ (∀ j, j < at0 ∨ at0 + 4 ≤ j → L' kt j = L kt j) ∧ (∀ l, l ≤ 40 → ∀ q, q < 256 → (b256 (L' 150) (4 * l) q ↔ nthZ (cnN (I 137) c y sd (I 137 (725 + 5 * k) = 1) P) N (nxZ (I 137) c y 0 Z) q l)) ∧ (∀ q, q < 256 → (b256 (L' kt) at0 q ↔ b256 (L kt) at0 q ∨ adN (I 137) c y sd (I 137 (725 + 5 * k) = 1) P N (nxZ (I 137) c y 0 Z) q)) ∧ ∀ K, L_X12_nth_101 E K (rr w 163) (nI N) (nI sd) (nI k) (rr w kt) (nI at0) y9 E.2.2.1 0 (Hw E w I L Q) = K (Hw E w I L' Q) := by
  have k1 : c 1 ≤ 60 := (q1.1 1 (by decide)).2
  have nx : ∀ s l, nxZ (I 137) c y 0 Z s l ↔ l < N ∧ ONs (I 137) c y (mX L 149 (4 * l)) s := fun s l => by
    constructor
    · rintro ⟨a1, a2, s0, l0, a3, a4, a5⟩
      unfold mvB at a5; rw [if_pos rfl] at a5
      subst a5
      have b := hZ s0 l a3
      exact ⟨b.2, a1, s0, b.1, ⟨by omega, (h4 l (by omega) s0 (by omega)).mpr a3⟩, a4⟩
    · rintro ⟨a0, a⟩
      have := ON_lt a
      obtain ⟨a1, s0, a2, a3, a4⟩ := a
      exact ⟨a1, by omega, s0, l, (h4 l (by omega) s0 a3.1).mp a3.2, a4, by unfold mvB; rw [if_pos rfl]⟩
  generalize hcn : cnN (I 137) c y sd (I 137 (725 + 5 * k) = 1) P = cn
  refine lpK2 (ρ := (Hp → Rs) → Rs) (σ := Nat → Nat → Int64) (Lp := fun g i s => fun K => L_X12_nth_101 E K (rr w 163) (nI N) (nI sd) (nI k) (rr w kt) (nI at0) y9 g (nI i) (Hw E w I s Q)) (K := fun s => fun K => K (Hw E w I s Q)) (Iv := fun i s => (∀ k, k ≠ 147 → k ≠ 150 → k ≠ kt → s k = L k) ∧ (∀ j, j < at0 ∨ at0 + 4 ≤ j → s kt j = L kt j) ∧ (∀ l, l ≤ 40 → ∀ q, q < 256 → (b256 (s 150) (4 * l) q ↔ ∃ l0, l0 < i ∧ ONs (I 137) c y (mX L 149 (4 * l0)) q ∧ Bn cn N l0 q l)) ∧ ∀ q, q < 256 → (b256 (s kt) at0 q ↔ b256 (L kt) at0 q ∨ ∃ l0, l0 < i ∧ ∃ s0, ONs (I 137) c y (mX L 149 (4 * l0)) s0 ∧ cn s0 ∧ l0 + 1 = N ∧ q % 2 = 0 ∧ oN (I 137) c y sd (I 137 (725 + 5 * k) = 1) s0 (q / 2))) (N := N) (g := E.2.2.1) (i := 0) (s := L) ?_ ?_ ?_ (by omega) (by omega) ⟨fun _ _ _ _ => rfl, fun _ _ => rfl, fun l hl q hq => ⟨fun z => absurd z (h5 l hl q hq), fun ⟨_, z, _⟩ => absurd z (by omega)⟩, fun q hq => ⟨Or.inl, fun z => z.elim id (fun ⟨_, z, _⟩ => absurd z (by omega))⟩⟩
  · rintro s ⟨z1, z2, z3, z4⟩ ee
    refine ⟨s, z1, z2, fun l hl q hq => ?_, fun q hq => ?_, fun K => congrFun ee K⟩
    · rw [z3 l hl q hq]
      unfold nthZ
      rw [nx, nx]
      constructor
      · rintro ⟨l0, a1, a2, ⟨a3, a4⟩ | ⟨a3, a4, a5⟩⟩
        · subst a4; exact Or.inl ⟨a3, a1, a2⟩
        · refine Or.inr ⟨a3, a5, by omega, by omega, ?_⟩
          rw [show l - 1 = l0 by omega]; exact a2
      · rintro (⟨a1, a2, a3⟩ | ⟨a1, a2, a3, a4, a5⟩)
        · exact ⟨l, a2, a3, Or.inl ⟨a1, rfl⟩⟩
        · exact ⟨l - 1, a4, a5, Or.inr ⟨a1, by omega, a2⟩⟩
    · rw [z4 q hq]
      refine or_congr_right ?_
      unfold adN
      rw [hcn]
      constructor
      · rintro ⟨l0, a1, s0, a2, a3, a4, a5, a6⟩
        refine ⟨a5, s0, ON_lt a2, (nx s0 (N - 1)).mpr ⟨by omega, ?_⟩, a3, a6⟩
        rw [show N - 1 = l0 by omega]; exact a2
      · rintro ⟨a1, s0, a2, a3, a4, a5⟩
        exact ⟨N - 1, by omega, s0, ((nx s0 (N - 1)).mp a3).2, a4, by omega, a1, a5⟩
  · rintro g i s hi ⟨z1, z2, z3, z4⟩
    have e49 : s 149 = L 149 := z1 149 (by decide) (by decide) (by omega)
    have inn := f_isNone (E := E) (w := w) (I := I) (L := s) (Q := Q) (k := 149) (a := 4 * i) la149 (by omega)
    rw [e49] at inn
    have emX : mX s 149 (4 * i) = mX L 149 (4 * i) := by unfold mX; rw [e49]
    by_cases pe : ∀ q, q < 256 → ¬ b256 (L 149) (4 * i) q
    · have no : ∀ q, ¬ ONs (I 137) c y (mX L 149 (4 * i)) q := fun q ⟨_, s0, _, b3, _⟩ => pe s0 b3.1 b3.2
      refine ⟨s, ⟨z1, z2, fun l hl q hq => ?_, fun q hq => ?_⟩, ?_⟩
      · rw [z3 l hl q hq]
        refine ⟨fun ⟨l0, a1, a2⟩ => ⟨l0, by omega, a2⟩, fun ⟨l0, a1, a2, a3⟩ => ⟨l0, ?_, a2, a3⟩⟩
        by_cases e : l0 = i
        · subst e; exact absurd a2 (no q)
        · omega
      · rw [z4 q hq]
        refine or_congr_right ⟨fun ⟨l0, a1, a2⟩ => ⟨l0, by omega, a2⟩, fun ⟨l0, a1, s0, a2, a3⟩ => ⟨l0, ?_, s0, a2, a3⟩⟩
        by_cases e : l0 = i
        · subst e; exact absurd a2 (no s0)
        · omega
      · funext K
        show L_X12_nth_101 E K (rr w 163) (nI N) (nI sd) (nI k) (rr w kt) (nI at0) y9 (g + 1) (nI i) (Hw E w I s Q) = _
        rw [L_X12_nth_101, if_neg (nI_ge hi (by omega)), gf163_24, Option.bind_some, m4, pk_mul, inn, cI_r, zi_t pe, nI_1]
    · have ld : LaidOk (s 140) (I 137) c y := by rw [z1 140 (by decide) (by decide) (Ne.symm t7)]; exact hld
      obtain ⟨s1, d1, d2, d3⟩ := m_goOn (E := E) (w := w) (I := I) (L := s) (Q := Q) (y := y) (k := 149) (n := 164) (a := 4 * i) hG la149 (by omega) (by decide) ld k1
      have hP1 : rowP w s1 c y9 P := by
        rcases hP with h | ⟨a, h1, h2, h3⟩
        · exact Or.inl h
        · exact Or.inr ⟨a, h1, h2, fun s' hs' => by rw [d1 141 (by decide), z1 141 (by decide) (by decide) (by omega)]; exact h3 s' hs'⟩
      obtain ⟨s2, f1, f2, f3, f4, f5⟩ := m_nth144 (E := E) (w := w) (I := I) (L := s1) (Q := Q) (c := c) (y := y) (N := N) (l0 := i) (sd := sd) (k := k) (kt := kt) (nt := nt) (at0 := at0) (y9 := y9) (P := P) hG q1 (by rw [d1 140 (by decide)]; exact ld) hk hsd hN2 hi g3 g4 t6 t7 hP1 (fun q hq z => ON_lt ((d2 q hq).mp z))
      rw [hcn] at f3 f4
      rw [emX] at d2
      refine ⟨s2, ⟨fun k h1 h2 h3 => (f1 k h2 h3).trans ((d1 k h1).trans (z1 k h1 h2 h3)), fun j hj => by rw [f2 j hj, d1 kt (by omega)]; exact z2 j hj, fun l hl q hq => ?_, fun q hq => ?_⟩, ?_⟩
      · rw [f3 l hl q hq, d1 150 (by decide), z3 l hl q hq, d2 q hq]
        constructor
        · rintro (⟨l0, a1, a2⟩ | ⟨a1, a2, a3⟩)
          · exact ⟨l0, by omega, a2⟩
          · exact ⟨i, by omega, a2, a3⟩
        · rintro ⟨l0, a1, a2, a3⟩
          by_cases e : l0 = i
          · subst e; exact Or.inr ⟨a2.1, a2, a3⟩
          · exact Or.inl ⟨l0, by omega, a2, a3⟩
      · rw [f4 q hq, d1 kt (by omega), z4 q hq, or_assoc]
        refine or_congr_right ⟨?_, ?_⟩
        · rintro (⟨l0, a1, a2⟩ | ⟨s0, a1, a2, a3, a4⟩)
          · exact ⟨l0, by omega, a2⟩
          · exact ⟨i, by omega, s0, (d2 s0 (by omega)).mp a3, a4⟩
        · rintro ⟨l0, a1, s0, a2, a3⟩
          by_cases e : l0 = i
          · subst e
            have := ON_lt a2
            exact Or.inr ⟨s0, by omega, a2.1, (d2 s0 (by omega)).mpr a2, a3⟩
          · exact Or.inl ⟨l0, by omega, s0, a2, a3⟩
      · funext K
        show L_X12_nth_101 E K (rr w 163) (nI N) (nI sd) (nI k) (rr w kt) (nI at0) y9 (g + 1) (nI i) (Hw E w I s Q) = _
        rw [L_X12_nth_101, if_neg (nI_ge hi (by omega)), gf163_24, Option.bind_some, m4, pk_mul, inn, cI_r, zi_f pe, gf163_24, Option.bind_some, gf163_22, Option.bind_some, o163, Option.bind_some, d3, cV_r, f5, nI_1]
  · rintro g s _
    funext K
    show L_X12_nth_101 E K (rr w 163) (nI N) (nI sd) (nI k) (rr w kt) (nI at0) y9 (g + 1) (nI N) (Hw E w I s Q) = _
    rw [L_X12_nth_101, if_pos (nI_le (Nat.le_refl _) (by omega))]
theorem nx_s {T : Ro} {Z : Nat → Nat → Prop} {lens : Int64} {s l : Nat} (z : nxZ T c y lens Z s l) : s < 4 * c 1 := by
  obtain ⟨h1, _, s0, l0, _, h2, _⟩ := z
  have := h2.1.1
  omega
theorem ZT_s {T : Ro} {cn : Nat → Prop} {N : Nat} {X : Nat → Prop} (hX : ∀ q, X q → q < 4 * c 1) (i : Nat) : ∀ s l, ZT T c y cn N (Z0 X) i s l → s < 4 * c 1 := by
  cases i with
  | zero => intro s l h; exact hX s h.1
  | succ i =>
    rintro s l (⟨_, h⟩ | ⟨_, _, _, h⟩)
    · exact nx_s h
    · exact nx_s h
theorem m_nth60 {k kf nf af kt nt at0 N sd : Nat} {y9 : Int32} {P X : Nat → Prop} (hG : 100000 ≤ E.2.2.1) (q1 : WfT (I 137) c) (hl : Laid I L (I 137) c y) (hk : k < c 4) (hm : MT w kf nf af kt nt at0) (hXX : mX L kf af = X) (hX : ∀ q, X q → q < 4 * c 1) (hsd : sd < 2) (hN : 1 ≤ N) (hN2 : N ≤ 20) (hP : rowP w L c y9 P) : MdP E w c y I L Q kt at0 (wNth (I 137) c y sd (I 137 (725 + 5 * k) = 1) P (ptc (I 137) k) N X) (L_X12_nth_21 E (fun h2 => (gfR h2 (rr w 163) 12 24).bind fun v46 => cV (F_X12_copy E v46 (0 : Int32) (rr w kf) (nI af) h2) fun h54 => L_X12_nth_60 E (rr w 163) (nI N) (nI sd) (nI k) (rr w kt) (nI at0) y9 E.2.2.1 (0 : Int32) h54) (rr w 163) E.2.2.1 0 (Hw E w I L Q)) := by
  have k1 : c 1 ≤ 60 := (q1.1 1 (by decide)).2
  have k4 : c 4 ≤ 8 := (q1.1 4 (by decide)).2
  obtain ⟨p, e1, e2, e3, e4⟩ := pat_m q1 hk
  have c0 : nI 0 = 0 := rfl
  obtain ⟨g1, g2, g3, g4, g5, g6, g7⟩ := hm
  have t5 : ¬ (kf = 141 ∨ (146 ≤ kf ∧ kf ≤ 150)) := g5.1
  have t6 : ¬ (kt = 141 ∨ (146 ≤ kt ∧ kt ≤ 150)) := g6.1
  have cp := f_copy (E := E) (w := w) (I := I) (L := rs L 149 0 164 (fun _ => 0)) (Q := Q) (k := 149) (a := 0) hG la149 (by decide) g1 g2 (by omega)
  rw [c0] at cp
  have row1 : ∀ l, l ≤ 40 → ∀ q, q < 256 → (b256 (rs (rs L 149 0 164 (fun _ => 0)) 149 0 4 (fun i => rs L 149 0 164 (fun _ => 0) kf (af + i)) 149) (4 * l) q ↔ Z0 X q l) := fun l hl q hq => by
    rw [row0 hl hq, rs_row L _ (show kf ≠ 149 by omega), ← hXX]
    exact ⟨fun z => ⟨⟨hq, z.1⟩, z.2⟩, fun z => ⟨z.1.2, z.2⟩⟩
  have row2 : ∀ k, k ≠ 149 → rs (rs L 149 0 164 (fun _ => 0)) 149 0 4 (fun i => rs L 149 0 164 (fun _ => 0) kf (af + i)) k = L k := fun k hk => by rw [rs_row _ _ hk, rs_row _ _ hk]
  generalize rs (rs L 149 0 164 (fun _ => 0)) 149 0 4 (fun i => rs L 149 0 164 (fun _ => 0) kf (af + i)) = L0 at *
  rw [m_nth21 hG, gf163_24, Option.bind_some, cp, cV_r, e2]
  have la0 : Laid I L0 (I 137) c y := Laid_mv (fun _ _ => rfl) rfl (row2 140 (by decide)) (row2 141 (by decide)) hl
  generalize hcn : cnN (I 137) c y sd (I 137 (725 + 5 * k) = 1) P = cn
  refine lpK2 (σ := Nat → Nat → Int64) (Lp := fun g i s => L_X12_nth_60 E (rr w 163) (nI N) (nI sd) (nI k) (rr w kt) (nI at0) y9 g (nI i) (Hw E w I s Q)) (K := fun s => rtV (Hw E w I s Q)) (Iv := fun i s => MdF I I L s kt at0 ∧ (Laid I s (I 137) c y ∧ s 141 = L 141) ∧ (∀ l, l ≤ 40 → ∀ q, q < 256 → (b256 (s 149) (4 * l) q ↔ ZT (I 137) c y cn N (Z0 X) i q l)) ∧ ∀ q, q < 256 → (b256 (s kt) at0 q ↔ b256 (L kt) at0 q ∨ ∃ i', i' < i ∧ adN (I 137) c y sd (I 137 (725 + 5 * k) = 1) P N (nxZ (I 137) c y 0 (ZT (I 137) c y cn N (Z0 X) i')) q)) (N := p) (g := E.2.2.1) (i := 0) (s := L0) ?_ ?_ ?_ (by omega) (by omega) ⟨MdF.tmp g6.1 (fun _ _ => rfl) (fun k hk => row2 k (fun z => hk (by unfold Tmp; omega))), ⟨la0, row2 141 (by decide)⟩, row1, fun q hq => by rw [row2 kt (by omega)]; exact ⟨Or.inl, fun z => z.elim id (fun ⟨_, z, _⟩ => absurd z (by omega))⟩⟩
  · rintro s ⟨z1, z2, z3, z4⟩ ee
    refine ⟨I, s, z1, z2.1, fun q hq => ?_, ee⟩
    rw [z4 q hq]
    unfold wNth
    rw [hcn]
  · rintro g i s hi ⟨z1, z2, z3, z4⟩
    generalize hs1 : rs s 150 0 164 (fun _ => 0) = s1
    have r1 : ∀ k, k ≠ 150 → s1 k = s k := fun k hk => by rw [← hs1, rs_row _ _ hk]
    have hP1 : rowP w s1 c y9 P := by
      rcases hP with h | ⟨a, h1, h2, h3⟩
      · exact Or.inl h
      · exact Or.inr ⟨a, h1, h2, fun s' hs' => by rw [r1 141 (by decide), z2.2]; exact h3 s' hs'⟩
    obtain ⟨s2, a1, a2, a3, a4, a5⟩ := m_nth101 (E := E) (w := w) (I := I) (L := s1) (Q := Q) (c := c) (y := y) (N := N) (sd := sd) (k := k) (kt := kt) (nt := nt) (at0 := at0) (y9 := y9) (P := P) (Z := ZT (I 137) c y cn N (Z0 X) i) hG q1 (by rw [r1 140 (by decide)]; exact z2.1.2.1) hk hsd hN hN2 g3 g4 t6 g6.2 hP1 (fun l hl q hq => by rw [← hs1, rs164 hl hq]; exact b256_0) (fun s l z => ⟨ZT_s hX i s l z, ZT_lt hN i s l z⟩) (fun l hl q hq => by rw [r1 149 (by decide)]; exact z3 l hl q hq)
    rw [hcn] at a3
    have r4 : ∀ k, k ≠ 147 → k ≠ 149 → k ≠ 150 → k ≠ kt → rs s2 149 0 164 (fun i => s2 150 i) k = s k := fun k h1 h2 h3 h4 => by rw [rs_row _ _ h2, a1 k h1 h3 h4, r1 k h3]
    have rk : rs s2 149 0 164 (fun i => s2 150 i) kt = s2 kt := rs_row _ _ (by omega)
    have k2 : s1 kt = s kt := r1 kt (by omega)
    refine ⟨rs s2 149 0 164 (fun i => s2 150 i), ⟨z1.tr ⟨fun _ _ => rfl, fun k h1 h2 => ?_, fun j hj => ?_⟩, ⟨Laid_mv (fun _ _ => rfl) rfl (r4 140 (by decide) (by decide) (by decide) (Ne.symm g6.2)) (r4 141 (by decide) (by decide) (by decide) (by omega)) z2.1, (r4 141 (by decide) (by decide) (by decide) (by omega)).trans z2.2⟩, fun l hl q hq => ?_, fun q hq => ?_⟩, ?_⟩
    · have : ¬ (k = 141 ∨ (146 ≤ k ∧ k ≤ 150)) := h1
      exact r4 k (by omega) (by omega) (by omega) h2
    · rw [rk, a2 j hj, k2]
    · rw [rs164 hl hq]
      have : b256 (fun i => s2 150 i) (4 * l) q ↔ b256 (s2 150) (4 * l) q := Iff.rfl
      rw [this, a3 l hl q hq]
      exact Iff.rfl
    · rw [rk, a4 q hq, k2, z4 q hq, or_assoc]
      refine or_congr_right ⟨?_, ?_⟩
      · rintro (⟨i', h1, h2⟩ | h)
        · exact ⟨i', by omega, h2⟩
        · exact ⟨i, by omega, h⟩
      · rintro ⟨i', h1, h2⟩
        by_cases e : i' = i
        · subst e; exact Or.inr h2
        · exact Or.inl ⟨i', by omega, h2⟩
    · show L_X12_nth_60 E (rr w 163) (nI N) (nI sd) (nI k) (rr w kt) (nI at0) y9 (g + 1) (nI i) (Hw E w I s Q) = _
      rw [L_X12_nth_60, o163, Option.bind_some, f_patience (by omega), cI_r, e1, if_neg (nI_ge hi (by omega)), m_nth74 hG, hs1, a5, m_nth296 hG, nI_1]
  · rintro g s _
    show L_X12_nth_60 E (rr w 163) (nI N) (nI sd) (nI k) (rr w kt) (nI at0) y9 (g + 1) (nI p) (Hw E w I s Q) = _
    rw [L_X12_nth_60, o163, Option.bind_some, f_patience (by omega), cI_r, e1, if_pos (nI_le (Nat.le_refl p) (by omega))]
end
