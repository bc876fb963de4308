/-! the reference's words: far, whole -/
section
variable {E : Ev} {w : Wo} {I : Nat → Nat → Int32} {L : Nat → Nat → Int64} {Q : Nat → Nat → Option Nat} {c : Nat → Nat} {y : Nat}
theorem ZI_lt {T : Ro} {lens : Int64} {X : Nat → Prop} (hX : ∀ q, X q → q < 4 * c 1) (i : Nat) : ∀ s l, ZI T c y lens (Z0 X) i s l → s < 4 * c 1 := by
  cases i with
  | zero => intro s l h; exact hX s h.1
  | succ i =>
    rintro s l ⟨h1, _, s0, l0, _, h2, _⟩
    have := h2.1.1
    omega
theorem b256_0 {a q : Nat} : ¬ b256 (fun _ => 0) a q := b64_0
/-- the rows of one cell, after a set was laid in the first -/
theorem row0 {kf af l q : Nat} (hl : l ≤ 40) (hq : q < 256) : b256 (rs (rs L 149 0 164 (fun _ => 0)) 149 0 4 (fun i => rs L 149 0 164 (fun _ => 0) kf (af + i)) 149) (4 * l) q ↔ (bg (fun i => rs L 149 0 164 (fun _ => 0) kf (af + i)) q ∧ l = 0) := by
  by_cases e : l = 0
  · subst e
    rw [Nat.mul_zero, rs_b hq]
    exact ⟨fun z => ⟨z, rfl⟩, fun z => z.1⟩
  · rw [rs_b2 hq (by omega), rs164 hl hq]
    exact ⟨fun z => absurd z b256_0, fun z => absurd z.2 e⟩
theorem m_far {k kf nf af kt nt at0 N : Nat} (hG : 100000 ≤ E.2.2.1) (q1 : WfT (I 137) c) (hl : Laid I L (I 137) c y) (hk : k < c 4) (hm : MT w kf nf af kt nt at0) (hX : ∀ q, mX L kf af q → q < 4 * c 1) (hN : 1 ≤ N) (hN2 : N ≤ 20) : MdP E w c y I L Q kt at0 (wFar (I 137) c y (ptc (I 137) k) N (mX L kf af)) (F_X12_far E (rr w 163) (nI N) (nI k) (rr w kf) (nI af) (rr w kt) (nI at0) (Hw E w I L Q)) := by
  have k1 : c 1 ≤ 60 := (q1.1 1 (by decide)).2
  have k4 : c 4 ≤ 8 := (q1.1 4 (by decide)).2
  obtain ⟨p, e1, e2, e3, e4⟩ := pat_m q1 hk
  have c0 : nI 0 = 0 := rfl
  obtain ⟨g1, g2, g3, g4, g5, g6, g7⟩ := hm
  have t5 : ¬ (kf = 141 ∨ (146 ≤ kf ∧ kf ≤ 150)) := g5.1
  have t6 : ¬ (kt = 141 ∨ (146 ≤ kt ∧ kt ≤ 150)) := g6.1
  have cp := f_copy (E := E) (w := w) (I := I) (L := rs L 149 0 164 (fun _ => 0)) (Q := Q) (k := 149) (a := 0) hG la149 (by decide) g1 g2 (by omega)
  rw [c0] at cp
  have row1 : ∀ l, l ≤ 40 → ∀ q, q < 256 → (b256 (rs (rs L 149 0 164 (fun _ => 0)) 149 0 4 (fun i => rs L 149 0 164 (fun _ => 0) kf (af + i)) 149) (4 * l) q ↔ Z0 (mX L kf af) q l) := fun l hl q hq => by
    rw [row0 hl hq, rs_row L _ (show kf ≠ 149 by omega)]
    exact ⟨fun z => ⟨⟨hq, z.1⟩, z.2⟩, fun z => ⟨z.1.2, z.2⟩⟩
  have row2 : ∀ k, k ≠ 149 → rs (rs L 149 0 164 (fun _ => 0)) 149 0 4 (fun i => rs L 149 0 164 (fun _ => 0) kf (af + i)) k = L k := fun k hk => by rw [rs_row _ _ hk, rs_row _ _ hk]
  generalize rs (rs L 149 0 164 (fun _ => 0)) 149 0 4 (fun i => rs L 149 0 164 (fun _ => 0) kf (af + i)) = L0 at *
  unfold F_X12_far
  rw [m_far3 hG, gf163_24, Option.bind_some, cp, cV_r, e2]
  generalize hXX : mX L kf af = X at *
  have la0 : Laid I L0 (I 137) c y := Laid_mv (fun _ _ => rfl) rfl (row2 140 (by decide)) (row2 141 (by decide)) hl
  refine lpK2 (σ := Nat → Nat → Int64) (Lp := fun g i s => L_X12_far_41 E (rr w 163) (nI N) (nI k) (rr w kt) (nI at0) g (nI i) (Hw E w I s Q)) (K := fun s => rtV (Hw E w I s Q)) (Iv := fun i s => MdF I I L s kt at0 ∧ Laid I s (I 137) c y ∧ (∀ l, l ≤ 40 → ∀ q, q < 256 → (b256 (s 149) (4 * l) q ↔ ZI (I 137) c y (lnF N) (Z0 X) i q l)) ∧ ∀ q, q < 256 → (b256 (s kt) at0 q ↔ b256 (L kt) at0 q ∨ ∃ i', i' < i ∧ ∃ l, ZI (I 137) c y (lnF N) (Z0 X) (i' + 1) q l ∧ (N + 1) / 2 ≤ l ∧ l ≤ 2 * N)) (N := p) (g := E.2.2.1) (i := 0) (s := L0) ?_ ?_ ?_ (by omega) (by omega) ⟨MdF.tmp g6.1 (fun _ _ => rfl) (fun k hk => row2 k (fun z => hk (by unfold Tmp; omega))), la0, row1, fun q hq => by rw [row2 kt (by omega)]; exact ⟨Or.inl, fun z => z.elim id (fun ⟨_, z, _⟩ => absurd z (by omega))⟩⟩
  · rintro s ⟨z1, z2, z3, z4⟩ ee
    exact ⟨I, s, z1, z2, fun q hq => z4 q hq, ee⟩
  · rintro g i s hi ⟨z1, z2, z3, z4⟩
    generalize hs1 : rs s 150 0 164 (fun _ => 0) = s1
    have r1 : ∀ k, k ≠ 150 → s1 k = s k := fun k hk => by rw [← hs1, rs_row _ _ hk]
    obtain ⟨s2, a1, a2, a3⟩ := m_far81 (E := E) (w := w) (I := I) (L := s1) (Q := Q) (c := c) (y := y) (N := N) (Z := ZI (I 137) c y (lnF N) (Z0 X) i) hG q1 (by rw [r1 140 (by decide)]; exact z2.2.1) hN hN2 (fun l hl q hq => by rw [← hs1, rs164 hl hq]; exact b256_0) (ZI_lt hX i) (fun l hl q hq => by rw [r1 149 (by decide)]; exact z3 l hl q hq)
    obtain ⟨s3, b1, b2, b3, b4⟩ := m_far128 (E := E) (w := w) (I := I) (L := s2) (Q := Q) (N := N) (kt := kt) (nt := nt) (at0 := at0) hG g3 g4 (by omega) hN hN2
    have r2 : ∀ k, k ≠ 147 → k ≠ 150 → s2 k = s k := fun k h1 h2 => (a1 k h1 h2).trans (r1 k h2)
    have r4 : ∀ k, k ≠ 147 → k ≠ 149 → k ≠ 150 → k ≠ kt → rs s3 149 0 164 (fun i => s3 150 i) k = s k := fun k h1 h2 h3 h4 => by rw [rs_row _ _ h2, b1 k h4, r2 k h1 h3]
    have rk : rs s3 149 0 164 (fun i => s3 150 i) kt = s3 kt := rs_row _ _ (by omega)
    have k2 : s2 kt = s kt := r2 kt (by omega) (by omega)
    refine ⟨rs s3 149 0 164 (fun i => s3 150 i), ⟨z1.tr ⟨fun _ _ => rfl, fun k h1 h2 => ?_, fun j hj => ?_⟩, Laid_mv (fun _ _ => rfl) rfl (r4 140 (by decide) (by decide) (by decide) (Ne.symm g6.2)) (r4 141 (by decide) (by decide) (by decide) (by omega)) z2, fun l hl q hq => ?_, fun q hq => ?_⟩, ?_⟩
    · have : ¬ (k = 141 ∨ (146 ≤ k ∧ k ≤ 150)) := h1
      exact r4 k (by omega) (by omega) (by omega) h2
    · rw [rk, b2 j hj, k2]
    · rw [rs164 hl hq]
      have : b256 (fun i => s3 150 i) (4 * l) q ↔ b256 (s2 150) (4 * l) q := by rw [b1 150 (by omega)]
      rw [this, a2 l hl q hq]
      exact Iff.rfl
    · rw [rk, b3 q hq, k2, z4 q hq, or_assoc]
      refine or_congr_right ⟨?_, ?_⟩
      · rintro (⟨i', h1, h2⟩ | ⟨l, h1, h2, h3⟩)
        · exact ⟨i', by omega, h2⟩
        · exact ⟨i, by omega, l, (a2 l (by omega) q hq).mp h1, h2, h3⟩
      · rintro ⟨i', h1, l, h2, h3, h4⟩
        by_cases e : i' = i
        · subst e; exact Or.inr ⟨l, (a2 l (by omega) q hq).mpr h2, h3, h4⟩
        · exact Or.inl ⟨i', by omega, l, h2, h3, h4⟩
    · show L_X12_far_41 E (rr w 163) (nI N) (nI k) (rr w kt) (nI at0) (g + 1) (nI i) (Hw E w I s Q) = _
      rw [L_X12_far_41, o163, Option.bind_some, f_patience (by omega), cI_r, e1, if_neg (nI_ge hi (by omega)), m_far54 hG, hs1, a3, nI_1, m2, dv2 (by omega), Option.bind_some, b4, m_far160 hG, nI_1]
  · rintro g s _
    show L_X12_far_41 E (rr w 163) (nI N) (nI k) (rr w kt) (nI at0) (g + 1) (nI p) (Hw E w I s Q) = _
    rw [L_X12_far_41, o163, Option.bind_some, f_patience (by omega), cI_r, e1, if_pos (nI_le (Nat.le_refl p) (by omega))]
end
