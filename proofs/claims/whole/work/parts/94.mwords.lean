/-! the reference's words: on, until, over -/
def Tmp (k : Nat) : Prop := k = 141 ∨ (146 ≤ k ∧ k ≤ 150)
def MdF (I I' : Nat → Nat → Int32) (L L' : Nat → Nat → Int64) (kt at0 : Nat) : Prop := (∀ k, k ≠ 142 → I' k = I k) ∧ (∀ k, ¬ Tmp k → k ≠ kt → L' k = L k) ∧ ∀ j, j < at0 ∨ at0 + 4 ≤ j → L' kt j = L kt j
def MdP (E : Ev) (w : Wo) (c : Nat → Nat) (y : Nat) (I : Nat → Nat → Int32) (L : Nat → Nat → Int64) (Q : Nat → Nat → Option Nat) (kt at0 : Nat) (W : Nat → Prop) (r : Rs) : Prop := ∃ I' L', MdF I I' L L' kt at0 ∧ Laid I' L' (I 137) c y ∧ (∀ q, q < 256 → (b256 (L' kt) at0 q ↔ b256 (L kt) at0 q ∨ W q)) ∧ r = rtV (Hw E w I' L' Q)
/-- the source and the goal of a word -/
def MT (w : Wo) (kf nf af kt nt at0 : Nat) : Prop := LA w kf nf ∧ af + 4 ≤ nf ∧ LA w kt nt ∧ at0 + 4 ≤ nt ∧ (¬ Tmp kf ∧ kf ≠ 140) ∧ (¬ Tmp kt ∧ kt ≠ 140) ∧ (kf ≠ kt ∨ af + 4 ≤ at0 ∨ at0 + 4 ≤ af)
section
variable {E : Ev} {w : Wo} {I : Nat → Nat → Int32} {L : Nat → Nat → Int64} {Q : Nat → Nat → Option Nat} {c : Nat → Nat} {y : Nat}
theorem MdF.tr {kt at0 : Nat} {I1 I2 : Nat → Nat → Int32} {L1 L2 : Nat → Nat → Int64} (h1 : MdF I I1 L L1 kt at0) (h2 : MdF I1 I2 L1 L2 kt at0) : MdF I I2 L L2 kt at0 := ⟨fun k hk => (h2.1 k hk).trans (h1.1 k hk), fun k hk hk2 => (h2.2.1 k hk hk2).trans (h1.2.1 k hk hk2), fun j hj => (h2.2.2 j hj).trans (h1.2.2 j hj)⟩
theorem MdF.tmp {kt at0 : Nat} {I1 : Nat → Nat → Int32} {L1 : Nat → Nat → Int64} (ht : ¬ Tmp kt) (h1 : ∀ k, k ≠ 142 → I1 k = I k) (h2 : ∀ k, ¬ Tmp k → L1 k = L k) : MdF I I1 L L1 kt at0 := ⟨h1, fun k hk _ => h2 k hk, fun j _ => by rw [h2 kt ht]⟩
theorem ONs_c {T : Ro} {X X' : Nat → Prop} {q : Nat} (h : ∀ s, s < 4 * c 1 → (X s ↔ X' s)) : ONs T c y X q ↔ ONs T c y X' q := by
  unfold ONs
  exact and_congr_right fun _ => exists_congr fun s => and_congr_right fun hs => by rw [h s hs]
theorem Laid_mv {I1 : Nat → Nat → Int32} {L1 : Nat → Nat → Int64} {T : Ro} (h1 : ∀ k, k ≠ 142 → I1 k = I k) (h142 : I1 142 = I 142) (h140 : L1 140 = L 140) (h141 : L1 141 = L 141) (h : Laid I L T c y) : Laid I1 L1 T c y := by
  refine ⟨by rw [h1 163 (by decide)]; exact h.1, by rw [h140]; exact h.2.1, ?_⟩
  unfold StdOk
  rw [h142, h141]; exact h.2.2
theorem f_patience {k : Nat} (hk : k < 8) : F_X12_patience E (rr w 163) (nI k) (Hw E w I L Q) = rtI (I 137 (726 + 5 * k)) (Hw E w I L Q) := by
  unfold F_X12_patience
  rw [m722, m5, m4]
  simp (disch := omega) only [Option.bind_some, Option.map_some, Option.join, cI_r, cL_r, cV_r, xI_r, xL_r, xV_r, xI_t, xL_t, xV_t, lt_r, rtZ_0, rtZ_1, rtZ_zb, pk_mul, nI_add, show 722 + 5 * k + 4 = 726 + 5 * k by omega, gf163_0, ga137, ix_n]
theorem pat_m {k : Nat} {T : Ro} (q1 : WfT T c) (hk : k < c 4) : ∃ p, T (726 + 5 * k) = nI p ∧ ptc T k = p ∧ 1 ≤ p ∧ p ≤ 20 := by
  obtain ⟨p, h1, h2⟩ := (q1.2.2.2.2.2.1 k hk).2.2.2.2
  refine ⟨p, h1, ?_, h2⟩
  unfold ptc; rw [h1]; exact nI_clamp (by omega)
theorem mX_f {kf nf af kt nt at0 : Nat} {I1 : Nat → Nat → Int32} {L1 : Nat → Nat → Int64} (hm : MT w kf nf af kt nt at0) (f : MdF I I1 L L1 kt at0) {q : Nat} (hq : q < 256) : b256 (L1 kf) af q ↔ b256 (L kf) af q := by
  obtain ⟨_, _, _, _, h1, h2, h3⟩ := hm
  by_cases e : kf = kt
  · unfold b256; rw [e, f.2.2 _ (by omega)]
  · rw [f.2.1 kf h1.1 e]
/-- a last join -/
theorem m_jn {kt nt at0 k2 n2 a2 : Nat} {I1 : Nat → Nat → Int32} {L1 : Nat → Nat → Int64} {W : Nat → Prop} (hG : 100000 ≤ E.2.2.1) (hk : LA w kt nt) (ha : at0 + 4 ≤ nt) (ht : ¬ Tmp kt ∧ kt ≠ 140) (h2 : LA w k2 n2) (ha2 : a2 + 4 ≤ n2) (hne : k2 ≠ kt ∨ a2 + 4 ≤ at0 ∨ at0 + 4 ≤ a2) (f : MdF I I1 L L1 kt at0) (e : ∀ q, q < 256 → (b256 (L1 kt) at0 q ↔ b256 (L kt) at0 q)) (hl : Laid I1 L1 (I 137) c y) (hW : ∀ q, q < 256 → (b256 (L1 k2) a2 q ↔ W q)) : MdP E w c y I L Q kt at0 W (F_X12_join E (rr w kt) (nI at0) (rr w k2) (nI a2) (Hw E w I1 L1 Q)) := by
  have n1 : kt ≠ 141 := fun z => ht.1 (Or.inl z)
  refine ⟨I1, rs L1 kt at0 4 (fun i => L1 kt (at0 + i) ||| L1 k2 (a2 + i)), f.tr ⟨fun _ _ => rfl, fun k _ hk => rs_row _ _ hk, fun j hj => rs_out _ _ (by omega)⟩, Laid_mv (fun _ _ => rfl) rfl (rs_row _ _ (Ne.symm ht.2)) (rs_row _ _ (Ne.symm n1)) hl, fun q hq => ?_, f_join hG hk ha h2 ha2 hne⟩
  rw [rs_b hq, bg_or]
  exact or_congr (e q hq) (hW q hq)
theorem m_onTimes {k kf nf af kt nt at0 N : Nat} (hG : 100000 ≤ E.2.2.1) (q1 : WfT (I 137) c) (hl : Laid I L (I 137) c y) (hk : k < c 4) (hm : MT w kf nf af kt nt at0) (hN : N < 1000) : MdP E w c y I L Q kt at0 (wOn (I 137) c y (ptc (I 137) k) N (mX L kf af)) (F_X12_onTimes E (rr w 163) (nI N) (nI k) (rr w kf) (nI af) (rr w kt) (nI at0) (Hw E w I L Q)) := by
  have k1 : c 1 ≤ 60 := (q1.1 1 (by decide)).2
  have k4 : c 4 ≤ 8 := (q1.1 4 (by decide)).2
  obtain ⟨p, e1, e2, e3, e4⟩ := pat_m q1 hk
  obtain ⟨g1, g2, g3, g4, g5, g6, g7⟩ := hm
  have n6 : kf ≠ 146 := fun z => g5.1 (by unfold Tmp; omega)
  have t6 : 146 ≠ kt := fun z => g6.1 (by unfold Tmp; omega)
  have cp := f_copy (E := E) (w := w) (I := I) (L := L) (Q := Q) (k := 146) (a := 0) hG la146 (by decide) g1 g2 n6
  have c0 : nI 0 = 0 := rfl
  rw [c0] at cp
  unfold F_X12_onTimes
  rw [o163, Option.bind_some, f_patience (by omega), cI_r, e1, e2]
  by_cases pN : N ≤ p
  · rw [if_pos (nI_le pN (by omega)), gf163_21, Option.bind_some, cp, cV_r]
    refine lpK2 (σ := Nat → Nat → Int64) (Lp := fun g i s => L_X12_onTimes_24 E (rr w 163) (nI N) (rr w kt) (nI at0) g (nI i) (Hw E w I s Q)) (K := fun s => cV (F_X12_join E (rr w kt) (nI at0) (rr w 146) 0 (Hw E w I s Q)) fun h => rtV h) (Iv := fun i s => (∀ k, k ≠ 146 → k ≠ 147 → s k = L k) ∧ ∀ q, q < 256 → (b256 (s 146) 0 q ↔ onN (I 137) c y (mX L kf af) i q)) (N := N) (g := E.2.2.1) (i := 0) (s := rs L 146 0 4 (fun i => L kf (af + i))) ?_ ?_ ?_ (by omega) (by omega) ⟨fun k' hk' _ => rs_row _ _ hk', fun q hq => by rw [rs_b hq]; exact ⟨fun z => ⟨hq, z⟩, fun z => z.2⟩⟩
    · rintro s ⟨z1, z2⟩ ee
      rw [show L_X12_onTimes_24 E (rr w 163) (nI N) (rr w kt) (nI at0) E.2.2.1 0 (Hw E w I (rs L 146 0 4 fun i => L kf (af + i)) Q) = _ from ee]
      have f : MdF I I L s kt at0 := MdF.tmp g6.1 (fun _ _ => rfl) (fun k hk => z1 k (fun z => hk (by unfold Tmp; omega)) (fun z => hk (by unfold Tmp; omega)))
      obtain ⟨I2, L2, r1, r2, r3, r4⟩ := m_jn (E := E) (w := w) (I := I) (L := L) (Q := Q) (c := c) (y := y) (W := wOn (I 137) c y p N (mX L kf af)) hG g3 g4 g6 la146 (a2 := 0) (by decide) (Or.inl t6) f (fun q hq => by rw [z1 kt (Ne.symm t6) (fun z => g6.1 (by unfold Tmp; omega))]) (Laid_mv (fun _ _ => rfl) rfl (z1 140 (by decide) (by decide)) (z1 141 (by decide) (by decide)) hl) (fun q hq => by rw [z2 q hq]; exact ⟨fun z => ⟨pN, z⟩, fun z => z.2⟩)
      exact ⟨I2, L2, r1, r2, r3, by rw [show F_X12_join E (rr w kt) (nI at0) (rr w 146) 0 (Hw E w I s Q) = _ from r4]; rfl⟩
    · rintro g i s hi ⟨z1, z2⟩
      have ld : LaidOk (s 140) (I 137) c y := by rw [z1 140 (by decide) (by decide)]; exact hl.2.1
      obtain ⟨s1, d1, d2, d3⟩ := m_goOn (E := E) (w := w) (I := I) (L := s) (Q := Q) (y := y) (a := 0) hG la146 (by decide) (by decide) ld k1
      rw [c0] at d3
      have cp2 := f_copy (E := E) (w := w) (I := I) (L := s1) (Q := Q) (k := 146) (a := 0) (a2 := 0) hG la146 (by decide) la147 (by decide) (by decide)
      rw [c0] at cp2
      refine ⟨rs s1 146 0 4 (fun i => s1 147 (0 + i)), ⟨fun k' h1 h2 => (rs_row _ _ h1).trans ((d1 k' h2).trans (z1 k' h1 h2)), fun q hq => ?_⟩, ?_⟩
      · rw [rs_b hq]
        have : bg (fun i => s1 147 (0 + i)) q ↔ b256 (s1 147) 0 q := Iff.rfl
        rw [this, d2 q hq]
        exact ONs_c fun s' hs' => ⟨fun z => (z2 s' (by omega)).mp z.2, fun z => ⟨by omega, (z2 s' (by omega)).mpr z⟩⟩
      · show L_X12_onTimes_24 E (rr w 163) (nI N) (rr w kt) (nI at0) (g + 1) (nI i) (Hw E w I s Q) = _
        rw [L_X12_onTimes_24, if_neg (nI_ge hi (by omega)), gf163_21, Option.bind_some, gf163_22, Option.bind_some, o163, Option.bind_some, d3, cV_r, gf163_21, Option.bind_some, gf163_22, Option.bind_some, cp2, cV_r, nI_1]
    · rintro g s _
      show L_X12_onTimes_24 E (rr w 163) (nI N) (rr w kt) (nI at0) (g + 1) (nI N) (Hw E w I s Q) = _
      rw [L_X12_onTimes_24, if_pos (nI_le (Nat.le_refl N) (by omega)), gf163_21, Option.bind_some]
  · rw [if_neg (fun z => pN ((nI_leI (by omega) (by omega)).mp z))]
    exact ⟨I, L, MdF.tmp g6.1 (fun _ _ => rfl) (fun _ _ => rfl), hl, fun q hq => ⟨Or.inl, fun z => z.elim id (fun z => absurd z.1 pN)⟩, rfl⟩
theorem m_un69 {a : Nat} (hG : 100000 ≤ E.2.2.1) (ha : a + 4 ≤ 384) : ∃ L', (∀ k, k ≠ 146 → k ≠ 148 → L' k = L k) ∧ (∀ q, q < 256 → (b256 (L' 148) 0 q ↔ b256 (L 148) 0 q ∨ (b256 (L 147) 0 q ∧ b256 (L 141) a q)) ∧ (b256 (L' 146) 0 q ↔ b256 (L 147) 0 q ∧ ¬ b256 (L 141) a q)) ∧ ∀ K, L_X12_until_69 E K (rr w 163) (nI a) E.2.2.1 0 (Hw E w I L Q) = K (Hw E w I L' Q) := by
  refine lpK2 (ρ := (Hp → Rs) → Rs) (σ := Nat → Nat → Int64) (Lp := fun g i s => fun K => L_X12_until_69 E K (rr w 163) (nI a) g (nI i) (Hw E w I s Q)) (K := fun s => fun K => K (Hw E w I s Q)) (Iv := fun i s => (∀ k, k ≠ 146 → k ≠ 148 → s k = L k) ∧ (∀ j, j < i → s 148 j = L 148 j ||| (L 147 j &&& L 141 (a + j)) ∧ s 146 j = L 147 j &&& (L 141 (a + j) ^^^ (-1 : Int64))) ∧ ∀ j, i ≤ j → s 148 j = L 148 j) (N := 4) (g := E.2.2.1) (i := 0) (s := L) ?_ ?_ ?_ (by omega) (by omega) ⟨fun _ _ _ => rfl, fun j hj => absurd hj (by omega), fun _ _ => rfl⟩
  · rintro s ⟨z1, z2, z3⟩ ee
    refine ⟨s, z1, fun q hq => ?_, fun K => congrFun ee K⟩
    have := z2 (q / 64) (by omega)
    unfold b256
    rw [Nat.zero_add, this.1, this.2, b64_or, b64_and, b64_and, b64_not (by omega)]
    exact ⟨Iff.rfl, Iff.rfl⟩
  · rintro g i s hi ⟨z1, z2, z3⟩
    refine ⟨up2 (up2 s 148 i (L 148 i ||| (L 147 i &&& L 141 (a + i)))) 146 i (L 147 i &&& (L 141 (a + i) ^^^ (-1 : Int64))), ⟨fun k h1 h2 => ?_, fun j hj => ?_, fun j hj => ?_⟩, ?_⟩
    · rw [up2_row _ _ h1, up2_row _ _ h2, z1 k h1 h2]
    · rw [up2_row _ _ (by decide : (148 : Nat) ≠ 146)]
      by_cases e : j = i
      · subst e; unfold up2; simp only [true_and, if_true, and_self]
      · rw [up2_i _ _ _ e, up2_i _ _ _ e, up2_row _ _ (by decide : (146 : Nat) ≠ 148)]; exact z2 j (by omega)
    · rw [up2_row _ _ (by decide : (148 : Nat) ≠ 146), up2_i _ _ _ (by omega)]; exact z3 j (by omega)
    · funext K
      show L_X12_until_69 E K (rr w 163) (nI a) (g + 1) (nI i) (Hw E w I s Q) = _
      have r7 : s 147 = L 147 := z1 147 (by decide) (by decide)
      have r1 : s 141 = L 141 := z1 141 (by decide) (by decide)
      have t7 : ∀ x, up2 s 148 i x 147 = L 147 := fun x => (up2_row _ _ (by decide)).trans r7
      have t1 : ∀ x, up2 s 148 i x 141 = L 141 := fun x => (up2_row _ _ (by decide)).trans r1
      rw [L_X12_until_69]
      simp (disch := omega) only [Option.bind_some, Option.map_some, Option.join, cI_r, cL_r, cV_r, xI_r, xL_r, xV_r, xI_t, xL_t, xV_t, lt_r, rtZ_0, rtZ_1, rtZ_zb, m4, nI_leI, if_neg, gf163_23, ga148, ix_n, gf163_22, ga147, gf163_6, ga141, nI_add, pa148, gf163_21, pa146, r7, r1, t7, t1, z3 i (Nat.le_refl i), nI_1]
  · rintro g s _
    funext K
    show L_X12_until_69 E K (rr w 163) (nI a) (g + 1) (nI 4) (Hw E w I s Q) = _
    rw [L_X12_until_69]
    simp (disch := omega) only [m4, nI_leI, if_pos]
end
