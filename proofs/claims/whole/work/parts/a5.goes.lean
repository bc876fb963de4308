/-! the reference's goes: how far a saying leads -/
def seqW (T : Ro) (c : Nat → Nat) (y k z s0 : Nat) : Nat → (Nat → Prop)
  | 0 => fun q => q = s0
  | j + 1 => sayW T c y k z j (seqW T c y k z s0 j)
section
variable {E : Ev} {w : Wo} {I : Nat → Nat → Int32} {L : Nat → Nat → Int64} {Q : Nat → Nat → Option Nat} {c : Nat → Nat} {y : Nat}
theorem Ot_lt {T : Ro} {S : Nat → Prop} {s q : Nat} (h : isOt T c S s (q / 2)) (h2 : q % 2 = 0) : q < 4 * c 1 := by have := h.1; omega
theorem wd_lt {T : Ro} {k kd n : Nat} {a : Int32} {X : Nat → Prop} (hX : ∀ q, X q → q < 4 * c 1) : ∀ q, wd T c y k kd n a X q → q < 4 * c 1 := by
  intro q h
  unfold wd at h
  split at h
  · have h2 := h.2
    cases n with
    | zero => exact hX q h2
    | succ n => exact ON_lt h2
  · obtain ⟨i, _, h | h⟩ := h
    · exact ON_lt h.2.1
    · exact ON_lt h.2
  · obtain ⟨i, _, h | h⟩ := h
    · exact ON_lt h.2.1
    · exact ON_lt h.2
  · obtain ⟨i, _, l, h, _⟩ := h
    exact nx_s h
  · exact hX q h.1
  · exact hX q h.1
  · exact hX q h
  · obtain ⟨s, _, h1, h2, h3⟩ := h
    have := h2.1
    rw [h3, xo_1]
    split <;> omega
  · obtain ⟨h1, s, _, _, h2, _⟩ := h
    exact Ot_lt h2 h1
  · obtain ⟨i, _, h1, s, _, _, _, h2⟩ := h
    exact Ot_lt h2.1.1 h1
theorem seqW_lt {T : Ro} {k z s0 : Nat} (hs : s0 < 4 * c 1) (j : Nat) : ∀ q, seqW T c y k z s0 j q → q < 4 * c 1 := by
  induction j with
  | zero => intro q h; rw [show q = s0 from h]; exact hs
  | succ j ih => rintro q ⟨i, _, h⟩; exact wd_lt ih q h
theorem m_goes26 {z k m t s0 : Nat} (hG : 100000 ≤ E.2.2.1) (q1 : WfT (I 137) c) (hl : Laid I L (I 137) c y) (hk : k < c 4) (hz : z < c 5) (ht : I 137 (764 + 173 * z) = nI t) (ht2 : t ≤ 10) (hm : m ≤ t) (hs : s0 < 4 * c 1) (h0 : ∀ q, q < 256 → (b256 (L 151) 0 q ↔ q = s0)) : ∃ I' L' r, (∀ k, k ≠ 142 → I' k = I k) ∧ (∀ k, ¬ Tmp k → k ≠ 151 → k ≠ 152 → L' k = L k) ∧ Laid I' L' (I 137) c y ∧ r ≤ m ∧ (∀ j, j < r → ∃ q, seqW (I 137) c y k z s0 (j + 1) q) ∧ (r < m → ∀ q, ¬ seqW (I 137) c y k z s0 (r + 1) q) ∧ (∀ q, q < 256 → (b256 (L' 151) 0 q ↔ r = m ∧ seqW (I 137) c y k z s0 m q)) ∧ L_X12_goes_26 E (rr w 163) (nI z) (nI k) (nI m) E.2.2.1 0 (Hw E w I L Q) = rtI (nI r) (Hw E w I' L' Q) := by
  have k1 : c 1 ≤ 60 := (q1.1 1 (by decide)).2
  have c0 : nI 0 = 0 := rfl
  have ff := lpE (ρ := Rs) (σ := (Nat → Nat → Int32) × (Nat → Nat → Int64)) (Lp := fun g i s => L_X12_goes_26 E (rr w 163) (nI z) (nI k) (nI m) g (nI i) (Hw E w s.1 s.2 Q)) (Post := fun o => ∃ I' L' r, (∀ k, k ≠ 142 → I' k = I k) ∧ (∀ k, ¬ Tmp k → k ≠ 151 → k ≠ 152 → L' k = L k) ∧ Laid I' L' (I 137) c y ∧ r ≤ m ∧ (∀ j, j < r → ∃ q, seqW (I 137) c y k z s0 (j + 1) q) ∧ (r < m → ∀ q, ¬ seqW (I 137) c y k z s0 (r + 1) q) ∧ (∀ q, q < 256 → (b256 (L' 151) 0 q ↔ r = m ∧ seqW (I 137) c y k z s0 m q)) ∧ o = rtI (nI r) (Hw E w I' L' Q)) (Iv := fun i s => (∀ k, k ≠ 142 → s.1 k = I k) ∧ (∀ k, ¬ Tmp k → k ≠ 151 → k ≠ 152 → s.2 k = L k) ∧ Laid s.1 s.2 (I 137) c y ∧ (∀ j, j < i → ∃ q, seqW (I 137) c y k z s0 (j + 1) q) ∧ ∀ q, q < 256 → (b256 (s.2 151) 0 q ↔ seqW (I 137) c y k z s0 i q)) (N := m) ?_ ?_ E.2.2.1 0 (I, L) (by omega) (by omega) ⟨fun _ _ => rfl, fun _ _ _ _ => rfl, hl, fun j hj => absurd hj (by omega), h0⟩
  · exact ff
  · rintro g i ⟨I1, L1⟩ hi ⟨z1, z2, z3, z4, z5⟩
    dsimp only at *
    have i137 : I1 137 = I 137 := z1 137 (by decide)
    have eX : mX L1 151 0 = seqW (I 137) c y k z s0 i := funext fun q => propext ⟨fun h => (z5 q h.1).mp h.2, fun h => by have := seqW_lt hs i q h; exact ⟨by omega, (z5 q (by omega)).mpr h⟩⟩
    obtain ⟨I2, L2, v1, v2, v3, v4, v5⟩ := m_says (E := E) (w := w) (I := I1) (L := L1) (Q := Q) (c := c) (y := y) (z := z) (j := i) (k := k) hG (by rw [i137]; exact q1) (by rw [i137]; exact z3) hk hz (by rw [i137, ht]; exact (nI_ltI (by omega) (by omega)).mpr (by omega)) (by omega) (by rw [eX]; exact seqW_lt hs i)
    rw [i137, eX] at v4
    rw [i137] at v3
    have v4' : ∀ q, q < 256 → (b256 (L2 151) 0 q ↔ seqW (I 137) c y k z s0 (i + 1) q) := v4
    have f1 : ∀ k, k ≠ 142 → I2 k = I k := fun k hk => (v1 k hk).trans (z1 k hk)
    have f2 : ∀ k, ¬ Tmp k → k ≠ 151 → k ≠ 152 → L2 k = L k := fun k h1 h2 h3 => (v2 k h1 h2 h3).trans (z2 k h1 h2 h3)
    have inn := f_isNone (E := E) (w := w) (I := I2) (L := L2) (Q := Q) (k := 151) (a := 0) la151 (by decide)
    rw [c0] at inn
    have st : L_X12_goes_26 E (rr w 163) (nI z) (nI k) (nI m) (g + 1) (nI i) (Hw E w I1 L1 Q) = if zb (∀ q, q < 256 → ¬ b256 (L2 151) 0 q) = 0 then L_X12_goes_26 E (rr w 163) (nI z) (nI k) (nI m) g (nI (i + 1)) (Hw E w I2 L2 Q) else rtI (nI i) (Hw E w I2 L2 Q) := by
      rw [L_X12_goes_26, if_neg (nI_ge hi (by omega)), o163, Option.bind_some, v5, cV_r, gf163_26, Option.bind_some, inn, cI_r, nI_1]
    by_cases pe : ∀ q, q < 256 → ¬ b256 (L2 151) 0 q
    · right
      have no : ∀ q, ¬ seqW (I 137) c y k z s0 (i + 1) q := fun q h => by
        have := seqW_lt hs (i + 1) q h
        exact pe q (by omega) ((v4' q (by omega)).mpr h)
      refine ⟨I2, L2, i, f1, f2, v3, by omega, z4, fun _ => no, fun q hq => ⟨fun h => absurd h (pe q hq), fun h => absurd h.1 (by omega)⟩, ?_⟩
      show L_X12_goes_26 E (rr w 163) (nI z) (nI k) (nI m) (g + 1) (nI i) (Hw E w I1 L1 Q) = _
      rw [st, zi_t pe]
    · left
      refine ⟨(I2, L2), ⟨f1, f2, v3, fun j hj => ?_, v4'⟩, ?_⟩
      · by_cases e : j = i
        · subst e
          refine Classical.byContradiction fun hn => pe fun q hq z => hn ⟨q, (v4' q hq).mp z⟩
        · exact z4 j (by omega)
      · show L_X12_goes_26 E (rr w 163) (nI z) (nI k) (nI m) (g + 1) (nI i) (Hw E w I1 L1 Q) = _
        rw [st, zi_f pe]
  · rintro g ⟨I1, L1⟩ ⟨z1, z2, z3, z4, z5⟩
    dsimp only at *
    refine ⟨I1, L1, m, z1, z2, z3, Nat.le_refl m, z4, fun h => absurd h (by omega), fun q hq => by rw [z5 q hq]; exact ⟨fun h => ⟨rfl, h⟩, fun h => h.2⟩, ?_⟩
    show L_X12_goes_26 E (rr w 163) (nI z) (nI k) (nI m) (g + 1) (nI m) (Hw E w I1 L1 Q) = _
    rw [L_X12_goes_26, if_pos (nI_le (Nat.le_refl m) (by omega))]
end
