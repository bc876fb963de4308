/-! the class' follow: as far as the reference's goes -/
section
variable {E : Ev} {w : Wo} {I : Nat → Nat → Int32} {L : Nat → Nat → Int64} {Q : Nat → Nat → Option Nat} {c : Nat → Nat} {T : Ro} {y : Nat}
def Fol (w : Wo) (T : Ro) (c : Nat → Nat) (y k z s0 m : Nat) (I I' : Nat → Nat → Int32) (L L' : Nat → Nat → Int64) (Q Q' : Nat → Nat → Option Nat) (a r : Nat) : Prop := FoF I I' L L' Q Q' ∧ MapY I' L' T c y ∧ StepsR I' L' Q' ∧ (Q' 40 7 = some a ∧ WalkR Q') ∧ r ≤ m ∧ (∀ j, j < r → ∃ q, seqW T c y k z s0 (j + 1) q) ∧ (r < m → ∀ q, ¬ seqW T c y k z s0 (r + 1) q) ∧ ∀ q, q < 256 → (bq (L' (a + 1)) q ↔ r = m ∧ seqW T c y k z s0 m q)
theorem c_fol18 {z k m t s0 a b : Nat} (hG : 100000 ≤ E.2.2.1) (h : WC I L Q T c y k) (hg : Gnd I L T c y k) (hb : BookZ (fun j => I (22 + j)) T z) (hab : (a = 43 ∧ b = 45) ∨ (a = 45 ∧ b = 43)) (hq7 : Q 40 7 = some a) (hq8 : Q 40 8 = some b) (hz : z < c 5) (ht : T (764 + 173 * z) = nI t) (ht2 : t ≤ 10) (hm : m ≤ t) (hs : s0 < 4 * c 1) (h0 : ∀ q, q < 256 → (bq (L (a + 1)) q ↔ q = s0)) : ∃ I' L' Q' a' r, Fol w T c y k z s0 m I I' L L' Q Q' a' r ∧ L_X9_follow_18 E (rr w 40) (nI z) (nI m) E.2.2.1 0 (Hw E w I L Q) = rtI (nI r) (Hw E w I' L' Q') := by
  have k1 : c 1 ≤ 60 := (h.1.1 1 (by decide)).2
  have k5 : c 5 ≤ 12 := (h.1.1 5 (by decide)).2
  have ff := lpE (ρ := Rs) (σ := (Nat → Nat → Int32) × (Nat → Nat → Int64) × (Nat → Nat → Option Nat)) (Lp := fun g i s => L_X9_follow_18 E (rr w 40) (nI z) (nI m) g (nI i) (Hw E w s.1 s.2.1 s.2.2)) (Post := fun o => ∃ I' L' Q' a' r, Fol w T c y k z s0 m I I' L L' Q Q' a' r ∧ o = rtI (nI r) (Hw E w I' L' Q')) (Iv := fun i s => FoF I s.1 L s.2.1 Q s.2.2 ∧ MapY s.1 s.2.1 T c y ∧ StepsR s.1 s.2.1 s.2.2 ∧ (∀ j, j < i → ∃ q, seqW T c y k z s0 (j + 1) q) ∧ ∃ a b, ((a = 43 ∧ b = 45) ∨ (a = 45 ∧ b = 43)) ∧ s.2.2 40 7 = some a ∧ s.2.2 40 8 = some b ∧ ∀ q, q < 256 → (bq (s.2.1 (a + 1)) q ↔ seqW T c y k z s0 i q)) (N := m) ?_ ?_ E.2.2.1 0 (I, L, Q) (by omega) (by omega) ⟨⟨fun _ _ _ _ _ _ => rfl, fun _ _ _ _ _ _ _ => rfl, fun _ _ _ => rfl, fun _ _ _ => rfl⟩, h.2.2.1, h.2.2.2.2.1, fun j hj => absurd hj (by omega), a, b, hab, hq7, hq8, h0⟩
  · exact ff
  · rintro g i ⟨I1, L1, Q1⟩ hi ⟨z1, z2, z3, z4, a1, b1, z5, z6, z7, z8⟩
    dsimp only at *
    have lti : nI i < T (764 + 173 * z) := by rw [ht]; exact (nI_ltI (by omega) (by omega)).mpr (by omega)
    obtain ⟨⟨nw, en, hn1, hn2⟩, hW⟩ := (h.1.2.2.2.2.2.2.1 z hz).2.2.2 i lti (by omega)
    have e26 : I1 26 = I 26 := z1.1 26 (by decide) (by decide) (by decide) (by decide) (by decide)
    have bk := hb.2.2.2 i (by omega) lti
    obtain ⟨I2, L2, Q2, v1, v2, v3, v4, v5, v6, v7⟩ := c_folrow (E := E) (w := w) (I := I1) (L := L1) (Q := Q1) (T := T) (c := c) (y := y) (z := z) (j := i) (k := k) (nw := nw) (S := seqW T c y k z s0 i) hG (z1.wc h z2 z3) (z1.gnd hg) z5 z6 z7 (seqW_lt hs i) z8 (by omega) (by omega) en hn2 (fun i' hi' => by
      have lt2 : nI i' < T (765 + 173 * z + i) := by rw [en]; exact (nI_ltI (by omega) (by omega)).mpr hi'
      rw [e26]
      exact ⟨(bk i' (by omega)).1 lt2, hW i' (by omega) lt2⟩) (fun h4 => by
      rw [e26]
      exact (bk nw h4).2 (fun z => by rw [en] at z; have := (nI_ltI (by omega) (by omega)).mp z; omega))
    have v6' : ∀ q, q < 256 → (bq (L2 (b1 + 1)) q ↔ seqW T c y k z s0 (i + 1) q) := v6
    have st := v7 g m (nI_ge hi (by omega))
    by_cases pe : ∀ q, q < 256 → ¬ bq (L2 (b1 + 1)) q
    · right
      have no : ∀ q, ¬ seqW T c y k z s0 (i + 1) q := fun q hq => by
        have := seqW_lt hs (i + 1) q hq
        exact pe q (by omega) ((v6' q (by omega)).mpr hq)
      refine ⟨I2, L2, Q2, b1, i, ⟨z1.tr v1, v2, v3, ⟨v4, ?_⟩, by omega, z4, fun _ => no, fun q hq => ⟨fun x => absurd x (pe q hq), fun x => absurd x.1 (by omega)⟩⟩, ?_⟩
      · rcases z5 with ⟨rfl, rfl⟩ | ⟨rfl, rfl⟩
        · exact Or.inr ⟨v4, v5⟩
        · exact Or.inl ⟨v4, v5⟩
      · show L_X9_follow_18 E (rr w 40) (nI z) (nI m) (g + 1) (nI i) (Hw E w I1 L1 Q1) = _
        rw [st, zi_t pe]
    · left
      refine ⟨(I2, L2, Q2), ⟨z1.tr v1, v2, v3, fun j hj => ?_, b1, a1, by omega, v4, v5, v6'⟩, ?_⟩
      · by_cases e : j = i
        · subst e
          exact Classical.byContradiction fun hn => pe fun q hq x => hn ⟨q, (v6' q hq).mp x⟩
        · exact z4 j (by omega)
      · show L_X9_follow_18 E (rr w 40) (nI z) (nI m) (g + 1) (nI i) (Hw E w I1 L1 Q1) = _
        rw [st, zi_f pe]
  · rintro g ⟨I1, L1, Q1⟩ ⟨z1, z2, z3, z4, a1, b1, z5, z6, z7, z8⟩
    dsimp only at *
    refine ⟨I1, L1, Q1, a1, m, ⟨z1, z2, z3, ⟨z6, ?_⟩, Nat.le_refl m, z4, fun x => absurd x (by omega), fun q hq => by rw [z8 q hq]; exact ⟨fun x => ⟨rfl, x⟩, fun x => x.2⟩⟩, ?_⟩
    · rcases z5 with ⟨rfl, rfl⟩ | ⟨rfl, rfl⟩
      · exact Or.inl ⟨z6, z7⟩
      · exact Or.inr ⟨z6, z7⟩
    · show L_X9_follow_18 E (rr w 40) (nI z) (nI m) (g + 1) (nI m) (Hw E w I1 L1 Q1) = _
      rw [L_X9_follow_18, if_pos (nI_le (Nat.le_refl m) (by omega))]
end
