/-! the reference's goes, whole -/
section
variable {E : Ev} {w : Wo} {I : Nat → Nat → Int32} {L : Nat → Nat → Int64} {Q : Nat → Nat → Option Nat} {c : Nat → Nat} {y : Nat}
theorem m_goes {z k m t s0 : Nat} (hG : 100000 ≤ E.2.2.1) (q1 : WfT (I 137) c) (hr : RefR I L (I 137) c) (hy : y ≤ 200) (hk : k < c 4) (hz : z < c 5) (ht : I 137 (764 + 173 * z) = nI t) (ht2 : t ≤ 10) (hm : m ≤ t) (hs : s0 < 4 * c 1) : ∃ I' L' r, (∀ k, k ≠ 142 → k ≠ 143 → k ≠ 163 → I' k = I k) ∧ (∀ i, i ≠ 4 → I' 163 i = I 163 i) ∧ (∀ k, ¬ Tmp k → k ≠ 140 → k ≠ 151 → k ≠ 152 → L' k = L k) ∧ Laid I' L' (I 137) c y ∧ r ≤ m ∧ (∀ j, j < r → ∃ q, seqW (I 137) c y k z s0 (j + 1) q) ∧ (r < m → ∀ q, ¬ seqW (I 137) c y k z s0 (r + 1) q) ∧ (∀ q, q < 256 → (b256 (L' 151) 0 q ↔ r = m ∧ seqW (I 137) c y k z s0 m q)) ∧ F_X12_goes E (rr w 163) (nI z) (nI k) (nI s0) (nI y) (nI m) (Hw E w I L Q) = rtI (nI r) (Hw E w I' L' Q) := by
  have k1 : c 1 ≤ 60 := (q1.1 1 (by decide)).2
  obtain ⟨I1, L1, d1, d2, d3, d4, d5⟩ := m_lay (E := E) (w := w) (Q := Q) hG q1 hr hy
  have i137 : I1 137 = I 137 := d1 137 (by decide) (by decide) (by decide)
  have em : F_X12_empty E (rr w 151) 0 (Hw E w I1 L1 Q) = rtV (Hw E w I1 (rs L1 151 0 4 (fun _ => 0)) Q) := f_empty (a := 0) hG la151 (by decide)
  have pu : F_X12_put E (rr w 151) 0 (nI s0) (Hw E w I1 (rs L1 151 0 4 (fun _ => 0)) Q) = rtV (Hw E w I1 (pt (rs L1 151 0 4 (fun _ => 0)) 151 0 s0) Q) := f_put (a := 0) la151 (by decide) (by omega)
  have o1 : ∀ q, q < 256 → (b256 (pt (rs L1 151 0 4 (fun _ => 0)) 151 0 s0 151) 0 q ↔ q = s0) := fun q hq => by
    rw [pt_b (by omega) hq, rs_b hq]
    exact ⟨fun h => h.elim id (fun h => absurd h bg_0), Or.inl⟩
  have o2 : ∀ k, k ≠ 151 → pt (rs L1 151 0 4 (fun _ => 0)) 151 0 s0 k = L1 k := fun k hk => (pt_row hk).trans (rs_row _ _ hk)
  unfold F_X12_goes
  rw [o163, Option.bind_some, d5, cV_r, gf163_26, Option.bind_some, em, cV_r, gf163_26, Option.bind_some, pu, cV_r]
  generalize pt (rs L1 151 0 4 (fun _ => 0)) 151 0 s0 = L0 at *
  have la0 : Laid I1 L0 (I 137) c y := Laid_mv (fun _ _ => rfl) rfl (o2 140 (by decide)) (o2 141 (by decide)) d4
  obtain ⟨I2, L2, r, v1, v2, v3, v4, v5, v6, v7, v8⟩ := m_goes26 (E := E) (w := w) (I := I1) (L := L0) (Q := Q) (c := c) (y := y) (z := z) (k := k) (m := m) (t := t) (s0 := s0) hG (by rw [i137]; exact q1) (by rw [i137]; exact la0) hk hz (by rw [i137]; exact ht) ht2 hm hs o1
  rw [i137] at v3 v5 v6 v7
  exact ⟨I2, L2, r, fun k h1 h2 h3 => (v1 k h1).trans (d1 k h1 h2 h3), fun i hi => by rw [v1 163 (by decide)]; exact d2 i hi, fun k h1 h2 h3 h4 => (v2 k h1 h3 h4).trans ((o2 k h3).trans (d3 k h2)), v3, v4, v5, v6, v7, v8⟩
end
