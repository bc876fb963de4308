/-! one telling more -/
theorem WfZ_j {T T' : Ro} {c c' : Nat → Nat} {z : Nat} (h : ∀ i, 762 + 173 * z ≤ i → i < 935 + 173 * z → T' i = T i) (hc : c 0 ≤ c' 0) (q : WfZ T c z) : WfZ T' c' z := by
  obtain ⟨q1, q2, q3, q4⟩ := q
  refine ⟨by rw [h _ (by omega) (by omega)]; exact bl_m hc q1, by rw [h _ (by omega) (by omega)]; exact q2, by rw [h _ (by omega) (by omega)]; exact q3, fun j g hj => ?_⟩
  rw [h _ (by omega) (by omega)] at g
  obtain ⟨a1, a2⟩ := q4 j g hj
  refine ⟨by rw [h _ (by omega) (by omega)]; exact a1, fun i hi g2 => ?_⟩
  rw [h _ (by omega) (by omega)] at g2
  rw [h _ (by omega) (by omega), h _ (by omega) (by omega), h _ (by omega) (by omega)]
  exact a2 i hi g2
theorem BookZ_j {T T' : Ro} {r r' : Nat → Ro} {z : Nat} (h : ∀ i, 762 + 173 * z ≤ i → i < 935 + 173 * z → T' i = T i) (h1 : r' 1 z = r 1 z) (h2 : r' 2 z = r 2 z) (h3 : r' 3 z = r 3 z) (h4 : ∀ x, 40 * z ≤ x → x < 40 * z + 40 → r' 4 x = r 4 x) (q : BookZ r T z) : BookZ r' T' z := by
  obtain ⟨q1, q2, q3, q4⟩ := q
  refine ⟨by rw [h1, h _ (by omega) (by omega)]; exact q1, by rw [h2, h _ (by omega) (by omega)]; exact q2, by rw [h3, h _ (by omega) (by omega)]; exact q3, fun j hj g i hi => ?_⟩
  rw [h _ (by omega) (by omega)] at g
  have a := q4 j hj g i hi
  rw [h4 _ (by omega) (by omega), h (765 + 173 * z + j) (by omega) (by omega), h _ (by omega) (by omega), h _ (by omega) (by omega), h _ (by omega) (by omega)]
  exact a
section
variable {w : Wo} {I I2 : Nat → Nat → Int32} {L L2 : Nat → Nat → Int64} {Q : Nat → Nat → Option Nat} {c : Nat → Nat}
theorem inv_tell {z : Nat} (q : Inv w I L Q) (hW : WfT (I 137) c) (hLd : LandR I (I 137) c) (hFo : FolkR (fun j => I (15 + j)) (I 137) c) (hBo : BookR (fun j => I (22 + j)) (I 137) c) (hMp0 : MapR I L (I 137) c) (ez : c 5 = z) (hz : z < 12)
    (hI : ∀ k, (k = 48 ∨ k = 49 ∨ k = 51 ∨ k = 121 ∨ k = 122 ∨ k = 138 ∨ k = 139 ∨ k = 144 ∨ k = 160 ∨ k = 161 ∨ (128 ≤ k ∧ k < 136) ∨ 165 ≤ k) → I2 k = I k) (h63 : ∀ i, i = 10 ∨ i = 18 ∨ i = 19 → I2 163 i = I 163 i) (h4 : I2 163 4 = -1) (hL : ∀ k, k ≠ 164 → L2 k = L k)
    (hT : ∀ i, i ≠ 5 → ¬ (762 + 173 * z ≤ i ∧ i < 935 + 173 * z) → I2 137 i = I 137 i) (hTs : I2 137 5 = nI (z + 1)) (hk : ∀ k, k < 40 → k ≠ 23 → k ≠ 24 → k ≠ 25 → k ≠ 26 → k ≠ 22 → I2 k = I k) (hob : ∀ f, f ≠ 0 → I2 22 f = I 22 f) (hof : I2 22 0 = nI (z + 1))
    (h23 : ∀ x, x ≠ z → I2 23 x = I 23 x ∧ I2 24 x = I 24 x ∧ I2 25 x = I 25 x) (h26 : ∀ x, ¬ (40 * z ≤ x ∧ x < 40 * z + 40) → I2 26 x = I 26 x)
    (nW : WfZ (I2 137) c z) (nB : BookZ (fun j => I2 (22 + j)) (I2 137) z) : Inv w I2 L2 Q := by
  obtain ⟨c2, e0, e5⟩ : ∃ c2 : Nat → Nat, (∀ i, i ≠ 5 → c2 i = c i) ∧ c2 5 = z + 1 := ⟨fun i => if i = 5 then z + 1 else c i, fun i hi => if_neg hi, if_pos rfl⟩
  refine sec_5 (c := c) (c2 := c2) q hW.1 hW hLd hFo hBo hMp0 hI h63 h4 (fun k hk => hL k (by omega)) (fun i _ hi => e0 i hi) (by rw [e5]; omega) (by rw [e5]; show z + 1 ≤ 12; omega) (fun i h1 h2 => hT i h1 (by omega)) (by rw [e5]; exact hTs) (fun k hk' => hk k (by omega)) hob (by rw [e5]; exact hof) (fun j hj => ?_) (fun j hj => ?_) (hk 32 (by decide) (by decide) (by decide) (by decide) (by decide) (by decide)) (hk 38 (by decide) (by decide) (by decide) (by decide) (by decide) (by decide)) (fun k h1 h2 => hL k (by omega))
  · rw [e5] at hj
    by_cases e : j = z
    · subst e
      exact WfZ_j (fun _ _ _ => rfl) (by rw [e0 0 (by decide)]; exact Nat.le_refl _) nW
    · exact WfZ_j (fun i g1 g2 => hT i (by omega) (by omega)) (by rw [e0 0 (by decide)]; exact Nat.le_refl _) (hW.2.2.2.2.2.2.1 j (by omega))
  · rw [e5] at hj
    by_cases e : j = z
    · subst e; exact nB
    · have b := h23 j e
      exact BookZ_j (fun i g1 g2 => hT i (by omega) (by omega)) b.1 b.2.1 b.2.2 (fun x g1 g2 => h26 x (by omega)) (hBo.1.2 j (by omega))
end
