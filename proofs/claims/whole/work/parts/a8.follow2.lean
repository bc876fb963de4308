/-! the class' follow, whole -/
def FoF (I I' : Nat → Nat → Int32) (L L' : Nat → Nat → Int64) (Q Q' : Nat → Nat → Option Nat) : Prop := (∀ k, k ≠ 38 → k ≠ 47 → k ≠ 48 → k ≠ 49 → k ≠ 51 → I' k = I k) ∧ (∀ k, k ≠ 39 → k ≠ 44 → k ≠ 46 → k ≠ 48 → k ≠ 50 → k ≠ 52 → L' k = L k) ∧ (∀ k, k ≠ 40 → k ≠ 48 → Q' k = Q k) ∧ ∀ i, i ≠ 7 → i ≠ 8 → Q' 40 i = Q 40 i
section
variable {E : Ev} {w : Wo} {I : Nat → Nat → Int32} {L : Nat → Nat → Int64} {Q : Nat → Nat → Option Nat} {c : Nat → Nat} {T : Ro} {y : Nat}
theorem FoF.wc {k : Nat} {I' : Nat → Nat → Int32} {L' : Nat → Nat → Int64} {Q' : Nat → Nat → Option Nat} (h : WC I L Q T c y k) (hf : FoF I I' L L' Q Q') (hm : MapY I' L' T c y) (hs : StepsR I' L' Q') : WC I' L' Q' T c y k := by
  obtain ⟨h1, h2, h3, h4, h5, h6, h7, h8, h9, h10⟩ := h
  have e : ∀ j, j < 38 ∨ j = 40 → I' j = I j := fun j hj => hf.1 j (by omega) (by omega) (by omega) (by omega) (by omega)
  exact ⟨h1, LandR_c (fun j hj => e j (by omega)) h2, hm, h4, hs, h6, by rw [e 40 (by omega)]; exact h7, by rw [e 19 (by omega)]; exact h8, by rw [e 20 (by omega)]; exact h9, by rw [e 21 (by omega)]; exact h10⟩
theorem FoF.gnd {k : Nat} {I' : Nat → Nat → Int32} {L' : Nat → Nat → Int64} {Q' : Nat → Nat → Option Nat} (hf : FoF I I' L L' Q Q') (h : Gnd I L T c y k) : Gnd I' L' T c y k := fun n hn => by
  rw [hf.1 41 (by decide) (by decide) (by decide) (by decide) (by decide), hf.2.1 42 (by decide) (by decide) (by decide) (by decide) (by decide) (by decide)]; exact h n hn
theorem FoF.tr {I1 I2 : Nat → Nat → Int32} {L1 L2 : Nat → Nat → Int64} {Q1 Q2 : Nat → Nat → Option Nat} (h1 : FoF I I1 L L1 Q Q1) (h2 : FoF I1 I2 L1 L2 Q1 Q2) : FoF I I2 L L2 Q Q2 := ⟨fun k a1 a2 a3 a4 a5 => (h2.1 k a1 a2 a3 a4 a5).trans (h1.1 k a1 a2 a3 a4 a5), fun k a1 a2 a3 a4 a5 a6 => (h2.2.1 k a1 a2 a3 a4 a5 a6).trans (h1.2.1 k a1 a2 a3 a4 a5 a6), fun k a1 a2 => (h2.2.2.1 k a1 a2).trans (h1.2.2.1 k a1 a2), fun i a1 a2 => (h2.2.2.2 i a1 a2).trans (h1.2.2.2 i a1 a2)⟩
theorem StepsR_q {Q' : Nat → Nat → Option Nat} (h : Q' 48 = Q 48) (q : StepsR I L Q) : StepsR I L Q' := by
  unfold StepsR at *
  rw [h]; exact q
/-- the list of a set, as the row of states from which a word sets out -/
theorem lst_frm {X : Nat → Prop} {I' : Nat → Nat → Int32} (k1 : c 1 ≤ 60) (hX : ∀ q, X q → q < 4 * c 1) (hl : lstd (I' 47) X 240) : Frm w I' c 47 240 (cntP X 240) ∧ frX I' 47 (cntP X 240) = X := by
  have le : cntP X 240 ≤ 240 := cntP_le 240
  have at0 : ∀ i, i < cntP X 240 → ∃ s, I' 47 i = nI s ∧ s < 240 ∧ X s := fun i hi => by
    obtain ⟨s, h1, h2, h3⟩ := cnt_sur hi
    exact ⟨s, by rw [← h3]; exact hl s h1 h2, h1, h2⟩
  refine ⟨⟨⟨lv_of (by decide), rfl, by decide⟩, by decide, le, le, fun i hi => ?_⟩, funext fun s => propext ⟨?_, ?_⟩⟩
  · obtain ⟨s, h1, _, h2⟩ := at0 i hi
    exact ⟨s, h1, hX s h2⟩
  · rintro ⟨h1, i, h2, h3⟩
    obtain ⟨s', g1, g2, g3⟩ := at0 i h2
    have : s' = s := (nI_eq (by omega) (by omega)).mp (by rw [← g1, h3])
    rw [← this]; exact g3
  · intro h
    have := hX s h
    exact ⟨by omega, cntP X s, cnt_lt h (by omega), hl s (by omega) h⟩
end
