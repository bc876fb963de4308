/-! the law's loop, and the law -/
section
variable {E : Ev}
noncomputable def Ka (p : Prop) (h : Hp) : Rs := @ite _ p (Classical.propDecidable p) (rtZ (1 : Int32) h) none
theorem ok_end {h : Hp} : OK (rtZ (1 : Int32) h) lawQ := by
  unfold rtZ
  rw [if_pos (Or.inr rfl)]
  rfl
theorem Ka_p {p : Prop} {h : Hp} (hp : p) : OK (Ka p h) lawQ := by
  unfold Ka
  rw [if_pos hp]
  exact ok_end
theorem Ka_q {p : Prop} {h : Hp} (q : OK (Ka p h) lawQ) : p := by
  by_cases hp : p
  · exact hp
  · unfold Ka at q
    rw [if_neg hp] at q
    exact q.elim
theorem law_loop {b n d : Nat} {xs : Nat → Int32} (hG : 100000 ≤ E.2.2.1) (hro : E.2.2.2 b = some (n, xs)) (hn : n ≤ 4096) : ∀ (t i : Nat) (w : Wo) I L Q (z5 z6 z7 : Option Value) (kc ks : Nat), Inv w I L Q → i ≤ n → n < i + 8 * t → 127 * t ≤ kc → 3142 * t ≤ ks → WE E mL_law (d + 13) 23 [some (.ref b), some (.ref (rr w 136)), some (.ref (rr w 163)), some (.ref (rr w 164)), some (.int (nI i)), z5, z6, z7] [] (Hw E w I L Q) kc ks lawQ := by
  intro t
  induction t with
  | zero => intro i w I L Q z5 z6 z7 kc ks q h1 h2; omega
  | succ t ih =>
    intro i w I L Q z5 z6 z7 kc ks q h1 h2 h3 h4
    refine sJ_L_law_23 (K23 := fun w0 w1 w2 w3 w4 h => Ka (w0 = b ∧ w1 = rr w 136 ∧ w2 = rr w 163 ∧ w3 = rr w 164 ∧ w4 = nI (i + 8) ∧ i + 8 ≤ n ∧ ∃ I L Q, h = Hw E w I L Q ∧ Inv w I L Q) h) (K3255 := fun w0 w1 w2 w3 w4 h => Ka (w0 = b ∧ w1 = rr w 136 ∧ w2 = rr w 163 ∧ w3 = rr w 164 ∧ w4 = nI i ∧ i + 8 ≤ n ∧ h = Hw E w I L Q) h) (by omega) (by omega) ?_ ?_ ?_
    · intro w0 w1 w2 w3 w4 w5 w6 w7 h kc' ks' g1 g2 z
      obtain ⟨rfl, rfl, rfl, rfl, rfl, hi, I', L', Q', rfl, q'⟩ := Ka_q z
      exact ih (i + 8) w I' L' Q' w5 w6 w7 kc' ks' q' hi (by omega) (by omega) (by omega)
    · intro w0 w1 w2 w3 w4 w5 w6 w7 h kc' ks' g1 g2 z
      obtain ⟨rfl, rfl, rfl, rfl, rfl, hi, rfl⟩ := Ka_q z
      have hg : gaS E w0 (nI i + 1) = some (xs (i + 1)) := by
        rw [show (1 : Int32) = nI 1 from rfl, nI_add]
        unfold gaS; rw [hro]
        show (ix (nI (i + 1)) n).map xs = _
        rw [ix_n (by omega) (by omega)]; rfl
      refine law_3255 hG q hg (by omega) (by omega) (fun w' I' L' Q' hr q' z5 => ?_)
      have := ih (i + 8) w' I' L' Q' z5 w6 w7 (kc' - 120) (ks' - 3100) q' hi (by omega) (by omega) (by omega)
      rw [hr 136 (by decide), hr 163 (by decide), hr 164 (by decide)] at this
      rw [show (8 : Int32) = nI 8 from rfl, nI_add]
      exact this
    · exact turn hG q hro hn (by omega) (fun _ => ok_end) (fun I' L' Q' hi q' => Ka_p ⟨rfl, rfl, rfl, rfl, rfl, hi, I', L', Q', rfl, q'⟩) (fun hi => Ka_p ⟨rfl, rfl, rfl, rfl, rfl, hi, rfl⟩)
end
