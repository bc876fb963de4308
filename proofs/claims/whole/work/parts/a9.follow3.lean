/-! the class' follow: the loop -/
section
variable {E : Ev} {w : Wo} {I : Nat → Nat → Int32} {L : Nat → Nat → Int64} {Q : Nat → Nat → Option Nat} {c : Nat → Nat} {T : Ro} {y : Nat}
theorem c_folrow {z j k a b nw : Nat} {S : Nat → Prop} (hG : 100000 ≤ E.2.2.1) (h : WC I L Q T c y k) (hg : Gnd I L T c y k) (hab : (a = 43 ∧ b = 45) ∨ (a = 45 ∧ b = 43)) (hq7 : Q 40 7 = some a) (hq8 : Q 40 8 = some b) (hS : ∀ q, S q → q < 4 * c 1) (hX : ∀ q, q < 256 → (bq (L (a + 1)) q ↔ S q)) (hz : z < 12) (hj : j < 10) (en : T (765 + 173 * z + j) = nI nw) (hn : nw ≤ 4) (hc1 : ∀ i, i < nw → I 26 (40 * z + 4 * j + i) = enc (T (775 + 173 * z + 16 * j + 4 * i)) (T (776 + 173 * z + 16 * j + 4 * i)) (T (777 + 173 * z + 16 * j + 4 * i)) ∧ WfW (T (775 + 173 * z + 16 * j + 4 * i)) (T (776 + 173 * z + 16 * j + 4 * i)) (T (777 + 173 * z + 16 * j + 4 * i))) (hc2 : nw < 4 → I 26 (40 * z + 4 * j + nw) = 0) : ∃ I' L' Q', FoF I I' L L' Q Q' ∧ MapY I' L' T c y ∧ StepsR I' L' Q' ∧ Q' 40 7 = some b ∧ Q' 40 8 = some a ∧ (∀ q, q < 256 → (bq (L' (b + 1)) q ↔ sayW T c y k z j S q)) ∧ ∀ g m, ¬ nI m ≤ nI j → L_X9_follow_18 E (rr w 40) (nI z) (nI m) (g + 1) (nI j) (Hw E w I L Q) = if zb (∀ q, q < 256 → ¬ bq (L' (b + 1)) q) = 0 then L_X9_follow_18 E (rr w 40) (nI z) (nI m) g (nI (j + 1)) (Hw E w I' L' Q') else rtI (nI j) (Hw E w I' L' Q') := by
  have k1 : c 1 ≤ 60 := (h.1.1 1 (by decide)).2
  have sa : SO w a := by
    rcases hab with e | e
    · rw [e.1]; exact so43
    · rw [e.1]; exact so45
  have sb : SO w b := by
    rcases hab with e | e
    · rw [e.2]; exact so45
    · rw [e.2]; exact so43
  have cl := c_clear (E := E) (w := w) (I := I) (L := L) (Q := Q) hG sb
  have ob : ∀ q, q < 256 → ¬ bq (rs L (b + 1) 0 4 (fun _ => 0) (b + 1)) q := fun q hq => clr_b hq
  have oo : ∀ k, k ≠ b + 1 → rs L (b + 1) 0 4 (fun _ => 0) k = L k := fun k hk => rs_row _ _ hk
  generalize rs L (b + 1) 0 4 (fun _ => 0) = L2 at *
  have ea : L2 (a + 1) = L (a + 1) := oo _ (by omega)
  obtain ⟨I3, d1, d2, d3⟩ := c_list (E := E) (w := w) (I := I) (L := L2) (Q := Q) (t := 47) (n := 240) hG sa ⟨lv_of (by decide), rfl, by decide⟩ (by decide) (fun q hq z => by rw [ea] at z; have := hS q ((hX q hq).mp z); omega)
  rw [ea] at d2 d3
  have ec : ∀ s, s ≤ 240 → cntP (bq (L (a + 1))) s = cntP S s := fun s hs => cnt_c (fun j hj => hX j (by omega))
  rw [ec 240 (by omega)] at d3
  have hl : lstd (I3 47) S 240 := fun s hs hp => by rw [← ec s (by omega)]; exact d2 s hs ((hX s (by omega)).mpr hp)
  obtain ⟨hf, eX⟩ := lst_frm (w := w) k1 hS hl
  have f1 : FoF I I3 L L2 Q Q := ⟨fun k _ a2 _ _ _ => d1 k a2, fun k _ a2 a3 _ _ _ => oo k (by omega), fun _ _ _ => rfl, fun _ _ _ => rfl⟩
  have mp3 : MapY I3 L2 T c y := ⟨MapR_c (d1 32 (by decide)) (d1 38 (by decide)) (fun k g1 g2 => oo k (by omega)) h.2.2.1.1, by rw [d1 32 (by decide)]; exact h.2.2.1.2⟩
  have s3 : StepsR I3 L2 Q := StepsR_c (d1 48 (by decide)) (d1 49 (by decide)) (d1 51 (by decide)) (oo 50 (by omega)) (oo 52 (by omega)) h.2.2.2.2.1
  obtain ⟨I4, L4, Q4, v1, v2, v3, v4, v5⟩ := c_fol58 (E := E) (w := w) (I := I3) (L := L2) (Q := Q) (T := T) (c := c) (y := y) (z := z) (j := j) (k := k) (to := b) (nw := nw) hG (f1.wc h mp3 s3) (f1.gnd hg) sb (by omega) hq8 hf hz hj en hn (fun i hi => by rw [d1 26 (by decide)]; exact hc1 i hi) (fun hi => by rw [d1 26 (by decide)]; exact hc2 hi)
  rw [eX] at v4
  have q4 : Q4 40 = Q 40 := v1.2.2 40 (by decide)
  have f2 : FoF I3 I4 L2 L4 Q Q4 := ⟨fun k a1 _ a3 a4 a5 => v1.1 k a1 a3 a4 a5, fun k a1 a2 a3 a4 a5 a6 => v1.2.1 k a1 a4 a5 a6 (by omega), fun k _ a2 => v1.2.2 k a2, fun i _ _ => by rw [q4]⟩
  generalize hQ5 : up2 (up2 Q4 40 7 (some b)) 40 8 (some a) = Q5
  have q58 : Q5 48 = Q4 48 := by rw [← hQ5, up2_row _ _ (by decide), up2_row _ _ (by decide)]
  have q57 : Q5 40 7 = some b := by rw [← hQ5, up2_i _ _ _ (by decide), up2_s]
  have q588 : Q5 40 8 = some a := by rw [← hQ5, up2_s]
  have f3 : FoF I4 I4 L4 L4 Q4 Q5 := ⟨fun _ _ _ _ _ _ => rfl, fun _ _ _ _ _ _ _ => rfl, fun k a1 _ => by rw [← hQ5, up2_row _ _ a1, up2_row _ _ a1], fun i a1 a2 => by rw [← hQ5, up2_i _ _ _ a2, up2_i _ _ _ a1]⟩
  refine ⟨I4, L4, Q5, (f1.tr f2).tr f3, v2, StepsR_q q58 v3, q57, q588, fun q hq => ?_, fun g m hm => ?_⟩
  · rw [v4 q hq]
    exact ⟨fun z => z.elim (fun z => absurd z (ob q hq)) id, Or.inr⟩
  · have ie := c_isEmpty (E := E) (w := w) (I := I4) (L := L4) (Q := Q5) sb
    rw [L_X9_follow_18, if_neg hm, lt_r, m40, m4, pk_mul, pk_mul, nI_add, show z * 40 + j * 4 = 40 * z + 4 * j by omega, gf40_8, hq8, Option.map_some, Option.bind_some, sb.o, Option.bind_some, cl, cV_r, gf40_7, hq7, Option.map_some, Option.bind_some, gf40_9, Option.bind_some, sa.o, Option.bind_some, d3, cI_r, v5]
    unfold J_X9_follow_113
    rw [gf40_7, q4, hq7, Option.map_some, Option.bind_some, gf40_8, q4, hq8, Option.map_some, Option.bind_some, pf40_7, Option.bind_some, pf40_8, Option.bind_some, hQ5, gf40_7, q57, Option.map_some, Option.bind_some, sb.o, Option.bind_some, ie, cI_r, nI_1]
end
