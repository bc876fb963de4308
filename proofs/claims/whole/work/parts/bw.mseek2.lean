/-! shortest: the reference seeks -/
section
variable {E : Ev} {w : Wo} {I I1 I2 : Nat → Nat → Int32} {L L1 L2 : Nat → Nat → Int64} {Q : Nat → Nat → Option Nat} {c : Nat → Nat} {T : Ro} {y : Nat} {W : Int32} {g0 : Nat}
theorem trs_c {S S' : Nat → Nat → Prop} {N : Nat} (h : ∀ k, k < c 4 → b32 W k → S k = S' k) : trs T c y W N S ↔ trs T c y W N S' := by
  unfold trs
  exact forall_congr' fun k => forall_congr' fun hk => forall_congr' fun hw => by rw [h k hk hw]
theorem stp_c {S S' : Nat → Nat → Prop} {N : Nat} (h : ∀ k, k < c 4 → b32 W k → S k = S' k) : ∀ k, k < c 4 → b32 W k → stpS T c y N S k = stpS T c y N S' k := fun k hk hw => by
  unfold stpS; rw [h k hk hw]
theorem okS_c : ∀ d (S S' : Nat → Nat → Prop), (∀ k, k < c 4 → b32 W k → S k = S' k) → (okS T c y W g0 d S ↔ okS T c y W g0 d S') := by
  intro d
  induction d with
  | zero =>
    intro S S' h
    unfold okS
    exact forall_congr' fun k => forall_congr' fun hk => forall_congr' fun hw => by rw [h k hk hw]
  | succ d ih =>
    intro S S' h
    unfold okS
    exact exists_congr fun N => and_congr_right fun _ => and_congr (trs_c h) (ih _ _ (stp_c h))
theorem isF_c : ∀ d (S S' : Nat → Nat → Prop) f, (∀ k, k < c 4 → b32 W k → S k = S' k) → isF T c y W g0 d S f → isF T c y W g0 d S' f := by
  intro d
  induction d with
  | zero => intro S S' f h hf; exact hf
  | succ d ih =>
    intro S S' f h hf
    refine ⟨⟨hf.1.1, (trs_c h).mp hf.1.2.1, (okS_c d _ _ (stp_c h)).mp hf.1.2.2⟩, fun N hN z => hf.2.1 N hN ⟨(trs_c h).mpr z.1, (okS_c d _ _ (stp_c h)).mpr z.2⟩, ih _ _ _ (stp_c h) hf.2.2⟩
theorem m_seek (hG : 100000 ≤ E.2.2.1) (q1 : WfT T c) (hy : y ≤ 200) : ∀ d n st (I : Nat → Nat → Int32) (L : Nat → Nat → Int64), d < n → st + d ≤ 3 → I 137 = T → Laid I L T c y → I 163 36 = W → I 163 35 = nI g0 → (∀ k, k < c 4 → b32 W k → ∀ q, mSt L st k q → q < 4 * c 1) → ∃ I' L' f, (∀ k, k ≠ 142 → k ≠ 159 → I' k = I k) ∧ (∀ j, j < st → I' 159 j = I 159 j) ∧ (∀ k, ¬ Tmp k → k ≠ 158 → L' k = L k) ∧ (∀ j, j < 32 * (st + 1) → L' 158 j = L 158 j) ∧ Laid I' L' T c y ∧ (okS T c y W g0 d (fun k => mSt L st k) → isF T c y W g0 d (fun k => mSt L st k) f ∧ ∀ i, i < d → I' 159 (st + i) = nI (f i)) ∧ F_X12_seek E n (rr w 163) (nI st) (nI (st + d)) (Hw E w I L Q) = rtI (zb (okS T c y W g0 d (fun k => mSt L st k))) (Hw E w I' L' Q) := by
  intro d
  induction d with
  | zero =>
    intro n st I L hn hst hT hl h36 h35 hX
    obtain ⟨n, rfl⟩ : ∃ m, n = m + 1 := ⟨n - 1, by omega⟩
    subst hT
    refine ⟨I, L, fun _ => 0, fun _ _ _ => rfl, fun _ _ => rfl, fun _ _ _ => rfl, fun _ _ => rfl, hl, fun _ => ⟨trivial, fun i hi => absurd hi (by omega)⟩, ?_⟩
    have aa := m_areAll (E := E) (w := w) (I := I) (L := L) (Q := Q) (c := c) (W := W) (st := st) (g0 := g0) hG q1 h36 h35 (by omega) hX
    rw [F_X12_seek, Nat.add_zero, if_neg (not_not_intro rfl), o163, Option.bind_some, aa, cI_r, rtZ_zb]
    rfl
  | succ d ih =>
    intro n st I L hn hst hT hl h36 h35 hX
    obtain ⟨n, rfl⟩ : ∃ m, n = m + 1 := ⟨n - 1, by omega⟩
    have ne : ¬ nI st = nI (st + (d + 1)) := fun e => by have := (nI_eq (by omega) (by omega)).mp e; omega
    rw [F_X12_seek, if_pos ne]
    generalize eS : (fun k => mSt L st k) = S
    have eSk : ∀ k, S k = mSt L st k := fun k => by rw [← eS]
    refine lpE (σ := (Nat → Nat → Int32) × (Nat → Nat → Int64)) (Lp := fun g i s => L_X12_seek_13 E (F_X12_seek E n) (rr w 163) (nI st) (nI (st + (d + 1))) g (nI i) (Hw E w s.1 s.2 Q)) (Iv := fun i s => (∀ k, k ≠ 142 → k ≠ 159 → s.1 k = I k) ∧ (∀ j, j < st → s.1 159 j = I 159 j) ∧ (∀ k, ¬ Tmp k → k ≠ 158 → s.2 k = L k) ∧ (∀ j, j < 32 * (st + 1) → s.2 158 j = L 158 j) ∧ Laid s.1 s.2 T c y ∧ ∀ N, N < i → ¬ (trs T c y W N S ∧ okS T c y W g0 d (stpS T c y N S))) (Post := fun o => ∃ I' L' f, (∀ k, k ≠ 142 → k ≠ 159 → I' k = I k) ∧ (∀ j, j < st → I' 159 j = I 159 j) ∧ (∀ k, ¬ Tmp k → k ≠ 158 → L' k = L k) ∧ (∀ j, j < 32 * (st + 1) → L' 158 j = L 158 j) ∧ Laid I' L' T c y ∧ (okS T c y W g0 (d + 1) S → isF T c y W g0 (d + 1) S f ∧ ∀ i, i < d + 1 → I' 159 (st + i) = nI (f i)) ∧ o = rtI (zb (okS T c y W g0 (d + 1) S)) (Hw E w I' L' Q)) (N := 31) ?_ ?_ E.2.2.1 0 (I, L) (by omega) (by omega) ⟨fun _ _ _ => rfl, fun _ _ => rfl, fun _ _ _ => rfl, fun _ _ => rfl, hl, fun N hN => absurd hN (by omega)⟩
    · rintro g i ⟨I1, L1⟩ hi ⟨z1, z2, z3, z4, z5, z6⟩
      dsimp only at *
      generalize eA : up2 I1 159 st (nI i) = A
      have a1 : ∀ k, k ≠ 159 → A k = I1 k := fun k hk => by rw [← eA, up2_row _ _ hk]
      have a2 : A 159 st = nI i := by rw [← eA, up2_s]
      have a3 : ∀ j, j ≠ st → A 159 j = I1 159 j := fun j hj => by rw [← eA, up2_i _ _ _ hj]
      have A137 : A 137 = T := by rw [a1 137 (by decide), z1 137 (by decide) (by decide)]; exact hT
      have A36 : A 163 36 = W := by rw [a1 163 (by decide), z1 163 (by decide) (by decide)]; exact h36
      have A35 : A 163 35 = nI g0 := by rw [a1 163 (by decide), z1 163 (by decide) (by decide)]; exact h35
      have lA : Laid A L1 T c y := Laid_k (a1 163 (by decide)) (a1 142 (by decide)) rfl rfl z5
      have eM : ∀ k, k < c 4 → mSt L1 st k = S k := fun k hk => by
        have k4 : c 4 ≤ 8 := (q1.1 4 (by decide)).2
        rw [eSk]
        exact mX_c (fun j h1 h2 => z4 j (by omega))
      have eF : ∀ k, k < c 4 → b32 W k → (fun k => mSt L1 st k) k = S k := fun k hk _ => eM k hk
      obtain ⟨I2, L2, b1, b2, b3, b4, b5, b6⟩ := m_tries (E := E) (w := w) (I := A) (L := L1) (Q := Q) (c := c) (y := y) (W := W) (N := i) (st := st) hG (by rw [A137]; exact q1) (by rw [A137]; exact lA) A36 (by omega) (by omega) (fun k hk hw q hq => hX k hk hw q (by rw [eM k hk, eSk] at hq; exact hq))
      rw [A137] at b4 b5 b6
      rw [zb_c (trs_c (T := T) (c := c) (y := y) (W := W) (N := i) eF)] at b6
      have w1 : ∀ k, k ≠ 142 → k ≠ 159 → I2 k = I k := fun k h1 h2 => by rw [b1 k h1, a1 k h2]; exact z1 k h1 h2
      have w2 : ∀ j, j < st → I2 159 j = I 159 j := fun j hj => by rw [b1 159 (by decide), a3 j (by omega)]; exact z2 j hj
      have w3 : ∀ k, ¬ Tmp k → k ≠ 158 → L2 k = L k := fun k h1 h2 => by rw [b2 k h1 h2]; exact z3 k h1 h2
      have w4 : ∀ j, j < 32 * (st + 1) → L2 158 j = L 158 j := fun j hj => by rw [b3 j hj]; exact z4 j hj
      have st0 : L_X12_seek_13 E (F_X12_seek E n) (rr w 163) (nI st) (nI (st + (d + 1))) (g + 1) (nI i) (Hw E w I1 L1 Q) = if zb (trs T c y W i S) = 0 then L_X12_seek_13 E (F_X12_seek E n) (rr w 163) (nI st) (nI (st + (d + 1))) g (nI (i + 1)) (Hw E w I2 L2 Q) else cI (F_X12_seek E n (rr w 163) (nI (st + 1)) (nI (st + (d + 1))) (Hw E w I2 L2 Q)) fun v40 h40 => if v40 = 0 then L_X12_seek_13 E (F_X12_seek E n) (rr w 163) (nI st) (nI (st + (d + 1))) g (nI (i + 1)) h40 else rtZ 1 h40 := by
        rw [L_X12_seek_13]
        simp (disch := omega) only [Option.bind_some, Option.map_some, Option.join, cI_r, cL_r, cV_r, xI_r, xL_r, xV_r, xI_t, xL_t, xV_t, lt_r, rtZ_0, rtZ_1, rtZ_zb, m31, nI_leI, if_neg, gf163_34, pa159, ix_n, eA, o163, b6, nI_1]
      by_cases p : trs T c y W i S
      · have k4 : c 4 ≤ 8 := (q1.1 4 (by decide)).2
        have k1 : c 1 ≤ 60 := (q1.1 1 (by decide)).2
        have b5' := b5 ((trs_c eF).mpr p)
        have eN : ∀ k, k < c 4 → b32 W k → mSt L2 (st + 1) k = stpS T c y i S k := fun k hk hw => by
          funext q
          refine propext ?_
          show (q < 256 ∧ b256 (L2 158) (32 * (st + 1) + 4 * k) q) ↔ lw T c y k i (S k) q
          rw [← eM k hk]
          constructor
          · rintro ⟨h1, h2⟩
            exact (b5' k hk hw q h1).mp h2
          · intro h2
            have := lw_lt (fun q hq => hX k hk hw q (by rw [eM k hk, eSk] at hq; exact hq)) q h2
            exact ⟨by omega, (b5' k hk hw q (by omega)).mpr h2⟩
        have hX2 : ∀ k, k < c 4 → b32 W k → ∀ q, mSt L2 (st + 1) k q → q < 4 * c 1 := fun k hk hw q hq => by
          rw [eN k hk hw] at hq
          exact lw_lt (fun q hq => hX k hk hw q (by rw [eSk] at hq; exact hq)) q hq
        obtain ⟨I3, L3, f, r1, r2, r3, r4, r5, r6, r7⟩ := ih n (st + 1) I2 L2 (by omega) (by omega) (by rw [w1 137 (by decide) (by decide)]; exact hT) b4 (by rw [w1 163 (by decide) (by decide)]; exact h36) (by rw [w1 163 (by decide) (by decide)]; exact h35) hX2
        rw [show st + 1 + d = st + (d + 1) by omega, zb_c (okS_c d _ _ eN)] at r7
        have r2' : I3 159 st = nI i := by rw [r2 st (by omega), b1 159 (by decide)]; exact a2
        have v1 : ∀ k, k ≠ 142 → k ≠ 159 → I3 k = I k := fun k h1 h2 => by rw [r1 k h1 h2]; exact w1 k h1 h2
        have v2 : ∀ j, j < st → I3 159 j = I 159 j := fun j hj => by rw [r2 j (by omega)]; exact w2 j hj
        have v3 : ∀ k, ¬ Tmp k → k ≠ 158 → L3 k = L k := fun k h1 h2 => by rw [r3 k h1 h2]; exact w3 k h1 h2
        have v4 : ∀ j, j < 32 * (st + 1) → L3 158 j = L 158 j := fun j hj => by rw [r4 j (by omega)]; exact w4 j hj
        by_cases p2 : okS T c y W g0 d (stpS T c y i S)
        · right
          have r6' := r6 ((okS_c d _ _ eN).mpr p2)
          have yes : okS T c y W g0 (d + 1) S := ⟨i, hi, p, p2⟩
          refine ⟨I3, L3, fun j => if j = 0 then i else f (j - 1), v1, v2, v3, v4, r5, fun _ => ⟨⟨⟨hi, p, p2⟩, z6, ?_⟩, fun j hj => ?_⟩, ?_⟩
          · exact isF_c d _ _ _ eN r6'.1
          · dsimp only
            by_cases e : j = 0
            · rw [if_pos e, e]; exact r2'
            · rw [if_neg e]
              have := r6'.2 (j - 1) (by omega)
              rw [show st + 1 + (j - 1) = st + j by omega] at this
              exact this
          · show L_X12_seek_13 E (F_X12_seek E n) (rr w 163) (nI st) (nI (st + (d + 1))) (g + 1) (nI i) (Hw E w I1 L1 Q) = _
            rw [st0, zi_t p, r7, cI_r, zi_t p2, zb_t yes]
            rfl
        · left
          refine ⟨(I3, L3), ⟨v1, v2, v3, v4, r5, fun N hN => ?_⟩, ?_⟩
          · by_cases e : N = i
            · rw [e]; exact fun x => p2 x.2
            · exact z6 N (by omega)
          · show L_X12_seek_13 E (F_X12_seek E n) (rr w 163) (nI st) (nI (st + (d + 1))) (g + 1) (nI i) (Hw E w I1 L1 Q) = _
            rw [st0, zi_t p, r7, cI_r, zi_f p2]
      · left
        refine ⟨(I2, L2), ⟨w1, w2, w3, w4, b4, fun N hN => ?_⟩, ?_⟩
        · by_cases e : N = i
          · rw [e]; exact fun x => p x.1
          · exact z6 N (by omega)
        · show L_X12_seek_13 E (F_X12_seek E n) (rr w 163) (nI st) (nI (st + (d + 1))) (g + 1) (nI i) (Hw E w I1 L1 Q) = _
          rw [st0, zi_f p]
    · rintro g ⟨I1, L1⟩ ⟨z1, z2, z3, z4, z5, z6⟩
      dsimp only at *
      have no : ¬ okS T c y W g0 (d + 1) S := fun ⟨N, hN, x⟩ => z6 N hN x
      refine ⟨I1, L1, fun _ => 0, z1, z2, z3, z4, z5, fun x => absurd x no, ?_⟩
      show L_X12_seek_13 E (F_X12_seek E n) (rr w 163) (nI st) (nI (st + (d + 1))) (g + 1) (nI 31) (Hw E w I1 L1 Q) = _
      rw [L_X12_seek_13, m31, if_pos (nI_le (Nat.le_refl 31) (by decide)), zb_f no]
      rfl
end
