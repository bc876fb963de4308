/-! shortest: the reference -/
section
variable {E : Ev} {w : Wo} {I I1 I2 : Nat → Nat → Int32} {L L1 L2 : Nat → Nat → Int64} {Q : Nat → Nat → Option Nat} {c : Nat → Nat} {y : Nat} {W : Int32}
/-- the reference's set of a walker at a stage -/
def mSt (L : Nat → Nat → Int64) (st k : Nat) : Nat → Prop := mX L 158 (32 * st + 4 * k)
theorem mX_c {k a : Nat} (h : ∀ j, a ≤ j → j < a + 4 → L1 k j = L k j) : mX L1 k a = mX L k a := by
  funext q
  unfold mX b256
  refine propext (and_congr_right fun hq => ?_)
  rw [h _ (by omega) (by omega)]
theorem m_tries {N st : Nat} (hG : 100000 ≤ E.2.2.1) (q1 : WfT (I 137) c) (hl : Laid I L (I 137) c y) (h36 : I 163 36 = W) (hN : N ≤ 30) (hst : st ≤ 2) (hX : ∀ k, k < c 4 → b32 W k → ∀ q, mSt L st k q → q < 4 * c 1) : ∃ I' L', (∀ k, k ≠ 142 → I' k = I k) ∧ (∀ k, ¬ Tmp k → k ≠ 158 → L' k = L k) ∧ (∀ j, j < 32 * (st + 1) → L' 158 j = L 158 j) ∧ Laid I' L' (I 137) c y ∧ (trs (I 137) c y W N (fun k => mSt L st k) → ∀ k, k < c 4 → b32 W k → ∀ q, q < 256 → (b256 (L' 158) (32 * (st + 1) + 4 * k) q ↔ lw (I 137) c y k N (mSt L st k) q)) ∧ F_X12_tries E (rr w 163) (nI N) (nI st) (Hw E w I L Q) = rtI (zb (trs (I 137) c y W N (fun k => mSt L st k))) (Hw E w I' L' Q) := by
  have k4 : c 4 ≤ 8 := (q1.1 4 (by decide)).2
  have k1 : c 1 ≤ 60 := (q1.1 1 (by decide)).2
  have e4 := (q1.1 4 (by decide)).1
  rw [m_tries0 hN]
  refine lpE (σ := (Nat → Nat → Int32) × (Nat → Nat → Int64)) (Lp := fun g i s => L_X12_tries_118 E (rr w 163) (nI st) (lwK N) (lwN N) (lwA N) g (nI i) (Hw E w s.1 s.2 Q)) (Iv := fun i s => (∀ k, k ≠ 142 → s.1 k = I k) ∧ (∀ k, ¬ Tmp k → k ≠ 158 → s.2 k = L k) ∧ (∀ j, j < 32 * (st + 1) → s.2 158 j = L 158 j) ∧ Laid s.1 s.2 (I 137) c y ∧ ∀ k, k < i → b32 W k → (∃ q, lw (I 137) c y k N (mSt L st k) q) ∧ ∀ q, q < 256 → (b256 (s.2 158) (32 * (st + 1) + 4 * k) q ↔ lw (I 137) c y k N (mSt L st k) q)) (Post := fun o => ∃ I' L', (∀ k, k ≠ 142 → I' k = I k) ∧ (∀ k, ¬ Tmp k → k ≠ 158 → L' k = L k) ∧ (∀ j, j < 32 * (st + 1) → L' 158 j = L 158 j) ∧ Laid I' L' (I 137) c y ∧ (trs (I 137) c y W N (fun k => mSt L st k) → ∀ k, k < c 4 → b32 W k → ∀ q, q < 256 → (b256 (L' 158) (32 * (st + 1) + 4 * k) q ↔ lw (I 137) c y k N (mSt L st k) q)) ∧ o = rtI (zb (trs (I 137) c y W N (fun k => mSt L st k))) (Hw E w I' L' Q)) (N := c 4) ?_ ?_ E.2.2.1 0 (I, L) (by omega) (by omega) ⟨fun _ _ => rfl, fun _ _ _ => rfl, fun _ _ => rfl, hl, fun k hk => absurd hk (by omega)⟩
  · rintro g i ⟨I1, L1⟩ hi ⟨z1, z2, z3, z4, z5⟩
    dsimp only at *
    have i137 : I1 137 = I 137 := z1 137 (by decide)
    have e4' : I1 137 4 = nI (c 4) := by rw [i137]; exact e4
    have e36 : I1 163 36 = W := by rw [z1 163 (by decide)]; exact h36
    by_cases p : b32 W i
    · have w1 : ¬ ((W >>> (nI i &&& 31)) &&& 1) = 0 := fun z => (and1_0 _).mp z ((bit32 (by omega)).mpr p)
      have em := f_empty (E := E) (w := w) (I := I1) (L := L1) (Q := Q) (k := 158) (a := 32 * (st + 1) + 4 * i) hG la158 (by omega)
      have o1 : ∀ k, k ≠ 158 → rs L1 158 (32 * (st + 1) + 4 * i) 4 (fun _ => 0) k = L1 k := fun k hk => rs_row _ _ hk
      have o2 : ∀ j, ¬ (32 * (st + 1) + 4 * i ≤ j ∧ j < 32 * (st + 1) + 4 * i + 4) → rs L1 158 (32 * (st + 1) + 4 * i) 4 (fun _ => 0) 158 j = L1 158 j := fun j hj => rs_out _ _ hj
      have o3 : ∀ q, q < 256 → ¬ b256 (rs L1 158 (32 * (st + 1) + 4 * i) 4 (fun _ => 0) 158) (32 * (st + 1) + 4 * i) q := fun q hq z => bg_0 ((rs_b hq).mp z)
      generalize rs L1 158 (32 * (st + 1) + 4 * i) 4 (fun _ => 0) = L2 at *
      have eS : mX L2 158 (32 * st + 4 * i) = mSt L st i := mX_c (fun j h1 h2 => by rw [o2 j (by omega)]; exact z3 j (by omega))
      have la2 : Laid I1 L2 (I 137) c y := Laid_k rfl rfl (o1 140 (by decide)) (o1 141 (by decide)) z4
      obtain ⟨I3, L3, ⟨f1, f2, f3⟩, f4, f5, f6⟩ := m_word (E := E) (w := w) (I := I1) (L := L2) (Q := Q) (c := c) (y := y) (k := i) (kf := 158) (nf := 128) (af := 32 * st + 4 * i) (kt := 158) (nt := 128) (at0 := 32 * (st + 1) + 4 * i) (kk := lwK N) (nn := lwN N) (aa := lwA N) hG (by rw [i137]; exact q1) (by rw [i137]; exact la2) hi ⟨la158, by omega, la158, by omega, ⟨by unfold Tmp; omega, by decide⟩, ⟨by unfold Tmp; omega, by decide⟩, Or.inr (Or.inl (by omega))⟩ (fun q hq => by rw [eS] at hq; exact hX i hi p q hq) (lw_wf hN)
      rw [i137] at f4 f5
      rw [eS] at f5
      have f5' : ∀ q, q < 256 → (b256 (L3 158) (32 * (st + 1) + 4 * i) q ↔ lw (I 137) c y i N (mSt L st i) q) := fun q hq => by
        rw [f5 q hq]
        exact ⟨fun z => z.elim (fun z => absurd z (o3 q hq)) id, Or.inr⟩
      have ino := f_isNone (E := E) (w := w) (I := I3) (L := L3) (Q := Q) (k := 158) (a := 32 * (st + 1) + 4 * i) la158 (by omega)
      have eno : (∀ q, q < 256 → ¬ b256 (L3 158) (32 * (st + 1) + 4 * i) q) ↔ ¬ ∃ q, lw (I 137) c y i N (mSt L st i) q := by
        constructor
        · rintro x ⟨q, hq⟩
          have := lw_lt (hX i hi p) q hq
          exact x q (by omega) ((f5' q (by omega)).mpr hq)
        · intro x q hq z
          exact x ⟨q, (f5' q hq).mp z⟩
      have st' : L_X12_tries_118 E (rr w 163) (nI st) (lwK N) (lwN N) (lwA N) (g + 1) (nI i) (Hw E w I1 L1 Q) = if zb (¬ ∃ q, lw (I 137) c y i N (mSt L st i) q) = 0 then L_X12_tries_118 E (rr w 163) (nI st) (lwK N) (lwN N) (lwA N) g (nI (i + 1)) (Hw E w I3 L3 Q) else rtI 0 (Hw E w I3 L3 Q) := by
        rw [zb_c eno] at ino
        rw [L_X12_tries_118]
        simp (disch := omega) only [Option.bind_some, Option.map_some, Option.join, cI_r, cL_r, cV_r, xI_r, xL_r, xV_r, xI_t, xL_t, xV_t, lt_r, rtZ_0, rtZ_1, rtZ_zb, gf163_0, m4, m8, ga137, ix_n, e4', nI_leI, if_neg, gf163_36, e36, if_pos w1, pk_mul, nI_add, nI_1, show 4 * (8 * (st + 1) + i) = 32 * (st + 1) + 4 * i by omega, show 4 * (8 * st + i) = 32 * st + 4 * i by omega, gf163_33, em, o163, f6, ino]
      have w1' : ∀ k, k ≠ 142 → I3 k = I k := fun k hk => by rw [f1 k hk]; exact z1 k hk
      have w2' : ∀ k, ¬ Tmp k → k ≠ 158 → L3 k = L k := fun k h1 h2 => by rw [f2 k h1 h2, o1 k h2]; exact z2 k h1 h2
      have w3' : ∀ j, j < 32 * (st + 1) → L3 158 j = L 158 j := fun j hj => by rw [f3 j (by omega), o2 j (by omega)]; exact z3 j hj
      by_cases p2 : ∃ q, lw (I 137) c y i N (mSt L st i) q
      · left
        refine ⟨(I3, L3), ⟨w1', w2', w3', f4, fun k hk hw => ?_⟩, ?_⟩
        · by_cases e : k = i
          · subst e; exact ⟨p2, f5'⟩
          · have zk := z5 k (by omega) hw
            refine ⟨zk.1, fun q hq => ?_⟩
            rw [← zk.2 q hq]
            show b256 (L3 158) _ q ↔ b256 (L1 158) _ q
            unfold b256
            rw [f3 _ (by omega), o2 _ (by omega)]
        · show L_X12_tries_118 E (rr w 163) (nI st) (lwK N) (lwN N) (lwA N) (g + 1) (nI i) (Hw E w I1 L1 Q) = _
          rw [st', zi_f (fun x => x p2)]
      · right
        have no : ¬ trs (I 137) c y W N (fun k => mSt L st k) := fun x => p2 (x i hi p)
        refine ⟨I3, L3, w1', w2', w3', f4, fun x => absurd x no, ?_⟩
        show L_X12_tries_118 E (rr w 163) (nI st) (lwK N) (lwN N) (lwA N) (g + 1) (nI i) (Hw E w I1 L1 Q) = _
        rw [st', zi_t p2, zb_f no]
    · have w0 : ((W >>> (nI i &&& 31)) &&& 1) = 0 := (and1_0 _).mpr (fun z => p ((bit32 (by omega)).mp z))
      left
      refine ⟨(I1, L1), ⟨z1, z2, z3, z4, fun k hk hw => ?_⟩, ?_⟩
      · by_cases e : k = i
        · subst e; exact absurd hw p
        · exact z5 k (by omega) hw
      · show L_X12_tries_118 E (rr w 163) (nI st) (lwK N) (lwN N) (lwA N) (g + 1) (nI i) (Hw E w I1 L1 Q) = _
        rw [L_X12_tries_118]
        simp (disch := omega) only [Option.bind_some, Option.map_some, Option.join, cI_r, cL_r, cV_r, xI_r, xL_r, xV_r, xI_t, xL_t, xV_t, lt_r, rtZ_0, rtZ_1, rtZ_zb, gf163_0, m4, ga137, ix_n, e4', nI_leI, if_neg, gf163_36, e36, w0, not_true_eq_false, if_false, nI_1]
  · rintro g ⟨I1, L1⟩ ⟨z1, z2, z3, z4, z5⟩
    dsimp only at *
    have i137 : I1 137 = I 137 := z1 137 (by decide)
    have e4' : I1 137 4 = nI (c 4) := by rw [i137]; exact e4
    have yes : trs (I 137) c y W N (fun k => mSt L st k) := fun k hk hw => (z5 k hk hw).1
    refine ⟨I1, L1, z1, z2, z3, z4, fun _ k hk hw => (z5 k hk hw).2, ?_⟩
    show L_X12_tries_118 E (rr w 163) (nI st) (lwK N) (lwN N) (lwA N) (g + 1) (nI (c 4)) (Hw E w I1 L1 Q) = _
    rw [L_X12_tries_118, zb_t yes]
    simp (disch := omega) only [Option.bind_some, Option.map_some, Option.join, cI_r, cL_r, cV_r, xI_r, xL_r, xV_r, xI_t, xL_t, xV_t, lt_r, rtZ_0, rtZ_1, rtZ_zb, gf163_0, m4, ga137, ix_n, e4', nI_leI, if_pos]
theorem m_areAll {st g0 : Nat} (hG : 100000 ≤ E.2.2.1) (q1 : WfT (I 137) c) (h36 : I 163 36 = W) (h35 : I 163 35 = nI g0) (hst : st ≤ 3) (hX : ∀ k, k < c 4 → b32 W k → ∀ q, mSt L st k q → q < 4 * c 1) : F_X12_areAll E (rr w 163) (nI st) (Hw E w I L Q) = rtI (zb (∀ k, k < c 4 → b32 W k → ∀ s, mSt L st k s → spl (I 137) s = nI g0)) (Hw E w I L Q) := by
  have k4 : c 4 ≤ 8 := (q1.1 4 (by decide)).2
  have k1 : c 1 ≤ 60 := (q1.1 1 (by decide)).2
  have e4 := (q1.1 4 (by decide)).1
  unfold F_X12_areAll
  generalize hA : (∀ k, k < c 4 → b32 W k → ∀ s, mSt L st k s → spl (I 137) s = nI g0) = A
  have inner : ∀ (i : Nat) (K : Hp → Rs), i < c 4 → ((b32 W i → ∀ s, mSt L st i s → spl (I 137) s = nI g0) ∧ L_X12_areAll_14 E K (rr w 163) (nI st) (nI i) E.2.2.1 0 (Hw E w I L Q) = K (Hw E w I L Q)) ∨ (¬ (b32 W i → ∀ s, mSt L st i s → spl (I 137) s = nI g0) ∧ L_X12_areAll_14 E K (rr w 163) (nI st) (nI i) E.2.2.1 0 (Hw E w I L Q) = rtI 0 (Hw E w I L Q)) := by
    intro i K hi
    by_cases p : b32 W i
    · have w1 : ((W >>> (nI i &&& 31)) &&& 1) = 1 := (bit32 (by omega)).mpr p
      refine lpE (σ := Unit) (Lp := fun g s _ => L_X12_areAll_14 E K (rr w 163) (nI st) (nI i) g (nI s) (Hw E w I L Q)) (Iv := fun s _ => ∀ s', s' < s → mSt L st i s' → spl (I 137) s' = nI g0) (Post := fun o => ((b32 W i → ∀ s, mSt L st i s → spl (I 137) s = nI g0) ∧ o = K (Hw E w I L Q)) ∨ (¬ (b32 W i → ∀ s, mSt L st i s → spl (I 137) s = nI g0) ∧ o = rtI 0 (Hw E w I L Q))) (N := 240) ?_ ?_ E.2.2.1 0 () (by omega) (by omega) (fun j hj => absurd hj (by omega))
      · intro g s _ hs hn
        have hh := f_has (E := E) (w := w) (I := I) (L := L) (Q := Q) (k := 158) (a := 32 * st + 4 * i) (s := s) la158 (by omega) (by omega)
        have st' : L_X12_areAll_14 E K (rr w 163) (nI st) (nI i) (g + 1) (nI s) (Hw E w I L Q) = if zb (b256 (L 158) (32 * st + 4 * i) s) = 0 then L_X12_areAll_14 E K (rr w 163) (nI st) (nI i) g (nI (s + 1)) (Hw E w I L Q) else if spl (I 137) s = nI g0 then L_X12_areAll_14 E K (rr w 163) (nI st) (nI i) g (nI (s + 1)) (Hw E w I L Q) else rtI 0 (Hw E w I L Q) := by
          rw [L_X12_areAll_14]
          simp (disch := omega) only [Option.bind_some, Option.map_some, Option.join, cI_r, cL_r, cV_r, xI_r, xL_r, xV_r, xI_t, xL_t, xV_t, lt_r, rtZ_0, rtZ_1, rtZ_zb, m240, nI_leI, if_neg, gf163_36, h36, w1, not_true_eq_false, if_false, gf163_33, m4, m8, pk_mul, nI_add, show 4 * (8 * st + i) = 32 * st + 4 * i by omega, hh, o163, f_placeOf, gf163_35, h35, nI_1]
        have iff' : mSt L st i s ↔ b256 (L 158) (32 * st + 4 * i) s := ⟨fun z => z.2, fun z => ⟨by omega, z⟩⟩
        by_cases p1 : b256 (L 158) (32 * st + 4 * i) s
        · by_cases p2 : spl (I 137) s = nI g0
          · left
            refine ⟨(), fun s' hs' => ?_, ?_⟩
            · by_cases e : s' = s
              · rw [e]; exact fun _ => p2
              · exact hn s' (by omega)
            · show L_X12_areAll_14 E K (rr w 163) (nI st) (nI i) (g + 1) (nI s) (Hw E w I L Q) = _
              rw [st', zi_t p1, if_pos p2]
          · right; right
            refine ⟨fun x => p2 (x p s (iff'.mpr p1)), ?_⟩
            show L_X12_areAll_14 E K (rr w 163) (nI st) (nI i) (g + 1) (nI s) (Hw E w I L Q) = _
            rw [st', zi_t p1, if_neg p2]
        · left
          refine ⟨(), fun s' hs' => ?_, ?_⟩
          · by_cases e : s' = s
            · rw [e]; exact fun x => absurd (iff'.mp x) p1
            · exact hn s' (by omega)
          · show L_X12_areAll_14 E K (rr w 163) (nI st) (nI i) (g + 1) (nI s) (Hw E w I L Q) = _
            rw [st', zi_f p1]
      · intro g _ hn
        left
        refine ⟨fun _ s hs => hn s (by have := hX i hi p s hs; omega) hs, ?_⟩
        show L_X12_areAll_14 E K (rr w 163) (nI st) (nI i) (g + 1) (nI 240) (Hw E w I L Q) = _
        rw [L_X12_areAll_14, m240, if_pos (nI_le (Nat.le_refl 240) (by decide))]
    · have w0 : ¬ ((W >>> (nI i &&& 31)) &&& 1) = 1 := fun z => p ((bit32 (by omega)).mp z)
      left
      refine ⟨fun x => absurd x p, ?_⟩
      obtain ⟨G, hGG⟩ : ∃ G, E.2.2.1 = G + 1 := ⟨E.2.2.1 - 1, by omega⟩
      rw [hGG, L_X12_areAll_14, m240, if_neg (by decide), gf163_36, Option.bind_some, h36, if_pos w0]
  refine lpE (σ := Unit) (Lp := fun g i _ => L_X12_areAll_2 E (rr w 163) (nI st) g (nI i) (Hw E w I L Q)) (Iv := fun i _ => ∀ k, k < i → b32 W k → ∀ s, mSt L st k s → spl (I 137) s = nI g0) (Post := fun o => o = rtI (zb A) (Hw E w I L Q)) (N := c 4) ?_ ?_ E.2.2.1 0 () (by omega) (by omega) (fun j hj => absurd hj (by omega))
  · intro g i _ hi hn
    have st' : L_X12_areAll_2 E (rr w 163) (nI st) (g + 1) (nI i) (Hw E w I L Q) = L_X12_areAll_14 E (fun h2 => L_X12_areAll_2 E (rr w 163) (nI st) g (nI (i + 1)) h2) (rr w 163) (nI st) (nI i) E.2.2.1 0 (Hw E w I L Q) := by
      rw [L_X12_areAll_2]
      simp (disch := omega) only [Option.bind_some, Option.map_some, Option.join, cI_r, cL_r, cV_r, xI_r, xL_r, xV_r, xI_t, xL_t, xV_t, lt_r, rtZ_0, rtZ_1, rtZ_zb, gf163_0, m4, ga137, ix_n, e4, nI_leI, if_neg, nI_1]
    rcases inner i (fun h2 => L_X12_areAll_2 E (rr w 163) (nI st) g (nI (i + 1)) h2) hi with ⟨h1, h2⟩ | ⟨h1, h2⟩
    · left
      refine ⟨(), fun k hk => ?_, ?_⟩
      · by_cases e : k = i
        · rw [e]; exact h1
        · exact hn k (by omega)
      · show L_X12_areAll_2 E (rr w 163) (nI st) (g + 1) (nI i) (Hw E w I L Q) = _
        rw [st', h2]
    · right
      show L_X12_areAll_2 E (rr w 163) (nI st) (g + 1) (nI i) (Hw E w I L Q) = _
      rw [st', h2, zb_f (fun x => h1 (by rw [← hA] at x; exact x i hi))]
  · intro g _ hn
    show L_X12_areAll_2 E (rr w 163) (nI st) (g + 1) (nI (c 4)) (Hw E w I L Q) = _
    rw [L_X12_areAll_2, zb_t (show A by rw [← hA]; exact hn)]
    simp (disch := omega) only [Option.bind_some, Option.map_some, Option.join, cI_r, cL_r, cV_r, xI_r, xL_r, xV_r, xI_t, xL_t, xV_t, lt_r, rtZ_0, rtZ_1, rtZ_zb, gf163_0, m4, ga137, ix_n, e4, nI_leI, if_pos]
end
