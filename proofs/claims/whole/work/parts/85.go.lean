/-! steps: clearNow, begin, go -/
section
variable {E : Ev} {w : Wo} {I : Nat → Nat → Int32} {L : Nat → Nat → Int64} {Q : Nat → Nat → Option Nat} {c : Nat → Nat} {T : Ro} {a b t u : Nat}
theorem c_clearNow {n : Nat} (hG : 100000 ≤ E.2.2.1) (hA : Abtu Q a b t u) (hn : I 48 1 = nI n) (hn2 : n ≤ 120) (hl : ∀ i, i < n → ∃ j, I a i = nI j ∧ j < 120) (hz : ∀ j, j < 120 → ¬ L t j = 0 → ∃ i, i < n ∧ I a i = nI j) : ∃ L', (∀ k, k ≠ t → L' k = L k) ∧ (∀ j, j < 120 → L' t j = 0) ∧ F_X7_clearNow E (rr w 48) (Hw E w I L Q) = rtV (Hw E w (up2 I 48 1 0) L' Q) := by
  have gg := fun (I : Nat → Nat → Int32) (L : Nat → Nat → Int64) => hA.g (E := E) (w := w) (I := I) (L := L)
  have ia := (hA.ia (w := w)).1
  have lt' := (hA.la (w := w)).1
  unfold F_X7_clearNow
  refine lpK2 (σ := Nat → Nat → Int64) (Lp := fun g i s => L_X7_clearNow_2 E (rr w 48) g (nI i) (Hw E w I s Q)) (K := fun s => rtV (Hw E w (up2 I 48 1 0) s Q)) (Iv := fun i s => (∀ k, k ≠ t → s k = L k) ∧ ∀ j, j < 120 → ¬ s t j = 0 → ∃ i', i ≤ i' ∧ i' < n ∧ I a i' = nI j) (N := n) (g := E.2.2.1) (i := 0) (s := L) ?_ ?_ ?_ (by omega) (by omega) ⟨fun _ _ => rfl, fun j hj z => by obtain ⟨i, h1, h2⟩ := hz j hj z; exact ⟨i, by omega, h1, h2⟩⟩
  · rintro L' ⟨z1, z2⟩ ee
    exact ⟨L', z1, fun j hj => Classical.not_not.mp (fun z => by obtain ⟨i, h1, h2, _⟩ := z2 j hj z; omega), ee⟩
  · rintro g i L1 hi ⟨z1, z2⟩
    obtain ⟨j0, e0, h0⟩ := hl i hi
    refine ⟨up2 L1 t j0 0, ⟨fun k hk => by rw [up2_row _ _ hk]; exact z1 k hk, fun j hj z => ?_⟩, ?_⟩
    · by_cases e : j = j0
      · rw [e, up2_s] at z; exact absurd rfl z
      · rw [up2_i _ _ _ e] at z
        obtain ⟨i', h1, h2, h3⟩ := z2 j hj z
        refine ⟨i', ?_, h2, h3⟩
        have : i' ≠ i := fun ei => e ((nI_eq (by omega) (by omega)).mp (by rw [← h3, ei, e0]))
        omega
    · show L_X7_clearNow_2 E (rr w 48) (g + 1) (nI i) (Hw E w I L1 Q) = _
      rw [L_X7_clearNow_2]
      simp (disch := omega) only [Option.bind_some, Option.map_some, Option.join, cI_r, cL_r, cV_r, xI_r, xL_r, xV_r, xI_t, xL_t, xV_t, lt_r, rtZ_0, rtZ_1, rtZ_zb, gf48_1, hn, nI_leI, if_neg, (gg I L1).1, (gg I L1).2.2.1, ia.ga, ix_n, e0, lt'.pa, nI_1]
  · rintro g L1 _
    show L_X7_clearNow_2 E (rr w 48) (g + 1) (nI n) (Hw E w I L1 Q) = _
    rw [L_X7_clearNow_2]
    simp (disch := omega) only [Option.bind_some, Option.map_some, Option.join, cI_r, cL_r, cV_r, xI_r, xL_r, xV_r, xI_t, xL_t, xV_t, lt_r, rtZ_0, rtZ_1, rtZ_zb, gf48_1, hn, nI_leI, if_pos, pf48_1]
/-- where the steps stand: a row of arrows, tags; the other rows clean -/
def Cur (B : Nat) (I : Nat → Ro) (L : Nat → Nat → Int64) (Q : Nat → Nat → Option Nat) (a b t u n : Nat) : Prop := Abtu Q a b t u ∧ (∃ z, Q 48 7 = some z) ∧ I 48 1 = nI n ∧ n ≤ 120 ∧ I 48 4 = 0 ∧ (∀ i, i < n → ∃ j, I a i = nI j ∧ j < B) ∧ (∀ i j, i < n → j < n → I a i = I a j → i = j) ∧ (∀ j, j < 120 → ¬ L t j = 0 → ∃ i, i < n ∧ I a i = nI j) ∧ ∀ j, j < 120 → L u j = 0
theorem Cur.st {B n : Nat} (hB : B ≤ 120) (h : Cur B I L Q a b t u n) : StepsR I L Q := by
  obtain ⟨h1, h2, h3, h4, h5, h6, h7, h8, h9⟩ := h
  obtain ⟨A1, A2, A3, A4, A5, A6⟩ := h1
  refine ⟨a, t, n, ?_, ?_, h2, h3, h4, h5, fun i hi => ?_, fun j hj hn => ?_, fun j hj => ?_⟩
  · rcases A5 with ⟨rfl, rfl⟩ | ⟨rfl, rfl⟩
    · exact Or.inl ⟨A1, A2, rfl⟩
    · exact Or.inr ⟨A1, A2, rfl⟩
  · rcases A6 with ⟨rfl, rfl⟩ | ⟨rfl, rfl⟩
    · exact Or.inl ⟨A3, A4, rfl⟩
    · exact Or.inr ⟨A3, A4, rfl⟩
  · obtain ⟨j, e, hj⟩ := h6 i hi; exact ⟨j, e, by omega⟩
  · exact Classical.not_not.mp (fun z => by obtain ⟨i, hi, e⟩ := h8 j hj z; exact hn i hi e)
  · have : 102 - t = u := by omega
    rw [this]; exact h9 j hj
theorem c_begin {fr : Nat} {x2 x3 : Int32} {lens : Int64} (hG : 100000 ≤ E.2.2.1) (h : StepsR I L Q) : ∃ a b t u I' L' Q', Cur 0 I' L' Q' a b t u 0 ∧ (∀ j, j < 120 → L' t j = 0) ∧ I' 48 8 = x2 ∧ I' 48 9 = x3 ∧ L' 48 10 = lens ∧ Q' 48 7 = some fr ∧ (∀ k, k ≠ 48 → I' k = I k) ∧ (∀ k, k ≠ 48 → k ≠ 50 → k ≠ 52 → L' k = L k) ∧ (∀ k, k ≠ 48 → Q' k = Q k) ∧ F_X7_begin E (rr w 48) (rr w fr) x2 x3 lens (Hw E w I L Q) = rtV (Hw E w I' L' Q') := by
  obtain ⟨a, t, n, A1, A2, h2, h3, h4, h5, h6, h7, h8⟩ := h
  have hA : ∃ b u, Abtu Q a b t u := by
    rcases A1 with ⟨e1, e2, e3⟩ | ⟨e1, e2, e3⟩ <;> rcases A2 with ⟨f1, f2, f3⟩ | ⟨f1, f2, f3⟩ <;> subst e3 <;> subst f3
    · exact ⟨51, 52, e1, e2, f1, f2, Or.inl ⟨rfl, rfl⟩, Or.inl ⟨rfl, rfl⟩⟩
    · exact ⟨51, 50, e1, e2, f1, f2, Or.inl ⟨rfl, rfl⟩, Or.inr ⟨rfl, rfl⟩⟩
    · exact ⟨49, 52, e1, e2, f1, f2, Or.inr ⟨rfl, rfl⟩, Or.inl ⟨rfl, rfl⟩⟩
    · exact ⟨49, 50, e1, e2, f1, f2, Or.inr ⟨rfl, rfl⟩, Or.inr ⟨rfl, rfl⟩⟩
  obtain ⟨b, u, hA⟩ := hA
  have nn := hA.n
  have eu : 102 - t = u := by have := hA.2.2.2.2.2; omega
  obtain ⟨L1, b1, b2, b3⟩ := c_clearNow (E := E) (w := w) (I := I) (L := L) (Q := Q) hG hA h3 h4 (fun i hi => h6 i hi) (fun j hj z => by
    apply Classical.byContradiction
    intro y
    exact z (h7 j hj (fun i hi e => y ⟨i, hi, e⟩)))
  generalize eI : up2 (up2 (up2 I 48 1 0) 48 8 x2) 48 9 x3 = I'
  generalize eL : up2 L1 48 10 lens = L'
  generalize eQ : up2 Q 48 7 (some fr) = Q'
  have hI : ∀ k, k ≠ 48 → I' k = I k := fun k hk => by rw [← eI, up2_row _ _ hk, up2_row _ _ hk, up2_row _ _ hk]
  have hI' : ∀ i, i ≠ 1 → i ≠ 8 → i ≠ 9 → I' 48 i = I 48 i := fun i g1 g2 g3 => by rw [← eI, up2_i _ _ _ g3, up2_i _ _ _ g2, up2_i _ _ _ g1]
  have hL : ∀ k, k ≠ 48 → L' k = L1 k := fun k hk => by rw [← eL, up2_row _ _ hk]
  have hQ : ∀ i, i ≠ 7 → Q' 48 i = Q 48 i := fun i hi => by rw [← eQ, up2_i _ _ _ hi]
  refine ⟨a, b, t, u, I', L', Q', ⟨⟨(hQ 2 (by decide)).trans hA.1, (hQ 5 (by decide)).trans hA.2.1, (hQ 3 (by decide)).trans hA.2.2.1, (hQ 6 (by decide)).trans hA.2.2.2.1, hA.2.2.2.2⟩, ⟨fr, by rw [← eQ, up2_s]⟩, by rw [← eI, up2_i _ _ _ (by decide), up2_i _ _ _ (by decide), up2_s]; rfl, by omega, by rw [hI' 4 (by decide) (by decide) (by decide)]; exact h5, fun i hi => absurd hi (by omega), fun i j hi => absurd hi (by omega), fun j hj z => ?_, fun j hj => ?_⟩, fun j hj => ?_, by rw [← eI, up2_i _ _ _ (by decide), up2_s], by rw [← eI, up2_s], by rw [← eL, up2_s], by rw [← eQ, up2_s], hI, fun k g1 g2 g3 => ?_, fun k hk => by rw [← eQ, up2_row _ _ hk], ?_⟩
  · rw [hL t (by omega), b2 j hj] at z; exact absurd rfl z
  · rw [hL u (by omega), b1 u (by omega), ← eu]; exact h8 j hj
  · rw [hL t (by omega)]; exact b2 j hj
  · have ht := hA.2.2.2.2.2
    rw [hL k g1, b1 k (by omega)]
  · unfold F_X7_begin
    simp only [Option.bind_some, Option.map_some, Option.join, cI_r, cL_r, cV_r, xI_r, xL_r, xV_r, xI_t, xL_t, xV_t, lt_r, rtZ_0, rtZ_1, rtZ_zb, o48, b3, pf48_7, pf48_8, pf48_9, pf48_10, eI, eL, eQ]
/-- from where the next ON goes: starts, and arrows with their tags -/
def Zf (R : Ro) (st en : Nat) (G : Nat → Int64) (s l : Nat) : Prop := (∃ i, st ≤ i ∧ i < en ∧ R i = nI s ∧ s < 240 ∧ l = 0) ∨ ∃ x, x < 120 ∧ s = 2 * x ∧ b64 (G x) l
def mvB (lens : Int64) (ln l l' : Nat) : Prop := if lens = 0 then l' = l else l' = l + ln ∧ b64 lens l'
theorem shl64 : ∀ (x : Int64) (k j : Nat), k < 64 → (b64 (x <<< ((nI k).toInt64 &&& 63)) j ↔ k ≤ j ∧ j < 64 ∧ b64 x (j - k)) := by
  intro x k j hk
  unfold b64
  have e : (x <<< ((nI k).toInt64 &&& 63)).toBitVec = x.toBitVec <<< k := by
    show x.toBitVec <<< (((nI k).toInt64 &&& 63).toBitVec.smod 64) = _
    rw [BitVec.shiftLeft_eq', sm64 k hk]
  rw [e, BitVec.getLsbD_shiftLeft]
  simp only [Bool.and_eq_true, decide_eq_true_eq, Bool.not_eq_true', decide_eq_false_iff_not, Nat.not_lt]
  exact ⟨fun z => ⟨z.1.2, z.1.1, z.2⟩, fun z => ⟨⟨z.2.1, z.1⟩, z.2.2⟩⟩
theorem cmV_b {lens tag : Int64} {ln l' : Nat} (h : ln < 100) : b64 (cmV lens tag (nI ln)) l' ↔ ∃ l, b64 tag l ∧ mvB lens ln l l' := by
  unfold cmV mvB
  by_cases c0 : lens = 0
  · simp only [c0, if_true]
    exact ⟨fun z => ⟨l', z, rfl⟩, fun ⟨l, z, e⟩ => e ▸ z⟩
  · simp only [c0, if_false]
    by_cases c1 : 64 ≤ ln
    · rw [if_pos (show (64 : Int32) ≤ nI ln from nI_le c1 (by omega))]
      exact ⟨fun z => absurd z b64_0, fun ⟨l, z, e, y⟩ => by have := b64_lt y; omega⟩
    · rw [if_neg (show ¬ (64 : Int32) ≤ nI ln from nI_ge (b := 64) (by omega) (by decide)), b64_and, shl64 _ _ _ (by omega)]
      constructor
      · rintro ⟨⟨h1, h2, h3⟩, h4⟩; exact ⟨l' - ln, h3, by omega, h4⟩
      · rintro ⟨l, h1, h2, h3⟩
        have := b64_lt h3
        exact ⟨⟨by omega, this, by rw [show l' - ln = l by omega]; exact h1⟩, h3⟩
def wln (T : Ro) (j : Nat) : Nat := tn (T (93 + 6 * (j / 2)))
theorem wln_n {j : Nat} (q1 : WfT T c) (hj : j < 2 * c 1) : T (93 + 6 * (j / 2)) = nI (wln T j) ∧ 1 ≤ wln T j ∧ wln T j < 100 := by
  have := bd_tn (by decide) (q1.2.2.1 (j / 2) (by omega)).2.2.2.2.1
  exact ⟨this.2.2, this.1, by have := this.2.1; unfold wln; omega⟩
/-- the loops of go -/
def GoS (y : Nat) (I I1 : Nat → Nat → Int32) (L L1 : Nat → Nat → Int64) (T : Ro) (c : Nat → Nat) (b u m : Nat) : Prop := (∀ k, k ≠ 38 → k ≠ 48 → k ≠ b → I1 k = I k) ∧ (∀ i, i ≠ 4 → I1 48 i = I 48 i) ∧ (∀ k, k ≠ 39 → k ≠ u → L1 k = L k) ∧ MapY I1 L1 T c y ∧ I1 48 4 = nI m ∧ Lst (2 * c 1) (I1 b) (L1 u) m
theorem c_goStep {y s m : Nat} {tag lens : Int64} {I1 : Nat → Nat → Int32} {L1 : Nat → Nat → Int64} (hG : 100000 ≤ E.2.2.1) (q1 : WfT T c) (q2 : LandR I T c) (hA : Abtu Q a b t u) (hy : y ≤ 200) (hs : s < 4 * c 1) (hln : L 48 10 = lens) (h : GoS y I I1 L L1 T c b u m) : ∃ I2 L2 I3 L3 mz, (∀ k, k ≠ 38 → I2 k = I1 k) ∧ (∀ k, k ≠ 39 → L2 k = L1 k) ∧ GoS y I I3 L L3 T c b u mz ∧ (∀ j, j < 120 → ∀ l, (b64 (L3 u j) l ↔ b64 (L1 u j) l ∨ (isOn T c (thr0 T c y) s j ∧ b64 (cmV lens tag (T (93 + 6 * (j / 2)))) l))) ∧ F_X10_look E (rr w 32) (nI s) (Hw E w I1 L1 Q) = rtI (nI (8 * s)) (Hw E w I2 L2 Q) ∧ F_X7_carry E (rr w 48) (nI (8 * s)) tag (Hw E w I2 L2 Q) = rtV (Hw E w I3 L3 Q) := by
  have k1 : c 1 ≤ 60 := (q1.1 1 (by decide)).2
  have nn := hA.n
  obtain ⟨h1, h2, h3, h4, h5, h6⟩ := h
  have q2a : LandR I1 T c := LandR_c (fun j hj => h1 j (by omega) (by omega) (by omega)) q2
  obtain ⟨I2, L2, b1, b2, b3, b4, b5⟩ := c_look (E := E) (w := w) (I := I1) (L := L1) (Q := Q) hG q1 q2a h4 hy hs
  have q2b : LandR I2 T c := LandR_c (fun j hj => b1 j (by omega)) q2a
  obtain ⟨I3, L3, mz, d1, d2, d3, d4, d5⟩ := c_carry (E := E) (w := w) (I := I2) (L := L2) (Q := Q) (T := T) (c := c) (s := s) (m := m) (tag := tag) (lens := lens) hG q1 q2b hA (by omega) b4 (by rw [b2 48 (by decide), h3 48 (by omega) (by omega)]; exact hln) (by rw [b1 48 (by decide)]; exact h5) (by rw [b1 b (by omega), b2 u (by omega)]; exact h6)
  refine ⟨I2, L2, I3, L3, mz, b1, b2, ⟨fun k g1 g2 g3 => by rw [d1.1 k g2 g3, b1 k g1, h1 k g1 g2 g3], fun i hi => by rw [d1.2.1 i hi, b1 48 (by decide), h2 i hi], fun k g1 g2 => by rw [d1.2.2 k g2, b2 k g1, h3 k g1 g2], ⟨MapR_c (d1.1 32 (by decide) (by omega)) (d1.1 38 (by decide) (by omega)) (fun k g1 g2 => d1.2.2 k (by omega)) b3.1, ?_⟩, d2, d3⟩, fun j hj l => ?_, b5, d5⟩
  · rw [d1.1 32 (by decide) (by omega)]; exact b3.2
  · rw [d4 j hj l, b2 u (by omega)]
theorem Lst_0 {B : Nat} {R : Ro} {G : Nat → Int64} (h : ∀ j, j < 120 → G j = 0) : Lst B R G 0 := by
  refine ⟨(cnt_0.mpr (fun j hj z => z (h j hj))).symm, fun i hi => absurd hi (by omega), fun i j hi => absurd hi (by omega), fun j hj z => absurd (h j hj) z⟩
theorem c_go5 {y m fr nf st en : Nat} {lens : Int64} (hG : 100000 ≤ E.2.2.1) (q1 : WfT T c) (q2 : LandR I T c) (hA : Abtu Q a b t u) (hm : MapY I L T c y) (hy : y ≤ 200) (h4 : I 48 4 = nI m) (hl : Lst (2 * c 1) (I b) (L u) m) (hfr : Q 48 7 = some fr) (hf : IA w fr nf) (hfn : fr ≠ 38 ∧ fr ≠ 48 ∧ fr ≠ 49 ∧ fr ≠ 51) (h9 : I 48 9 = nI en) (he : en ≤ nf) (hst : st ≤ nf) (hs : ∀ i, st ≤ i → i < en → ∃ s, I fr i = nI s ∧ s < 4 * c 1) (hln : L 48 10 = lens) : ∃ I1 L1 mz, GoS y I I1 L L1 T c b u mz ∧ (∀ j, j < 120 → ∀ l, (b64 (L1 u j) l ↔ b64 (L u j) l ∨ ∃ i s, st ≤ i ∧ i < en ∧ I fr i = nI s ∧ s < 4 * c 1 ∧ isOn T c (thr0 T c y) s j ∧ b64 (cmV lens 1 (T (93 + 6 * (j / 2)))) l)) ∧ ∀ K, L_X7_go_5 E K (rr w 48) E.2.2.1 (nI st) (Hw E w I L Q) = K (Hw E w I1 L1 Q) := by
  have k1 : c 1 ≤ 60 := (q1.1 1 (by decide)).2
  have nn := hA.n
  have hfn2 := hf.2.2
  refine lpK2 (ρ := (Hp → Rs) → Rs) (σ := (Nat → Nat → Int32) × (Nat → Nat → Int64) × Nat) (Lp := fun g i z => fun K => L_X7_go_5 E K (rr w 48) g (nI (st + i)) (Hw E w z.1 z.2.1 Q)) (K := fun z => fun K => K (Hw E w z.1 z.2.1 Q)) (Iv := fun i z => GoS y I z.1 L z.2.1 T c b u z.2.2 ∧ ∀ j, j < 120 → ∀ l, (b64 (z.2.1 u j) l ↔ b64 (L u j) l ∨ ∃ i' s, st ≤ i' ∧ i' < st + i ∧ I fr i' = nI s ∧ s < 4 * c 1 ∧ isOn T c (thr0 T c y) s j ∧ b64 (cmV lens 1 (T (93 + 6 * (j / 2)))) l)) (N := en - st) (g := E.2.2.1) (i := 0) (s := (I, L, m)) ?_ ?_ ?_ (by omega) (by omega) ⟨⟨fun _ _ _ _ => rfl, fun _ _ => rfl, fun _ _ _ => rfl, hm, h4, hl⟩, fun j hj l => ⟨Or.inl, fun z => z.elim id (fun ⟨i', s, z1, z2, _⟩ => absurd z2 (by omega))⟩⟩
  · rintro ⟨I1, L1, mz⟩ ⟨z1, z2⟩ ee
    dsimp only at *
    refine ⟨I1, L1, mz, z1, fun j hj l => ?_, fun K => congrFun ee K⟩
    rw [z2 j hj l]
    exact or_congr_right (exists_congr fun i' => exists_congr fun s => ⟨fun ⟨g1, g2, g3⟩ => ⟨g1, by omega, g3⟩, fun ⟨g1, g2, g3⟩ => ⟨g1, by omega, g3⟩⟩)
  · rintro g i ⟨I1, L1, mz⟩ hi ⟨z1, z2⟩
    dsimp only at *
    obtain ⟨s, es, hs4⟩ := hs (st + i) (by omega) (by omega)
    obtain ⟨I2, L2, I3, L3, mw, d1, d2, d3, d4, d5, d6⟩ := c_goStep (E := E) (w := w) (Q := Q) (tag := 1) hG q1 q2 hA hy hs4 hln z1
    refine ⟨(I3, L3, mw), ⟨d3, fun j hj l => ?_⟩, ?_⟩
    · show b64 (L3 u j) l ↔ _
      rw [d4 j hj l, z2 j hj l, or_assoc]
      refine or_congr_right ⟨?_, ?_⟩
      · rintro (⟨i', s', g1, g2, g3⟩ | ⟨g1, g2⟩)
        · exact ⟨i', s', g1, by omega, g3⟩
        · exact ⟨st + i, s, by omega, by omega, es, hs4, g1, g2⟩
      · rintro ⟨i', s', g1, g2, g3, g4, g5, g6⟩
        by_cases e : i' = st + i
        · have : s' = s := (nI_eq (by omega) (by omega)).mp (by rw [← g3, e, es])
          subst this; exact Or.inr ⟨g5, g6⟩
        · exact Or.inl ⟨i', s', g1, by omega, g3, g4, g5, g6⟩
    · funext K
      show L_X7_go_5 E K (rr w 48) (g + 1) (nI (st + i)) (Hw E w I1 L1 Q) = L_X7_go_5 E K (rr w 48) g (nI (st + (i + 1))) (Hw E w I3 L3 Q)
      have e9 : I1 48 9 = nI en := (z1.2.1 9 (by decide)).trans h9
      have ef : I1 fr (st + i) = nI s := by rw [z1.1 fr hfn.1 hfn.2.1 (by have := hA.2.2.2.2.1; omega)]; exact es
      rw [L_X7_go_5, gf48_9, Option.bind_some, e9, if_neg (nI_ge (by omega) (by omega)), gf48_0, Option.bind_some, gf48_7, hfr]
      simp (disch := omega) only [Option.bind_some, Option.map_some, Option.join, cI_r, cL_r, cV_r, xI_r, xL_r, xV_r, xI_t, xL_t, xV_t, lt_r, rtZ_0, rtZ_1, rtZ_zb, hf.ga, ix_n, ef, o32, d5, o48, d6, nI_1, Nat.add_assoc]
  · rintro g ⟨I1, L1, mz⟩ ⟨z1, z2⟩
    funext K
    show L_X7_go_5 E K (rr w 48) (g + 1) (nI (st + (en - st))) (Hw E w I1 L1 Q) = _
    have e9 : I1 48 9 = nI en := (z1.2.1 9 (by decide)).trans h9
    rw [L_X7_go_5, gf48_9, Option.bind_some, e9, if_pos (nI_le (by omega) (by omega))]
theorem c_go44 {y m n : Nat} {lens : Int64} (hG : 100000 ≤ E.2.2.1) (q1 : WfT T c) (q2 : LandR I T c) (hA : Abtu Q a b t u) (hm : MapY I L T c y) (hy : y ≤ 200) (h4 : I 48 4 = nI m) (hl : Lst (2 * c 1) (I b) (L u) m) (h1 : I 48 1 = nI n) (hn : n ≤ 120) (hx : ∀ i, i < n → ∃ j, I a i = nI j ∧ j < 2 * c 1) (hln : L 48 10 = lens) : ∃ I1 L1 mz, GoS y I I1 L L1 T c b u mz ∧ (∀ j, j < 120 → ∀ l, (b64 (L1 u j) l ↔ b64 (L u j) l ∨ ∃ i x, i < n ∧ I a i = nI x ∧ x < 2 * c 1 ∧ isOn T c (thr0 T c y) (2 * x) j ∧ b64 (cmV lens (L t x) (T (93 + 6 * (j / 2)))) l)) ∧ ∀ K, L_X7_go_44 E K (rr w 48) E.2.2.1 0 (Hw E w I L Q) = K (Hw E w I1 L1 Q) := by
  have k1 : c 1 ≤ 60 := (q1.1 1 (by decide)).2
  have nn := hA.n
  have ia := (hA.ia (w := w)).1
  have la := (hA.la (w := w)).1
  have gg := fun (I : Nat → Nat → Int32) (L : Nat → Nat → Int64) => hA.g (E := E) (w := w) (I := I) (L := L)
  refine lpK2 (ρ := (Hp → Rs) → Rs) (σ := (Nat → Nat → Int32) × (Nat → Nat → Int64) × Nat) (Lp := fun g i z => fun K => L_X7_go_44 E K (rr w 48) g (nI i) (Hw E w z.1 z.2.1 Q)) (K := fun z => fun K => K (Hw E w z.1 z.2.1 Q)) (Iv := fun i z => GoS y I z.1 L z.2.1 T c b u z.2.2 ∧ ∀ j, j < 120 → ∀ l, (b64 (z.2.1 u j) l ↔ b64 (L u j) l ∨ ∃ i' x, i' < i ∧ I a i' = nI x ∧ x < 2 * c 1 ∧ isOn T c (thr0 T c y) (2 * x) j ∧ b64 (cmV lens (L t x) (T (93 + 6 * (j / 2)))) l)) (N := n) (g := E.2.2.1) (i := 0) (s := (I, L, m)) ?_ ?_ ?_ (by omega) (by omega) ⟨⟨fun _ _ _ _ => rfl, fun _ _ => rfl, fun _ _ _ => rfl, hm, h4, hl⟩, fun j hj l => ⟨Or.inl, fun z => z.elim id (fun ⟨i', s, z1, _⟩ => absurd z1 (by omega))⟩⟩
  · rintro ⟨I1, L1, mz⟩ ⟨z1, z2⟩ ee
    dsimp only at *
    exact ⟨I1, L1, mz, z1, z2, fun K => congrFun ee K⟩
  · rintro g i ⟨I1, L1, mz⟩ hi ⟨z1, z2⟩
    dsimp only at *
    obtain ⟨x, ex, hx4⟩ := hx i hi
    obtain ⟨I2, L2, I3, L3, mw, d1, d2, d3, d4, d5, d6⟩ := c_goStep (E := E) (w := w) (Q := Q) (s := 2 * x) (tag := L t x) hG q1 q2 hA hy (by omega) hln z1
    refine ⟨(I3, L3, mw), ⟨d3, fun j hj l => ?_⟩, ?_⟩
    · show b64 (L3 u j) l ↔ _
      rw [d4 j hj l, z2 j hj l, or_assoc]
      refine or_congr_right ⟨?_, ?_⟩
      · rintro (⟨i', s', g1, g3⟩ | ⟨g1, g2⟩)
        · exact ⟨i', s', by omega, g3⟩
        · exact ⟨i, x, by omega, ex, hx4, g1, g2⟩
      · rintro ⟨i', s', g2, g3, g4, g5, g6⟩
        by_cases e : i' = i
        · have : s' = x := (nI_eq (by omega) (by omega)).mp (by rw [← g3, e, ex])
          subst this; exact Or.inr ⟨g5, g6⟩
        · exact Or.inl ⟨i', s', by omega, g3, g4, g5, g6⟩
    · funext K
      show L_X7_go_44 E K (rr w 48) (g + 1) (nI i) (Hw E w I1 L1 Q) = L_X7_go_44 E K (rr w 48) g (nI (i + 1)) (Hw E w I3 L3 Q)
      have e1 : I1 48 1 = nI n := (z1.2.1 1 (by decide)).trans h1
      have ea : I1 a i = nI x := by rw [z1.1 a (by omega) (by omega) (by omega)]; exact ex
      have ea2 : I2 a i = nI x := by rw [d1 a (by omega)]; exact ea
      have et : L2 t x = L t x := by rw [d2 t (by omega), z1.2.2.1 t (by omega) (by omega)]
      rw [L_X7_go_44, gf48_1, Option.bind_some, e1, if_neg (nI_ge (by omega) (by omega)), gf48_0, Option.bind_some, (gg I1 L1).1, Option.bind_some]
      simp (disch := omega) only [Option.bind_some, Option.map_some, Option.join, cI_r, cL_r, cV_r, xI_r, xL_r, xV_r, xI_t, xL_t, xV_t, lt_r, rtZ_0, rtZ_1, rtZ_zb, ia.ga, ix_n, ea, o32, m2, pk_mul, d5, (gg I2 L2).1, (gg I2 L2).2.2.1, ea2, la.ga, et, o48, d6, nI_1]
  · rintro g ⟨I1, L1, mz⟩ ⟨z1, z2⟩
    funext K
    show L_X7_go_44 E K (rr w 48) (g + 1) (nI n) (Hw E w I1 L1 Q) = _
    have e1 : I1 48 1 = nI n := (z1.2.1 1 (by decide)).trans h1
    rw [L_X7_go_44, gf48_1, Option.bind_some, e1, if_pos (nI_le (by omega) (by omega))]
/-- ON once more -/
theorem c_go {y n fr nf st en : Nat} {lens : Int64} (hG : 100000 ≤ E.2.2.1) (q1 : WfT T c) (q2 : LandR I T c) (hm : MapY I L T c y) (hy : y ≤ 200) (hC : Cur (2 * c 1) I L Q a b t u n) (hfr : Q 48 7 = some fr) (hf : IA w fr nf) (hfn : fr ≠ 38 ∧ fr ≠ 48 ∧ fr ≠ 49 ∧ fr ≠ 51) (h8 : I 48 8 = nI st) (h9 : I 48 9 = nI en) (he : en ≤ nf) (hst : st ≤ nf) (hs : ∀ i, st ≤ i → i < en → ∃ s, I fr i = nI s ∧ s < 4 * c 1) (hln : L 48 10 = lens) : ∃ I' L' Q' n', Cur (2 * c 1) I' L' Q' b a u t n' ∧ Lst (2 * c 1) (I' b) (L' u) n' ∧ (∀ j, j < 120 → ∀ l', (b64 (L' u j) l' ↔ ∃ s l, Zf (I fr) st en (L t) s l ∧ isOn T c (thr0 T c y) s j ∧ mvB lens (wln T j) l l')) ∧ MapY I' L' T c y ∧ I' 48 8 = nI st ∧ I' 48 9 = nI 0 ∧ L' 48 10 = lens ∧ Q' 48 7 = some fr ∧ (∀ k, k ≠ 38 → k ≠ 48 → k ≠ 49 → k ≠ 51 → I' k = I k) ∧ (∀ k, k ≠ 39 → k ≠ 50 → k ≠ 52 → L' k = L k) ∧ (∀ k, k ≠ 48 → Q' k = Q k) ∧ F_X7_go E (rr w 48) (Hw E w I L Q) = rtI (zb (0 < n')) (Hw E w I' L' Q') := by
  have k1 : c 1 ≤ 60 := (q1.1 1 (by decide)).2
  obtain ⟨hA, C2, C3, C4, C5, C6, C7, C8, C9⟩ := hC
  have nn := hA.n
  have hA' := hA.2.2.2.2
  obtain ⟨I1, L1, ma, p1, p2, p3⟩ := c_go5 (E := E) (w := w) hG q1 q2 hA hm hy C5 (Lst_0 C9) hfr hf hfn h9 he hst hs hln
  obtain ⟨p11, p12, p13, p14, p15, p16⟩ := p1
  generalize eJ : up2 I1 48 9 0 = J
  have hJ : ∀ k, k ≠ 48 → J k = I1 k := fun k hk => by rw [← eJ, up2_row _ _ hk]
  have hJ' : ∀ i, i ≠ 9 → J 48 i = I1 48 i := fun i hi => by rw [← eJ, up2_i _ _ _ hi]
  have hJ9 : J 48 9 = 0 := by rw [← eJ, up2_s]
  have q2J : LandR J T c := LandR_c (fun j hj => by rw [hJ j (by omega), p11 j (by omega) (by omega) (by omega)]) q2
  have Ja : J a = I a := by rw [hJ a (by omega), p11 a (by omega) (by omega) (by omega)]
  have L1t : L1 t = L t := p13 t (by omega) (by omega)
  obtain ⟨I2, L2, mb, r1, r2, r3⟩ := c_go44 (E := E) (w := w) (I := J) (L := L1) (Q := Q) (n := n) (lens := lens) hG q1 q2J hA ⟨MapR_c (hJ 32 (by decide)) (hJ 38 (by decide)) (fun _ _ _ => rfl) p14.1, by rw [hJ 32 (by decide)]; exact p14.2⟩ hy (by rw [hJ' 4 (by decide)]; exact p15) (by rw [hJ b (by omega)]; exact p16) (by rw [hJ' 1 (by decide), p12 1 (by decide)]; exact C3) C4 (by rw [Ja]; exact C6) (by rw [p13 48 (by decide) (by omega)]; exact hln)
  obtain ⟨r11, r12, r13, r14, r15, r16⟩ := r1
  have I2a : I2 a = I a := by rw [r11 a (by omega) (by omega) (by omega)]; exact Ja
  have L2t : L2 t = L t := by rw [r13 t (by omega) (by omega)]; exact L1t
  obtain ⟨L3, s1, s2, s3⟩ := c_clearNow (E := E) (w := w) (I := I2) (L := L2) (Q := Q) (n := n) hG hA (by rw [r12 1 (by decide), hJ' 1 (by decide), p12 1 (by decide)]; exact C3) C4 (by rw [I2a]; exact fun i hi => by obtain ⟨j, e1, e2⟩ := C6 i hi; exact ⟨j, e1, by omega⟩) (by rw [I2a, L2t]; exact C8)
  generalize eI' : up2 (up2 (up2 I2 48 1 0) 48 1 (nI mb)) 48 4 0 = I'
  generalize eQ' : up2 (up2 (up2 (up2 Q 48 2 (some b)) 48 3 (some u)) 48 5 (some a)) 48 6 (some t) = Q'
  have hI' : ∀ k, k ≠ 48 → I' k = I2 k := fun k hk => by rw [← eI', up2_row _ _ hk, up2_row _ _ hk, up2_row _ _ hk]
  have hI'' : ∀ i, i ≠ 1 → i ≠ 4 → I' 48 i = I2 48 i := fun i g1 g2 => by rw [← eI', up2_i _ _ _ g2, up2_i _ _ _ g1, up2_i _ _ _ g1]
  have hI1 : I' 48 1 = nI mb := by rw [← eI', up2_i _ _ _ (by decide), up2_s]
  have hI4 : I' 48 4 = 0 := by rw [← eI', up2_s]
  have hQ' : ∀ k, k ≠ 48 → Q' k = Q k := fun k hk => by rw [← eQ', up2_row _ _ hk, up2_row _ _ hk, up2_row _ _ hk, up2_row _ _ hk]
  have hQ7 : Q' 48 7 = Q 48 7 := by rw [← eQ', up2_i _ _ _ (by decide), up2_i _ _ _ (by decide), up2_i _ _ _ (by decide), up2_i _ _ _ (by decide)]
  have hQ2 : Q' 48 2 = some b := by rw [← eQ', up2_i _ _ _ (by decide), up2_i _ _ _ (by decide), up2_i _ _ _ (by decide), up2_s]
  have hQ3 : Q' 48 3 = some u := by rw [← eQ', up2_i _ _ _ (by decide), up2_i _ _ _ (by decide), up2_s]
  have hQ5 : Q' 48 5 = some a := by rw [← eQ', up2_i _ _ _ (by decide), up2_s]
  have hQ6 : Q' 48 6 = some t := by rw [← eQ', up2_s]
  have L3u : L3 u = L2 u := s1 u (by omega)
  have mble : mb ≤ 120 := by rw [r16.1]; exact cntP_le 120
  have lst' : Lst (2 * c 1) (I' b) (L3 u) mb := by rw [hI' b (by omega), L3u]; exact r16
  have frI : ∀ k, k ≠ 38 → k ≠ 48 → k ≠ 49 → k ≠ 51 → I' k = I k := fun k g1 g2 g3 g4 => by
    rw [hI' k g2, r11 k g1 g2 (by omega), hJ k g2, p11 k g1 g2 (by omega)]
  have frL : ∀ k, k ≠ 39 → k ≠ 50 → k ≠ 52 → L3 k = L k := fun k g1 g2 g3 => by
    rw [s1 k (by omega), r13 k g1 (by omega), p13 k g1 (by omega)]
  have mapY : MapY I' L3 T c y := ⟨MapR_c (hI' 32 (by decide)) (hI' 38 (by decide)) (fun k g1 g2 => s1 k (by omega)) r14.1, by rw [hI' 32 (by decide)]; exact r14.2⟩
  refine ⟨I', L3, Q', mb, ⟨⟨hQ2, hQ5, hQ3, hQ6, by omega⟩, ⟨fr, by rw [hQ7]; exact hfr⟩, hI1, mble, hI4, fun i hi => ?_, lst'.2.2.1, lst'.2.2.2, s2⟩, lst', fun j hj l' => ?_, mapY, ?_, ?_, ?_, by rw [hQ7]; exact hfr, frI, frL, hQ', ?_⟩
  · obtain ⟨j, e1, e2, e3⟩ := lst'.2.1 i hi; exact ⟨j, e1, e2⟩
  · rw [L3u, r2 j hj l', p2 j hj l', C9 j hj]
    by_cases hj2 : j < 2 * c 1
    · have wl := wln_n q1 hj2
      rw [wl.1]
      constructor
      · rintro ((z | ⟨i, s, z1, z2, z3, z4, z5, z6⟩) | ⟨i, x, z1, z2, z3, z4, z5⟩)
        · exact absurd z b64_0
        · obtain ⟨l, e1, e2⟩ := (cmV_b wl.2.2).mp z6
          have hl0 : l = 0 := by
            have : b64 (1 : Int64) l ↔ l = 0 := by
              have := b64_one (i := 0) (j := l) (by decide)
              rw [show (1 : Int64) <<< ((nI 0).toInt64 &&& 63) = 1 from rfl] at this
              exact this
            exact this.mp e1
          exact ⟨s, l, Or.inl ⟨i, z1, z2, z3, by omega, hl0⟩, z5, e2⟩
        · rw [L1t] at z5
          obtain ⟨l, e1, e2⟩ := (cmV_b wl.2.2).mp z5
          exact ⟨2 * x, l, Or.inr ⟨x, by omega, rfl, e1⟩, z4, e2⟩
      · rintro ⟨s, l, (⟨i, z1, z2, z3, z4, z5⟩ | ⟨x, z1, z2, z3⟩), z6, z7⟩
        · obtain ⟨s', e1, e2⟩ := hs i z1 z2
          have : s' = s := (nI_eq (by omega) (by omega)).mp (by rw [← e1, z3])
          subst this
          refine Or.inl (Or.inr ⟨i, s', z1, z2, z3, e2, z6, (cmV_b wl.2.2).mpr ⟨l, ?_, z7⟩⟩)
          rw [z5]; exact (b64_one (i := 0) (j := 0) (by decide)).mpr rfl
        · have xz : ¬ L t x = 0 := fun e => by rw [e] at z3; exact b64_0 z3
          obtain ⟨i, h1, h2⟩ := C8 x z1 xz
          obtain ⟨x', h3, h4⟩ := C6 i h1
          have : x' = x := (nI_eq (by omega) (by omega)).mp (by rw [← h3, h2])
          subst this
          refine Or.inr ⟨i, x', h1, by rw [Ja]; exact h2, h4, by rw [← z2]; exact z6, ?_⟩
          rw [L1t]; exact (cmV_b wl.2.2).mpr ⟨l, z3, z7⟩
    · constructor
      · rintro ((z | ⟨i, s, z1, z2, z3, z4, z5, z6⟩) | ⟨i, x, z1, z2, z3, z4, z5⟩)
        · exact absurd z b64_0
        · exact absurd z5.1.1 hj2
        · exact absurd z4.1.1 hj2
      · rintro ⟨s, l, _, z6, _⟩; exact absurd z6.1.1 hj2
  · rw [hI'' 8 (by decide) (by decide), r12 8 (by decide), hJ' 8 (by decide), p12 8 (by decide)]; exact h8
  · rw [hI'' 9 (by decide) (by decide), r12 9 (by decide)]; exact hJ9
  · rw [frL 48 (by decide) (by decide) (by decide)]; exact hln
  · have q46 : (up2 Q 48 2 (some b)) 48 6 = some u := by rw [up2_i _ _ _ (by decide)]; exact hA.2.2.2.1
    have i4 : (up2 I2 48 1 0) 48 4 = nI mb := by rw [up2_i _ _ _ (by decide)]; exact r15
    have i1 : (up2 (up2 (up2 I2 48 1 0) 48 1 (nI mb)) 48 4 0) 48 1 = nI mb := by rw [eI']; exact hI1
    unfold F_X7_go
    rw [gf48_8, Option.bind_some, h8, p3, pf48_9, Option.bind_some, eJ, r3]
    rw [o48, Option.bind_some, s3, cV_r, gf48_2, hA.1]
    simp only [Option.map_some, Option.bind_some]
    rw [gf48_3, hA.2.2.1]
    simp only [Option.map_some, Option.bind_some]
    rw [gf48_5, hA.2.1]
    simp only [Option.map_some, Option.bind_some, pf48_2]
    rw [gf48_6, q46]
    simp only [Option.map_some, Option.bind_some, pf48_3, gf48_4, i4, pf48_1, pf48_5, pf48_6, pf48_4, gf48_1, i1, rtZ_0, rtZ_1, eI', eQ']
    by_cases e : 0 < mb
    · rw [if_neg (nI_nle e (by omega)), zb_t e]
    · rw [if_pos (by rw [show mb = 0 by omega]; decide), zb_f e]
end
