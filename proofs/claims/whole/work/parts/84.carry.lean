/-! steps: carry -/
theorem cnt_ins {P R : Nat → Prop} {n j : Nat} (hj : j < n) (h0 : ¬ P j) (h : ∀ i, R i ↔ P i ∨ i = j) : cntP R n = cntP P n + 1 := by
  rw [cnt_but (P := R) (n := n) (m := j) ((h j).mpr (Or.inr rfl)), if_pos hj]
  congr 1
  exact cnt_c fun i _ => ⟨fun z => ((h i).mp z.2).elim id (fun e => absurd e z.1), fun z => ⟨fun e => h0 (e ▸ z), (h i).mpr (Or.inl z)⟩⟩
/-- arrows in a row, those with tags, each once -/
def Lst (B : Nat) (R : Ro) (G : Nat → Int64) (m : Nat) : Prop := m = cntP (fun j => ¬ G j = 0) 120 ∧ (∀ i, i < m → ∃ j, R i = nI j ∧ j < B ∧ ¬ G j = 0) ∧ (∀ i j, i < m → j < m → R i = R j → i = j) ∧ ∀ j, j < 120 → ¬ G j = 0 → ∃ i, i < m ∧ R i = nI j
def Abtu (Q : Nat → Nat → Option Nat) (a b t u : Nat) : Prop := Q 48 2 = some a ∧ Q 48 5 = some b ∧ Q 48 3 = some t ∧ Q 48 6 = some u ∧ ((a = 49 ∧ b = 51) ∨ (a = 51 ∧ b = 49)) ∧ ((t = 50 ∧ u = 52) ∨ (t = 52 ∧ u = 50))
def cmV (lens tag : Int64) (ln : Int32) : Int64 := if lens = 0 then tag else if (64 : Int32) ≤ ln then 0 else (tag <<< (ln.toInt64 &&& 63)) &&& lens
section
variable {E : Ev} {w : Wo} {I : Nat → Nat → Int32} {L : Nat → Nat → Int64} {Q : Nat → Nat → Option Nat} {c : Nat → Nat} {T : Ro} {a b t u : Nat}
theorem ia49 : IA w 49 120 := ⟨lv_of (by decide), rfl, by decide⟩
theorem ia51 : IA w 51 120 := ⟨lv_of (by decide), rfl, by decide⟩
theorem la50 : LA w 50 120 := ⟨lv_of (by decide), rfl, by decide⟩
theorem la52 : LA w 52 120 := ⟨lv_of (by decide), rfl, by decide⟩
theorem Abtu.ia (h : Abtu Q a b t u) : IA w a 120 ∧ IA w b 120 := by
  rcases h.2.2.2.2.1 with ⟨rfl, rfl⟩ | ⟨rfl, rfl⟩
  · exact ⟨ia49, ia51⟩
  · exact ⟨ia51, ia49⟩
theorem Abtu.la (h : Abtu Q a b t u) : LA w t 120 ∧ LA w u 120 := by
  rcases h.2.2.2.2.2 with ⟨rfl, rfl⟩ | ⟨rfl, rfl⟩
  · exact ⟨la50, la52⟩
  · exact ⟨la52, la50⟩
theorem Abtu.n (h : Abtu Q a b t u) : 48 < a ∧ a < 53 ∧ 48 < b ∧ b < 53 ∧ 48 < t ∧ t < 53 ∧ 48 < u ∧ u < 53 ∧ a ≠ b ∧ t ≠ u := by
  obtain ⟨-, -, -, -, h1, h2⟩ := h; omega
theorem Abtu.g (h : Abtu Q a b t u) : gfR (Hw E w I L Q) (rr w 48) 7 2 = some (rr w a) ∧ gfR (Hw E w I L Q) (rr w 48) 7 5 = some (rr w b) ∧ gfR (Hw E w I L Q) (rr w 48) 7 3 = some (rr w t) ∧ gfR (Hw E w I L Q) (rr w 48) 7 6 = some (rr w u) := by
  rw [gf48_2, gf48_5, gf48_3, gf48_6, h.1, h.2.1, h.2.2.1, h.2.2.2.1]; exact ⟨rfl, rfl, rfl, rfl⟩
/-- what carry may change -/
def CyF (I I' : Nat → Nat → Int32) (L L' : Nat → Nat → Int64) (b u : Nat) : Prop := (∀ k, k ≠ 48 → k ≠ b → I' k = I k) ∧ (∀ i, i ≠ 4 → I' 48 i = I 48 i) ∧ (∀ k, k ≠ u → L' k = L k)
theorem CyF.rf : CyF I I L L b u := ⟨fun _ _ _ => rfl, fun _ _ => rfl, fun _ _ => rfl⟩
theorem CyF.tr {I1 I2 : Nat → Nat → Int32} {L1 L2 : Nat → Nat → Int64} (h1 : CyF I I1 L L1 b u) (h2 : CyF I1 I2 L1 L2 b u) : CyF I I2 L L2 b u := ⟨fun k a1 a2 => (h2.1 k a1 a2).trans (h1.1 k a1 a2), fun i hi => (h2.2.1 i hi).trans (h1.2.1 i hi), fun k hk => (h2.2.2 k hk).trans (h1.2.2 k hk)⟩
theorem c_carry117 {B j m : Nat} {tag cm u2 : Int64} {y4 y7 : Int32} {K : Int64 → Int32 → Hp → Rs} (hA : Abtu Q a b t u) (hB : B ≤ 120) (hj : j < B) (h4 : I 48 4 = nI m) (hl : Lst B (I b) (L u) m) : ∃ I2 L2 mz, CyF I I2 L L2 b u ∧ I2 48 4 = nI mz ∧ Lst B (I2 b) (L2 u) mz ∧ (∀ i, L2 u i = if i = j then L u j ||| cm else L u i) ∧ J_X7_carry_117 E K (rr w 48) tag y4 u2 y7 (nI j) cm (Hw E w I L Q) = K u2 (y7 + -1) (Hw E w I2 L2 Q) := by
  have gg := fun (I : Nat → Nat → Int32) (L : Nat → Nat → Int64) => hA.g (E := E) (w := w) (I := I) (L := L)
  have nn := hA.n
  have lu := (hA.la (w := w)).2
  have ib := (hA.ia (w := w)).2
  unfold J_X7_carry_117
  by_cases c0 : cm = 0
  · refine ⟨I, L, m, CyF.rf, h4, hl, fun i => ?_, by rw [if_pos c0]⟩
    by_cases e : i = j
    · rw [if_pos e, c0, e, show L u j ||| 0 = L u j from by apply b64_ext; intro q _; rw [b64_or]; exact ⟨fun z => z.elim id (fun z => absurd z b64_0), Or.inl⟩]
    · rw [if_neg e]
  · rw [if_neg c0]
    have hm : m < 120 ∨ ¬ L u j = 0 := by
      by_cases e : L u j = 0
      · left
        have : cntP (fun i => ¬ L u i = 0 ∨ i = j) 120 = cntP (fun i => ¬ L u i = 0) 120 + 1 := cnt_ins (by omega) (not_not_intro e) (fun i => Iff.rfl)
        have h1 := cntP_le (P := fun i => ¬ L u i = 0 ∨ i = j) 120
        have h2 := hl.1
        omega
      · exact Or.inr e
    have nz : ¬ L u j ||| cm = 0 := fun z => c0 (or0_64.mp z).2
    have f154 : ∀ (I2 : Nat → Nat → Int32), J_X7_carry_154 E K (rr w 48) tag y4 u2 y7 (nI j) cm (Hw E w I2 L Q) = K u2 (y7 + -1) (Hw E w I2 (up2 L u j (L u j ||| cm)) Q) := by
      intro I2
      unfold J_X7_carry_154
      rw [(gg I2 L).2.2.2]
      simp (disch := omega) only [Option.bind_some, Option.map_some, Option.join, cI_r, cL_r, cV_r, xI_r, xL_r, xV_r, xI_t, xL_t, xV_t, lt_r, rtZ_0, rtZ_1, rtZ_zb, lu.ga, lu.pa, ix_n]
    have lf : ∀ i, up2 L u j (L u j ||| cm) u i = if i = j then L u j ||| cm else L u i := fun i => by
      by_cases e : i = j
      · rw [if_pos e, e, up2_s]
      · rw [if_neg e, up2_i _ _ _ e]
    rw [(gg I L).2.2.2]
    simp (disch := omega) only [Option.bind_some, Option.map_some, Option.join, cI_r, cL_r, cV_r, xI_r, xL_r, xV_r, xI_t, xL_t, xV_t, lt_r, rtZ_0, rtZ_1, rtZ_zb, lu.ga, ix_n]
    by_cases c1 : L u j = 0
    · have hm' : m < 120 := hm.elim id (fun z => absurd c1 z)
      rw [if_neg (not_not_intro c1)]
      generalize eI2 : up2 (up2 I 48 4 (nI (m + 1))) b m (nI j) = I2
      have i2 : ∀ k, k ≠ 48 → k ≠ b → I2 k = I k := fun k h1 h2 => by rw [← eI2, up2_row _ _ h2, up2_row _ _ h1]
      have i3 : ∀ i, i ≠ 4 → I2 48 i = I 48 i := fun i hi => by rw [← eI2, up2_k _ _ _ (by omega), up2_i _ _ _ hi]
      have i4 : I2 48 4 = nI (m + 1) := by rw [← eI2, up2_k _ _ _ (by omega), up2_s]
      have ibv : ∀ i, I2 b i = if i = m then nI j else I b i := fun i => by
        rw [← eI2]
        by_cases e : i = m
        · rw [if_pos e, e, up2_s]
        · rw [if_neg e, up2_i _ _ _ e, up2_k _ _ _ (by omega)]
      refine ⟨I2, up2 L u j (L u j ||| cm), m + 1, ⟨i2, i3, fun k hk => up2_row _ _ hk⟩, i4, ⟨?_, ?_, ?_, ?_⟩, lf, ?_⟩
      · rw [hl.1]
        refine (cnt_ins (P := fun i => ¬ L u i = 0) (j := j) (by omega) (not_not_intro c1) (fun i => ?_)).symm
        rw [lf i]
        by_cases e : i = j
        · rw [if_pos e]; exact ⟨fun _ => Or.inr e, fun _ => nz⟩
        · rw [if_neg e]; exact ⟨Or.inl, fun z => z.elim id (fun z => absurd z e)⟩
      · intro i hi
        by_cases e : i = m
        · exact ⟨j, by rw [ibv, if_pos e], hj, by rw [lf, if_pos rfl]; exact nz⟩
        · obtain ⟨j', h1, h2, h3⟩ := hl.2.1 i (by omega)
          refine ⟨j', by rw [ibv, if_neg e]; exact h1, h2, ?_⟩
          rw [lf]
          by_cases e2 : j' = j
          · rw [if_pos e2]; exact nz
          · rw [if_neg e2]; exact h3
      · intro i i' hi hi' he
        have old : ∀ i, i < m → ¬ I b i = nI j := fun i hi z => by
          obtain ⟨j', h1, h2, h3⟩ := hl.2.1 i hi
          have : j' = j := (nI_eq (by omega) (by omega)).mp (h1.symm.trans z)
          subst this; exact h3 c1
        rw [ibv, ibv] at he
        by_cases e : i = m
        · by_cases e' : i' = m
          · omega
          · rw [if_pos e, if_neg e'] at he; exact absurd he.symm (old i' (by omega))
        · by_cases e' : i' = m
          · rw [if_neg e, if_pos e'] at he; exact absurd he (old i (by omega))
          · rw [if_neg e, if_neg e'] at he; exact hl.2.2.1 i i' (by omega) (by omega) he
      · intro i hi hz
        rw [lf] at hz
        by_cases e : i = j
        · exact ⟨m, by omega, by rw [ibv, if_pos rfl, e]⟩
        · rw [if_neg e] at hz
          obtain ⟨q, h1, h2⟩ := hl.2.2.2 i hi hz
          exact ⟨q, by omega, by rw [ibv, if_neg (by omega)]; exact h2⟩
      · rw [(gg I L).2.1]
        simp (disch := omega) only [Option.bind_some, Option.map_some, Option.join, cI_r, cL_r, cV_r, xI_r, xL_r, xV_r, xI_t, xL_t, xV_t, lt_r, rtZ_0, rtZ_1, rtZ_zb, gf48_4, h4, pf48_4, nI_1, ib.pa, ix_n, eI2]
        exact f154 I2
    · rw [if_pos c1]
      refine ⟨I, up2 L u j (L u j ||| cm), m, ⟨fun _ _ _ => rfl, fun _ _ => rfl, fun k hk => up2_row _ _ hk⟩, h4, ⟨?_, ?_, hl.2.2.1, ?_⟩, lf, f154 I⟩
      · rw [hl.1]
        exact cnt_c fun i _ => by
          rw [lf i]
          by_cases e : i = j
          · rw [if_pos e, e]; exact ⟨fun _ => nz, fun _ => c1⟩
          · rw [if_neg e]
      · intro i hi
        obtain ⟨j', h1, h2, h3⟩ := hl.2.1 i hi
        refine ⟨j', h1, h2, ?_⟩
        rw [lf]
        by_cases e2 : j' = j
        · rw [if_pos e2]; exact nz
        · rw [if_neg e2]; exact h3
      · intro i hi hz
        rw [lf] at hz
        by_cases e : i = j
        · exact hl.2.2.2 i hi (by rw [e]; exact c1)
        · rw [if_neg e] at hz; exact hl.2.2.2 i hi hz
theorem c_carry33 {S : Nat → Prop} {s hf m : Nat} {tag lens : Int64} {K : Hp → Rs} (hG : 100000 ≤ E.2.2.1) (q1 : WfT T c) (q2 : LandR I T c) (hA : Abtu Q a b t u) (hh : hf < 2) (hr : RowOk (L 39) T c S s) (hln : L 48 10 = lens) (h4 : I 48 4 = nI m) (hl : Lst (2 * c 1) (I b) (L u) m) : ∃ I2 L2 mz, CyF I I2 L L2 b u ∧ I2 48 4 = nI mz ∧ Lst (2 * c 1) (I2 b) (L2 u) mz ∧ (∀ j, j < 120 → ∀ l, (b64 (L2 u j) l ↔ b64 (L u j) l ∨ (j / 64 = hf ∧ isOn T c S s j ∧ b64 (cmV lens tag (T (93 + 6 * (j / 2)))) l))) ∧ L_X7_carry_33 E K (rr w 48) tag (nI hf) E.2.2.1 (L 39 (8 * s + 6 + hf)) (nI (cntP (b64 (L 39 (8 * s + 6 + hf))) 64)) (Hw E w I L Q) = K (Hw E w I2 L2 Q) := by
  have k1 : c 1 ≤ 60 := (q1.1 1 (by decide)).2
  have nn := hA.n
  generalize hx0 : L 39 (8 * s + 6 + hf) = x0
  have hb : ∀ j, j < 64 → (b64 x0 j ↔ isOn T c S s (64 * hf + j)) := fun j hj => by rw [← hx0]; exact (hr hf hh j hj).2
  have hN : cntP (b64 x0) 64 ≤ 64 := cntP_le 64
  generalize eN : cntP (b64 x0) 64 = N at hN
  refine lpK2 (σ := (Nat → Nat → Int32) × (Nat → Nat → Int64) × Nat × Int64) (Lp := fun g r s => L_X7_carry_33 E K (rr w 48) tag (nI hf) g s.2.2.2 (nI (N - r)) (Hw E w s.1 s.2.1 Q)) (K := fun s => K (Hw E w s.1 s.2.1 Q)) (Iv := fun r z => rem x0 r z.2.2.2 ∧ CyF I z.1 L z.2.1 b u ∧ z.1 48 4 = nI z.2.2.1 ∧ Lst (2 * c 1) (z.1 b) (z.2.1 u) z.2.2.1 ∧ ∀ j, j < 120 → ∀ l, (b64 (z.2.1 u j) l ↔ b64 (L u j) l ∨ ((j / 64 = hf ∧ cntP (b64 x0) (j % 64) < r) ∧ isOn T c S s j ∧ b64 (cmV lens tag (T (93 + 6 * (j / 2)))) l))) (N := N) (g := E.2.2.1) (i := 0) (s := (I, L, m, x0)) ?_ ?_ ?_ (by omega) (by omega) ⟨rem_0 x0, CyF.rf, h4, hl, fun j hj l => ⟨Or.inl, fun z => z.elim id (fun z => absurd z.1.2 (by omega))⟩⟩
  · rintro ⟨I2, L2, mz, xr⟩ ⟨z1, z2, z3, z4, z5⟩ ee
    dsimp only at *
    refine ⟨I2, L2, mz, z2, z3, z4, fun j hj l => ?_, ee⟩
    rw [z5 j hj l]
    refine or_congr_right ⟨fun h => ⟨h.1.1, h.2⟩, fun h => ⟨⟨h.1, ?_⟩, h.2⟩⟩
    rw [← eN]
    exact cnt_lt ((hb _ (by omega)).mpr (by rw [show 64 * hf + j % 64 = j by omega]; exact h.2.1)) (by omega)
  · rintro g r ⟨I1, L1, my, xr⟩ hr' ⟨z1, z2, z3, z4, z5⟩
    dsimp only at *
    obtain ⟨k, hk, b1, b2, b3, b4, b5, -⟩ := rem_k z1 (by rw [eN]; exact hr')
    have on := (hb k hk).mp b1
    have hj : 64 * hf + k < 2 * c 1 := on.1.1
    have em : nI (N - r) + -1 = nI (N - (r + 1)) := by rw [show N - r = N - (r + 1) + 1 by omega]; exact pk_m1 _
    have e4 : I1 4 ((64 * hf + k) / 2) = T (93 + 6 * ((64 * hf + k) / 2)) := by
      rw [z2.1 4 (by decide) (by omega)]; exact (q2.2.1.2 _ (by omega)).2.1
    have eln : L1 48 10 = lens := by rw [z2.2.2 48 (by omega)]; exact hln
    obtain ⟨I2, L2, mz, d1, d2, d3, d4, d5⟩ := c_carry117 (E := E) (w := w) (I := I1) (L := L1) (Q := Q) (B := 2 * c 1) (j := 64 * hf + k) (m := my) (tag := tag) (cm := cmV lens tag (T (93 + 6 * ((64 * hf + k) / 2)))) (u2 := xr &&& (xr - 1)) (y4 := nI hf) (y7 := nI (N - r)) (K := fun w3 w4 h9 => L_X7_carry_33 E K (rr w 48) tag (nI hf) g w3 w4 h9) hA (by omega) hj z3 z4
    refine ⟨(I2, L2, mz, xr &&& (xr - 1)), ⟨b5, z2.tr d1, d2, d3, fun j hj' l => ?_⟩, ?_⟩
    · show b64 (L2 u j) l ↔ _
      rw [d4 j]
      by_cases e : j = 64 * hf + k
      · rw [if_pos e, b64_or, ← e, z5 j hj' l]
        have h1 : j / 64 = hf := by omega
        have h2 : j % 64 = k := by omega
        constructor
        · rintro ((z | z) | z)
          · exact Or.inl z
          · exact Or.inr ⟨⟨z.1.1, by omega⟩, z.2⟩
          · exact Or.inr ⟨⟨h1, by rw [h2, b2]; omega⟩, by rw [e]; exact on, z⟩
        · rintro (z | z)
          · exact Or.inl (Or.inl z)
          · exact Or.inr z.2.2
      · rw [if_neg e, z5 j hj' l]
        refine or_congr_right ⟨fun z => ⟨⟨z.1.1, by omega⟩, z.2⟩, fun z => ⟨⟨z.1.1, ?_⟩, z.2⟩⟩
        have hbj := (hb (j % 64) (by omega)).mpr (by rw [show 64 * hf + j % 64 = j by omega]; exact z.2.1)
        have : cntP (b64 x0) (j % 64) ≠ r := fun h => e (by have := cnt_inj hbj b1 (h.trans b2.symm); omega)
        omega
    · show L_X7_carry_33 E K (rr w 48) tag (nI hf) (g + 1) xr (nI (N - r)) (Hw E w I1 L1 Q) = L_X7_carry_33 E K (rr w 48) tag (nI hf) g (xr &&& (xr - 1)) (nI (N - (r + 1))) (Hw E w I2 L2 Q)
      rw [em] at d5
      rw [← d5, L_X7_carry_33, if_neg (nI_nle (show 0 < N - r by omega) (by omega)), f_low b3 b4, cI_r, lt_r, lt_r, gf48_10, Option.bind_some, eln]
      rw [m64, pk_mul, nI_add]
      unfold cmV
      by_cases c0 : lens = 0
      · rw [if_pos c0, if_pos c0]
      · rw [if_neg c0, if_neg c0, gf48_0, Option.bind_some, gf32_0, Option.bind_some, gf0_5, Option.bind_some]
        have s1 : nI (64 * hf + k) >>> ((1 : Int32) &&& 31) = nI ((64 * hf + k) / 2) := pk_shrN (by omega) _ 1 (by decide)
        rw [s1, ga4, ix_n (show (64 * hf + k) / 2 < 60 by omega) (by decide), Option.map_some, Option.bind_some, e4]
        by_cases c1 : nI 64 ≤ T (93 + 6 * ((64 * hf + k) / 2))
        · rw [if_pos c1, if_pos (show (64 : Int32) ≤ T (93 + 6 * ((64 * hf + k) / 2)) from c1)]
        · rw [if_neg c1, if_neg (show ¬ (64 : Int32) ≤ T (93 + 6 * ((64 * hf + k) / 2)) from c1), Option.bind_some, lt_r]
  · rintro g ⟨I1, L1, my, xr⟩ _
    show L_X7_carry_33 E K (rr w 48) tag (nI hf) (g + 1) xr (nI (N - N)) (Hw E w I1 L1 Q) = _
    rw [L_X7_carry_33, Nat.sub_self, if_pos (by decide)]
theorem c_carry {S : Nat → Prop} {s m : Nat} {tag lens : Int64} (hG : 100000 ≤ E.2.2.1) (q1 : WfT T c) (q2 : LandR I T c) (hA : Abtu Q a b t u) (hs : s < 240) (hr : RowOk (L 39) T c S s) (hln : L 48 10 = lens) (h4 : I 48 4 = nI m) (hl : Lst (2 * c 1) (I b) (L u) m) : ∃ I2 L2 mz, CyF I I2 L L2 b u ∧ I2 48 4 = nI mz ∧ Lst (2 * c 1) (I2 b) (L2 u) mz ∧ (∀ j, j < 120 → ∀ l, (b64 (L2 u j) l ↔ b64 (L u j) l ∨ (isOn T c S s j ∧ b64 (cmV lens tag (T (93 + 6 * (j / 2)))) l))) ∧ F_X7_carry E (rr w 48) (nI (8 * s)) tag (Hw E w I L Q) = rtV (Hw E w I2 L2 Q) := by
  have nn := hA.n
  unfold F_X7_carry
  refine lpK2 (σ := (Nat → Nat → Int32) × (Nat → Nat → Int64) × Nat) (Lp := fun g hf z => L_X7_carry_3 E (rr w 48) (nI (8 * s)) tag g (nI hf) (Hw E w z.1 z.2.1 Q)) (K := fun z => rtV (Hw E w z.1 z.2.1 Q)) (Iv := fun hf z => CyF I z.1 L z.2.1 b u ∧ z.1 48 4 = nI z.2.2 ∧ Lst (2 * c 1) (z.1 b) (z.2.1 u) z.2.2 ∧ ∀ j, j < 120 → ∀ l, (b64 (z.2.1 u j) l ↔ b64 (L u j) l ∨ (j / 64 < hf ∧ isOn T c S s j ∧ b64 (cmV lens tag (T (93 + 6 * (j / 2)))) l))) (N := 2) (g := E.2.2.1) (i := 0) (s := (I, L, m)) ?_ ?_ ?_ (by omega) (by omega) ⟨CyF.rf, h4, hl, fun j hj l => ⟨Or.inl, fun z => z.elim id (fun z => absurd z.1 (by omega))⟩⟩
  · rintro ⟨I2, L2, mz⟩ ⟨z2, z3, z4, z5⟩ ee
    dsimp only at *
    refine ⟨I2, L2, mz, z2, z3, z4, fun j hj l => ?_, ee⟩
    rw [z5 j hj l]
    exact or_congr_right ⟨fun h => h.2, fun h => ⟨by omega, h⟩⟩
  · rintro g hf ⟨I1, L1, my⟩ hh ⟨z2, z3, z4, z5⟩
    dsimp only at *
    have e39 : L1 39 = L 39 := z2.2.2 39 (by omega)
    obtain ⟨I2, L2, mz, d1, d2, d3, d4, d5⟩ := c_carry33 (E := E) (w := w) (I := I1) (L := L1) (Q := Q) (T := T) (c := c) (S := S) (s := s) (hf := hf) (m := my) (tag := tag) (lens := lens) (K := fun h7 => L_X7_carry_3 E (rr w 48) (nI (8 * s)) tag g (nI (hf + 1)) h7) hG q1 (LandR_c (fun j hj => z2.1 j (by omega) (by omega)) q2) hA hh (by rw [e39]; exact hr) (by rw [z2.2.2 48 (by omega)]; exact hln) z3 z4
    refine ⟨(I2, L2, mz), ⟨z2.tr d1, d2, d3, fun j hj l => ?_⟩, ?_⟩
    · show b64 (L2 u j) l ↔ _
      rw [d4 j hj l, z5 j hj l, or_assoc]
      refine or_congr_right ⟨?_, ?_⟩
      · rintro (z | z)
        · exact ⟨by omega, z.2⟩
        · exact ⟨by omega, z.2⟩
      · rintro z
        by_cases e : j / 64 = hf
        · exact Or.inr ⟨e, z.2⟩
        · exact Or.inl ⟨by omega, z.2⟩
    · show L_X7_carry_3 E (rr w 48) (nI (8 * s)) tag (g + 1) (nI hf) (Hw E w I1 L1 Q) = L_X7_carry_3 E (rr w 48) (nI (8 * s)) tag g (nI (hf + 1)) (Hw E w I2 L2 Q)
      rw [← d5, L_X7_carry_3]
      simp (disch := omega) only [Option.bind_some, Option.map_some, Option.join, cI_r, cL_r, cV_r, xI_r, xL_r, xV_r, xI_t, xL_t, xV_t, lt_r, rtZ_0, rtZ_1, rtZ_zb, m2, m3, m4, m5, m6, m7, m8, m9, m10, m11, m12, m13, m14, m15, m16, m17, m18, m19, m20, m21, m22, m23, m24, m25, m26, m27, m28, m29, m30, m31, m32, m40, m41, m60, m63, m64, m90, m99, m100, m120, m127, m164, m173, m200, m240, m255, m450, m480, m650, m722, m762, m960, m1000000, m2838, m2988, m4095, pk_mul, nI_add, nI_1, nI_leI, nI_ltI, nI_eq, ix_n, if_neg, gf48_0, gf32_11, ga39, f_bitCount]
  · rintro g ⟨I1, L1, my⟩ _
    show L_X7_carry_3 E (rr w 48) (nI (8 * s)) tag (g + 1) (nI 2) (Hw E w I1 L1 Q) = _
    rw [L_X7_carry_3]
    simp (disch := omega) only [m2, m3, m4, m5, m6, m7, m8, m9, m10, m11, m12, m13, m14, m15, m16, m17, m18, m19, m20, m21, m22, m23, m24, m25, m26, m27, m28, m29, m30, m31, m32, m40, m41, m60, m63, m64, m90, m99, m100, m120, m127, m164, m173, m200, m240, m255, m450, m480, m650, m722, m762, m960, m1000000, m2838, m2988, m4095, pk_mul, nI_add, nI_1, nI_leI, nI_ltI, nI_eq, ix_n, if_pos]
end
