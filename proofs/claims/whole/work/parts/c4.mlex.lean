/-! telling: what the reference reads next -/
def rkd (κ : Nat) : Int32 := if κ = 26 then 0 else if κ = 24 then 2 else if κ = 25 then 3 else if κ = 28 then 4 else 1
def wn (j : Nat) : Nat := if j ≤ 12 then j - 1 else if j = 13 then 20 else if j = 14 then 21 else if j = 15 then 12 else if j = 16 then 14 else if j = 17 then 15 else if j = 18 then 16 else if j = 19 then 17 else if j = 20 then 18 else if j = 21 then 19 else if j = 22 then 13 else if j = 23 then 23 else 22
theorem txF1 : ∀ j, j < 25 → 1 ≤ j → sln j ≤ 6 ∧ wn j < 24 := by decide +kernel
theorem txF2 : ∀ j, j < 25 → 1 ≤ j → ∀ i, i < 6 → i < sln j → voc (6 * wn j + i) = nI (sch j i) ∧ 97 ≤ sch j i ∧ sch j i ≤ 122 := by decide +kernel
theorem txF3 : ∀ j, j < 25 → 1 ≤ j → ∀ i, i < 6 → ¬ i < sln j → voc (6 * wn j + i) = 32 := by decide +kernel
theorem txF (j : Nat) (hj : j < 25) (h1 : 1 ≤ j) : sln j ≤ 6 ∧ wn j < 24 ∧ ∀ i, i < 6 → (i < sln j → voc (6 * wn j + i) = nI (sch j i) ∧ 97 ≤ sch j i ∧ sch j i ≤ 122) ∧ (¬ i < sln j → voc (6 * wn j + i) = 32) := ⟨(txF1 j hj h1).1, (txF1 j hj h1).2, fun i hi => ⟨txF2 j hj h1 i hi, txF3 j hj h1 i hi⟩⟩
def mBy (B : Nat → Nat) (n : Nat) (I : Nat → Nat → Int32) : Prop := ∀ i, i < n → I 144 i = nI (B i) ∧ B i < 256
theorem mBy_k {B : Nat → Nat} {n : Nat} {I I' : Nat → Nat → Int32} (h : mBy B n I) (e : I' 144 = I 144) : mBy B n I' := fun i hi => by rw [e]; exact h i hi
theorem Mt_iff {B : Nat → Nat} {st en j : Nat} (hj : j < 25) (h1 : 1 ≤ j) (hl : ∀ i, st ≤ i → i < en → 97 ≤ B i ∧ B i ≤ 122) (hse : st ≤ en) : (en - st = sln j ∧ ∀ i, i < sln j → B (st + i) = sch j i) ↔ Mt B st en (wn j) := by
  obtain ⟨x1, x2, x3⟩ := txF j hj h1
  constructor
  · rintro ⟨a1, a2⟩
    refine ⟨by omega, fun i hi => ?_⟩
    by_cases c : i < sln j
    · obtain ⟨b1, b2, b3⟩ := (x3 i hi).1 c
      rw [if_pos (by omega), b1, a2 i c, cbN _ (by omega)]
    · rw [if_neg (by omega), (x3 i hi).2 c]
  · rintro ⟨a1, a2⟩
    have e : en - st = sln j := by
      rcases Nat.lt_trichotomy (en - st) (sln j) with c | c | c
      · have h := a2 (en - st) (by omega)
        obtain ⟨b1, b2, b3⟩ := (x3 (en - st) (by omega)).1 c
        rw [if_neg (by omega), b1] at h
        have := (nI_eq (a := 32) (b := sch j (en - st)) (by decide) (by omega)).mp h
        omega
      · exact c
      · have h := a2 (sln j) (by omega)
        rw [if_pos (by omega), (x3 (sln j) (by omega)).2 (by omega)] at h
        have z := hl (st + sln j) (by omega) (by omega)
        rw [cbN _ (by omega)] at h
        have := (nI_eq (a := B (st + sln j)) (b := 32) (by omega) (by decide)).mp h
        omega
    refine ⟨e, fun i hi => ?_⟩
    have h := a2 i (by omega)
    obtain ⟨b1, b2, b3⟩ := (x3 i (by omega)).1 hi
    have z := hl (st + i) (by omega) (by omega)
    rw [if_pos (by omega), b1, cbN _ (by omega)] at h
    exact (nI_eq (by omega) (by omega)).mp h
section
variable {E : Ev} {w : Wo} {I : Nat → Nat → Int32} {L : Nat → Nat → Int64} {Q : Nat → Nat → Option Nat} {B : Nat → Nat} {n : Nat}
theorem f_isLetter {b : Nat} {h : Hp} (hb : b < 256) : F_X12_isLetter E (nI b) h = rtI (zb (ltr b = true)) h := by
  have F := nIF b hb
  unfold F_X12_isLetter
  by_cases c : ltr b = true
  · have c' := ltr_t.mp c
    rw [if_neg (fun z => by have := F.2.2.2.2.2.1.mp z; omega), if_neg (fun z => by have := F.2.2.2.2.2.2.mp z; omega), zb_t c]
    rfl
  · rw [zb_f c]
    by_cases x1 : nI b < 97
    · rw [if_pos x1]; rfl
    · rw [if_neg x1, if_pos (F.2.2.2.2.2.2.mpr (by
        have z1 : ¬ b < 97 := fun z => x1 (F.2.2.2.2.2.1.mpr z)
        have z2 : ¬ (97 ≤ b ∧ b ≤ 122) := fun z => c (ltr_t.mpr z)
        omega))]
      rfl
theorem f_isDigit {b : Nat} {h : Hp} (hb : b < 256) : F_X12_isDigit E (nI b) h = rtI (zb (dgt b = true)) h := by
  have F := nIF b hb
  unfold F_X12_isDigit
  by_cases c : dgt b = true
  · have c' := dgt_t.mp c
    rw [if_neg (fun z => by have := F.2.2.2.1.mp z; omega), if_neg (fun z => by have := F.2.2.2.2.1.mp z; omega), zb_t c]
    rfl
  · rw [zb_f c]
    by_cases x1 : nI b < 48
    · rw [if_pos x1]; rfl
    · rw [if_neg x1, if_pos (F.2.2.2.2.1.mpr (by
        have z1 : ¬ b < 48 := fun z => x1 (F.2.2.2.1.mpr z)
        have z2 : ¬ (48 ≤ b ∧ b ≤ 57) := fun z => c (dgt_t.mpr z)
        omega))]
      rfl
theorem m_see {p : Nat} (hn : n ≤ 200) (hp : p ≤ n) (e11 : I 163 11 = nI n) (hb : mBy B n I) : F_X12_see E (rr w 163) (nI p) (Hw E w I L Q) = rtI (nI (if p < n then B p else 0)) (Hw E w I L Q) := by
  unfold F_X12_see
  by_cases c : p < n
  · have hb' := hb p c
    rw [if_pos c]
    simp (disch := omega) only [Option.bind_some, Option.map_some, Option.join, cI_r, cL_r, cV_r, xI_r, xL_r, xV_r, xI_t, xL_t, xV_t, lt_r, rtZ_0, rtZ_1, rtZ_zb, gf163_11, e11, nI_leI, if_neg, gf163_9, ga144, ix_n, hb'.1]
  · rw [if_neg c]
    simp (disch := omega) only [Option.bind_some, Option.map_some, Option.join, cI_r, cL_r, cV_r, xI_r, xL_r, xV_r, xI_t, xL_t, xV_t, lt_r, rtZ_0, rtZ_1, rtZ_zb, gf163_11, e11, nI_leI, if_pos]
    rfl
def M12 (I I' : Nat → Nat → Int32) : Prop := (∀ k, k ≠ 163 → I' k = I k) ∧ ∀ i, i ≠ 12 → I' 163 i = I 163 i
theorem M12.rf : M12 I I := ⟨fun _ _ => rfl, fun _ _ => rfl⟩
theorem M12.tr {I1 I2 : Nat → Nat → Int32} (h : M12 I I1) (g : M12 I1 I2) : M12 I I2 := ⟨fun k hk => (g.1 k hk).trans (h.1 k hk), fun i hi => (g.2 i hi).trans (h.2 i hi)⟩
theorem M12.up {v : Int32} : M12 I (up2 I 163 12 v) := ⟨fun k hk => up2_row _ _ hk, fun i hi => up2_i _ _ _ hi⟩
theorem m_next0 (hn : n ≤ 200) : ∀ d g p (I : Nat → Nat → Int32), n - p = d → p ≤ n → d < g → I 163 12 = nI p → I 163 11 = nI n → mBy B n I → ∃ I', M12 I I' ∧ I' 163 12 = nI (adv B n blk d p) ∧ ∀ K, L_X12_next_0 E K (rr w 163) g (Hw E w I L Q) = K (Hw E w I' L Q) := by
  intro d
  induction d with
  | zero =>
    intro g p I hd hp hg e6 e11 hb
    obtain ⟨g, rfl⟩ : ∃ m, g = m + 1 := ⟨g - 1, by omega⟩
    refine ⟨I, M12.rf, by rw [adv]; exact e6, fun K => ?_⟩
    rw [L_X12_next_0]
    simp (disch := omega) only [Option.bind_some, Option.map_some, Option.join, cI_r, cL_r, cV_r, xI_r, xL_r, xV_r, xI_t, xL_t, xV_t, lt_r, rtZ_0, rtZ_1, rtZ_zb, gf163_12, e6, gf163_11, e11, nI_leI, if_pos]
  | succ d ih =>
    intro g p I hd hp hg e6 e11 hb
    obtain ⟨g, rfl⟩ : ∃ m, g = m + 1 := ⟨g - 1, by omega⟩
    have hb' := hb p (by omega)
    have F := nIF (B p) hb'.2
    by_cases c : blk (B p) = true
    · rw [adv_t (by omega) c]
      obtain ⟨I', a1, a2, a3⟩ := ih g (p + 1) (up2 I 163 12 (nI (p + 1))) (by omega) (by omega) (by omega) (up2_s _ _ _ _) (by rw [up2_i _ _ _ (by decide)]; exact e11) (mBy_k hb (up2_row _ _ (by decide)))
      refine ⟨I', M12.up.tr a1, a2, fun K => ?_⟩
      rw [← a3 K, L_X12_next_0]
      unfold J_X12_next_39
      rcases blk_t.mp c with e | e
      · simp (disch := omega) only [Option.bind_some, Option.map_some, Option.join, cI_r, cL_r, cV_r, xI_r, xL_r, xV_r, xI_t, xL_t, xV_t, lt_r, rtZ_0, rtZ_1, rtZ_zb, gf163_12, e6, gf163_11, e11, nI_leI, if_neg, gf163_9, ga144, ix_n, hb'.1, if_pos (F.1.mpr e), pf163_12, nI_1]
      · have n32 : ¬ nI (B p) = 32 := fun z => by have := F.1.mp z; omega
        simp (disch := omega) only [Option.bind_some, Option.map_some, Option.join, cI_r, cL_r, cV_r, xI_r, xL_r, xV_r, xI_t, xL_t, xV_t, lt_r, rtZ_0, rtZ_1, rtZ_zb, gf163_12, e6, gf163_11, e11, nI_leI, if_neg, gf163_9, ga144, ix_n, hb'.1, if_neg n32, if_neg (not_not_intro (F.2.1.mpr e)), pf163_12, nI_1]
    · rw [adv_f c]
      refine ⟨I, M12.rf, e6, fun K => ?_⟩
      have n32 : ¬ nI (B p) = 32 := fun z => c (blk_t.mpr (Or.inl (F.1.mp z)))
      have n10 : ¬ nI (B p) = 10 := fun z => c (blk_t.mpr (Or.inr (F.2.1.mp z)))
      rw [L_X12_next_0]
      simp (disch := omega) only [Option.bind_some, Option.map_some, Option.join, cI_r, cL_r, cV_r, xI_r, xL_r, xV_r, xI_t, xL_t, xV_t, lt_r, rtZ_0, rtZ_1, rtZ_zb, gf163_12, e6, gf163_11, e11, nI_leI, if_neg, gf163_9, ga144, ix_n, hb'.1, if_neg n32, if_pos n10]
theorem m_next94 (hn : n ≤ 200) : ∀ d g p (I : Nat → Nat → Int32), n - p = d → p ≤ n → d < g → I 163 12 = nI p → I 163 11 = nI n → mBy B n I → ∃ I', M12 I I' ∧ I' 163 12 = nI (adv B n ltr d p) ∧ L_X12_next_94 E (rr w 163) g (Hw E w I L Q) = rtV (Hw E w (up2 I' 163 14 1) L Q) := by
  intro d
  induction d with
  | zero =>
    intro g p I hd hp hg e6 e11 hb
    obtain ⟨g, rfl⟩ : ∃ m, g = m + 1 := ⟨g - 1, by omega⟩
    refine ⟨I, M12.rf, by rw [adv]; exact e6, ?_⟩
    have se := m_see (E := E) (w := w) (I := I) (L := L) (Q := Q) (B := B) hn hp e11 hb
    rw [if_neg (by omega)] at se
    have li := f_isLetter (E := E) (b := 0) (h := Hw E w I L Q) (by decide)
    rw [L_X12_next_94]
    simp only [Option.bind_some, Option.map_some, Option.join, cI_r, cL_r, cV_r, xI_r, xL_r, xV_r, xI_t, xL_t, xV_t, lt_r, rtZ_0, rtZ_1, rtZ_zb, gf163_12, e6, o163, se, li, zi_f (show ¬ ltr 0 = true by decide), pf163_14]
  | succ d ih =>
    intro g p I hd hp hg e6 e11 hb
    obtain ⟨g, rfl⟩ : ∃ m, g = m + 1 := ⟨g - 1, by omega⟩
    have hb' := hb p (by omega)
    have se := m_see (E := E) (w := w) (I := I) (L := L) (Q := Q) (B := B) hn hp e11 hb
    rw [if_pos (by omega)] at se
    have li := f_isLetter (E := E) (b := B p) (h := Hw E w I L Q) hb'.2
    by_cases c : ltr (B p) = true
    · rw [adv_t (by omega) c]
      obtain ⟨I', a1, a2, a3⟩ := ih g (p + 1) (up2 I 163 12 (nI (p + 1))) (by omega) (by omega) (by omega) (up2_s _ _ _ _) (by rw [up2_i _ _ _ (by decide)]; exact e11) (mBy_k hb (up2_row _ _ (by decide)))
      refine ⟨I', M12.up.tr a1, a2, ?_⟩
      rw [← a3, L_X12_next_94]
      simp only [Option.bind_some, Option.map_some, Option.join, cI_r, cL_r, cV_r, xI_r, xL_r, xV_r, xI_t, xL_t, xV_t, lt_r, rtZ_0, rtZ_1, rtZ_zb, gf163_12, e6, o163, se, li, zi_t c, pf163_12, nI_1]
    · rw [adv_f c]
      refine ⟨I, M12.rf, e6, ?_⟩
      rw [L_X12_next_94]
      simp only [Option.bind_some, Option.map_some, Option.join, cI_r, cL_r, cV_r, xI_r, xL_r, xV_r, xI_t, xL_t, xV_t, lt_r, rtZ_0, rtZ_1, rtZ_zb, gf163_12, e6, o163, se, li, zi_f c, pf163_14]
def M125 (I I' : Nat → Nat → Int32) : Prop := (∀ k, k ≠ 163 → I' k = I k) ∧ ∀ i, i ≠ 12 → i ≠ 15 → I' 163 i = I 163 i
theorem m_next141 (hn : n ≤ 200) : ∀ d g p st (I : Nat → Nat → Int32), n - p = d → p ≤ n → st ≤ p → d < g → I 163 12 = nI p → I 163 11 = nI n → I 163 13 = nI st → I 163 15 = nI (nv B st p) → mBy B n I → ∃ I', M125 I I' ∧ I' 163 12 = nI (adv B n dgt d p) ∧ I' 163 15 = nI (nv B st (adv B n dgt d p)) ∧ ∀ K, L_X12_next_141 E K (rr w 163) g (Hw E w I L Q) = K (Hw E w I' L Q) := by
  intro d
  induction d with
  | zero =>
    intro g p st I hd hp hs hg e6 e11 e7 e9 hb
    obtain ⟨g, rfl⟩ : ∃ m, g = m + 1 := ⟨g - 1, by omega⟩
    refine ⟨I, ⟨fun _ _ => rfl, fun _ _ _ => rfl⟩, by rw [adv]; exact e6, by rw [adv]; exact e9, fun K => ?_⟩
    have se := m_see (E := E) (w := w) (I := I) (L := L) (Q := Q) (B := B) hn hp e11 hb
    rw [if_neg (by omega)] at se
    have li := f_isDigit (E := E) (b := 0) (h := Hw E w I L Q) (by decide)
    rw [L_X12_next_141]
    simp only [Option.bind_some, Option.map_some, Option.join, cI_r, cL_r, cV_r, xI_r, xL_r, xV_r, xI_t, xL_t, xV_t, lt_r, rtZ_0, rtZ_1, rtZ_zb, gf163_12, e6, o163, se, li, zi_f (show ¬ dgt 0 = true by decide)]
  | succ d ih =>
    intro g p st I hd hp hs hg e6 e11 e7 e9 hb
    obtain ⟨g, rfl⟩ : ∃ m, g = m + 1 := ⟨g - 1, by omega⟩
    have hb' := hb p (by omega)
    have se := m_see (E := E) (w := w) (I := I) (L := L) (Q := Q) (B := B) hn hp e11 hb
    rw [if_pos (by omega)] at se
    have li := f_isDigit (E := E) (b := B p) (h := Hw E w I L Q) hb'.2
    by_cases c : dgt (B p) = true
    · rw [adv_t (by omega) c]
      have c' := dgt_t.mp c
      generalize eA : up2 (up2 I 163 15 (nI (nv B st (p + 1)))) 163 12 (nI (p + 1)) = A
      have a6 : A 163 12 = nI (p + 1) := by rw [← eA, up2_s]
      have a9 : A 163 15 = nI (nv B st (p + 1)) := by rw [← eA, up2_i _ _ _ (by decide), up2_s]
      have ai : ∀ i, i ≠ 12 → i ≠ 15 → A 163 i = I 163 i := fun i h1 h2 => by rw [← eA, up2_i _ _ _ h1, up2_i _ _ _ h2]
      have ak : ∀ k, k ≠ 163 → A k = I k := fun k hk => by rw [← eA, up2_row _ _ hk, up2_row _ _ hk]
      obtain ⟨I', b1, b2, b3, b4⟩ := ih g (p + 1) st A (by omega) (by omega) (by omega) (by omega) a6 (by rw [ai 11 (by decide) (by decide)]; exact e11) (by rw [ai 13 (by decide) (by decide)]; exact e7) a9 (mBy_k hb (ak 144 (by decide)))
      refine ⟨I', ⟨fun k hk => (b1.1 k hk).trans (ak k hk), fun i h1 h2 => (b1.2 i h1 h2).trans (ai i h1 h2)⟩, b2, b3, fun K => ?_⟩
      rw [← b4 K, L_X12_next_141]
      unfold J_X12_next_196
      have nvs := nv_s (B := B) hs c'.1
      have sb : nI p - nI st = nI (p - st) := nI_sub' hs
      have e9' : ∀ v, up2 I 163 15 v 163 12 = nI p := fun v => by rw [up2_i _ _ _ (by decide)]; exact e6
      by_cases c2 : 2 ≤ p - st
      · rw [if_pos c2] at nvs
        simp (disch := omega) only [Option.bind_some, Option.map_some, Option.join, cI_r, cL_r, cV_r, xI_r, xL_r, xV_r, xI_t, xL_t, xV_t, lt_r, rtZ_0, rtZ_1, rtZ_zb, gf163_12, e6, o163, se, li, zi_t c, gf163_13, e7, sb, m2, nI_leI, if_pos, gf163_15, e9, pf163_15, e9', pf163_12, nI_1, ← nvs, eA]
      · rw [if_neg c2] at nvs
        have ar : (10 : Int32) * nI (nv B st p) + nI (B p) - (48 : Int32) = nI (nv B st (p + 1)) := by
          rw [m10, pk_mul, nI_add, show (48 : Int32) = nI 48 from rfl, nI_sub' (by omega), nvs]
        simp (disch := omega) only [Option.bind_some, Option.map_some, Option.join, cI_r, cL_r, cV_r, xI_r, xL_r, xV_r, xI_t, xL_t, xV_t, lt_r, rtZ_0, rtZ_1, rtZ_zb, gf163_12, e6, o163, se, li, zi_t c, gf163_13, e7, sb, m2, nI_leI, if_neg, gf163_15, e9, gf163_9, ga144, ix_n, hb'.1, ar, pf163_15, e9', pf163_12, nI_1, eA]
    · rw [adv_f c]
      refine ⟨I, ⟨fun _ _ => rfl, fun _ _ _ => rfl⟩, e6, e9, fun K => ?_⟩
      rw [L_X12_next_141]
      simp only [Option.bind_some, Option.map_some, Option.join, cI_r, cL_r, cV_r, xI_r, xL_r, xV_r, xI_t, xL_t, xV_t, lt_r, rtZ_0, rtZ_1, rtZ_zb, gf163_12, e6, o163, se, li, zi_f c]
def Mx5 (I I' : Nat → Nat → Int32) : Prop := (∀ k, k ≠ 163 → I' k = I k) ∧ ∀ i, ¬ (12 ≤ i ∧ i ≤ 15) → I' 163 i = I 163 i
theorem m_next {p : Nat} (hG : 100000 ≤ E.2.2.1) (hn : n ≤ 200) (hp : p ≤ n) (e6 : I 163 12 = nI p) (e11 : I 163 11 = nI n) (hb : mBy B n I) : ∃ I', Mx5 I I' ∧ I' 163 13 = nI (spn B n p) ∧ I' 163 14 = rkd (tkn B n p) ∧ (tkn B n p ≠ 28 → I' 163 12 = nI (nxp B n p)) ∧ (tkn B n p = 24 → I' 163 15 = nI (tvl B n p)) ∧ F_X12_next E (rr w 163) (Hw E w I L Q) = rtV (Hw E w I' L Q) := by
  unfold F_X12_next
  obtain ⟨I1, a1, a2, a3⟩ := m_next0 (E := E) (w := w) (L := L) (Q := Q) (B := B) hn (n - p) E.2.2.1 p I rfl hp (by omega) e6 e11 hb
  rw [a3]
  have ge := spn_ge (B := B) (n := n) (p := p)
  have le := spn_le (B := B) hp
  have a2' : I1 163 12 = nI (spn B n p) := a2
  unfold tvl
  generalize hs : spn B n p = s at *
  generalize eA : up2 I1 163 13 (nI s) = A
  have A7 : A 163 13 = nI s := by rw [← eA, up2_s]
  have A6 : A 163 12 = nI s := by rw [← eA, up2_i _ _ _ (by decide)]; exact a2'
  have Ai : ∀ i, i ≠ 12 → i ≠ 13 → A 163 i = I 163 i := fun i h1 h2 => by rw [← eA, up2_i _ _ _ h2]; exact a1.2 i h1
  have Ak : ∀ k, k ≠ 163 → A k = I k := fun k hk => by rw [← eA, up2_row _ _ hk]; exact a1.1 k hk
  have A11 : A 163 11 = nI n := by rw [Ai 11 (by decide) (by decide)]; exact e11
  have hA : mBy B n A := mBy_k hb (Ak 144 (by decide))
  unfold J_X12_next_52
  simp only [Option.bind_some, Option.map_some, Option.join, cI_r, cL_r, cV_r, xI_r, xL_r, xV_r, xI_t, xL_t, xV_t, lt_r, rtZ_0, rtZ_1, rtZ_zb, gf163_12, a2', pf163_13, eA, A6, gf163_11, A11]
  by_cases c1 : s < n
  · rw [if_pos ((nI_ltI (by omega) (by omega)).mpr c1)]
    have hb' := hA s c1
    have F := nIF (B s) hb'.2
    have li := f_isLetter (E := E) (b := B s) (h := Hw E w A L Q) hb'.2
    have di := f_isDigit (E := E) (b := B s) (h := Hw E w A L Q) hb'.2
    simp (disch := omega) only [Option.bind_some, Option.map_some, Option.join, cI_r, cL_r, cV_r, xI_r, xL_r, xV_r, xI_t, xL_t, xV_t, lt_r, rtZ_0, rtZ_1, rtZ_zb, gf163_9, ga144, ix_n, hb'.1, li]
    by_cases c4 : ltr (B s) = true
    · have c4' := ltr_t.mp c4
      have c2 : ¬ B s = 59 := by omega
      have c3 : ¬ dgt (B s) = true := fun z => by have := dgt_t.mp z; omega
      rw [zi_t c4]
      have tk : tkn B n p = wk B s (adv B n ltr (n - s) s) := by unfold tkn; rw [hs, if_neg (by omega), if_neg c2, if_neg c3, if_pos c4]
      have nx : nxp B n p = adv B n ltr (n - s) s := by unfold nxp; rw [hs, if_neg (by omega), if_neg c2, if_neg c3, if_pos c4]
      obtain ⟨I2, b1, b2, b3⟩ := m_next94 (E := E) (w := w) (L := L) (Q := Q) (B := B) hn (n - s) E.2.2.1 s A rfl le (by omega) A6 A11 hA
      have w28 : wk B s (adv B n ltr (n - s) s) < 24 ∨ wk B s (adv B n ltr (n - s) s) = 27 := by rcases wk_s (B := B) (st := s) (en := adv B n ltr (n - s) s) with h | h <;> omega
      rw [tk, nx]
      refine ⟨_, ⟨fun k hk => by rw [up2_row _ _ hk, b1.1 k hk, Ak k hk], fun i hi => by rw [up2_i _ _ _ (by omega), b1.2 i (by omega)]; exact Ai i (by omega) (by omega)⟩, by rw [up2_i _ _ _ (by decide), b1.2 13 (by decide)]; exact A7, ?_, fun _ => by rw [up2_i _ _ _ (by decide)]; exact b2, fun z => absurd z (by omega), b3⟩
      rw [up2_s]; unfold rkd
      rw [if_neg (by omega), if_neg (by omega), if_neg (by omega), if_neg (by omega)]
    · rw [zi_f c4, di, cI_r]
      by_cases c3 : dgt (B s) = true
      · have c3' := dgt_t.mp c3
        have c2 : ¬ B s = 59 := by omega
        rw [zi_t c3]
        have nx : nxp B n p = adv B n dgt (n - s) s := by unfold nxp; rw [hs, if_neg (by omega), if_neg c2, if_pos c3]
        have tk : tkn B n p = if 2 < adv B n dgt (n - s) s - s then 28 else 24 := by unfold tkn; rw [hs, if_neg (by omega), if_neg c2, if_pos c3]
        generalize eD : up2 A 163 15 0 = D
        have D9 : D 163 15 = 0 := by rw [← eD, up2_s]
        have Di : ∀ i, i ≠ 15 → D 163 i = A 163 i := fun i h1 => by rw [← eD, up2_i _ _ _ h1]
        have Dk : ∀ k, k ≠ 163 → D k = A k := fun k hk => by rw [← eD, up2_row _ _ hk]
        obtain ⟨I2, b1, b2, b3, b4⟩ := m_next141 (E := E) (w := w) (L := L) (Q := Q) (B := B) hn (n - s) E.2.2.1 s s D rfl le (Nat.le_refl _) (by omega) (by rw [Di 12 (by decide)]; exact A6) (by rw [Di 11 (by decide)]; exact A11) (by rw [Di 13 (by decide)]; exact A7) (by rw [D9]; unfold nv; rw [if_pos (Nat.le_refl _)]; rfl) (mBy_k hA (Dk 144 (by decide)))
        have ge2 := adv_ge (B := B) (n := n) (C := dgt) (n - s) s
        have le2 := adv_le (B := B) (n := n) (C := dgt) (n - s) s le
        rw [tk, nx]
        generalize adv B n dgt (n - s) s = e at *
        have f7 : I2 163 13 = nI s := by rw [b1.2 13 (by decide) (by decide), Di 13 (by decide)]; exact A7
        have sb : nI e - nI s = nI (e - s) := nI_sub' ge2
        have fr : ∀ v, Mx5 I (up2 I2 163 14 v) ∧ up2 I2 163 14 v 163 13 = nI s ∧ up2 I2 163 14 v 163 12 = nI e ∧ up2 I2 163 14 v 163 15 = nI (nv B s e) := fun v => ⟨⟨fun k hk => by rw [up2_row _ _ hk, b1.1 k hk, Dk k hk, Ak k hk], fun i hi => by rw [up2_i _ _ _ (by omega), b1.2 i (by omega) (by omega), Di i (by omega)]; exact Ai i (by omega) (by omega)⟩, by rw [up2_i _ _ _ (by decide)]; exact f7, by rw [up2_i _ _ _ (by decide)]; exact b2, by rw [up2_i _ _ _ (by decide)]; exact b3⟩
        simp only [Option.bind_some, Option.map_some, Option.join, cI_r, cL_r, cV_r, xI_r, xL_r, xV_r, xI_t, xL_t, xV_t, lt_r, rtZ_0, rtZ_1, rtZ_zb, pf163_15, eD, b4, gf163_12, b2, gf163_13, f7, sb, m2]
        by_cases c5 : 2 < e - s
        · rw [if_pos c5, if_neg (nI_ge c5 (by omega))]
          simp only [Option.bind_some, Option.map_some, Option.join, cI_r, cL_r, cV_r, xI_r, xL_r, xV_r, xI_t, xL_t, xV_t, lt_r, rtZ_0, rtZ_1, rtZ_zb, pf163_14]
          exact ⟨_, (fr _).1, (fr _).2.1, up2_s _ _ _ _, fun z => absurd rfl z, fun z => absurd z (by decide), rfl⟩
        · rw [if_neg c5, if_pos (nI_le (by omega) (by decide))]
          simp only [Option.bind_some, Option.map_some, Option.join, cI_r, cL_r, cV_r, xI_r, xL_r, xV_r, xI_t, xL_t, xV_t, lt_r, rtZ_0, rtZ_1, rtZ_zb, pf163_14]
          exact ⟨_, (fr _).1, (fr _).2.1, up2_s _ _ _ _, fun _ => (fr _).2.2.1, fun _ => (fr _).2.2.2, rfl⟩
      · rw [zi_f c3]
        have e12 : ∀ v, up2 A 163 14 v 163 12 = nI s := fun v => by rw [up2_i _ _ _ (by decide)]; exact A6
        unfold J_X12_next_249
        have fr : ∀ v, Mx5 I (up2 (up2 A 163 14 v) 163 12 (nI (s + 1))) ∧ up2 (up2 A 163 14 v) 163 12 (nI (s + 1)) 163 13 = nI s ∧ up2 (up2 A 163 14 v) 163 12 (nI (s + 1)) 163 14 = v := fun v => ⟨⟨fun k hk => by rw [up2_row _ _ hk, up2_row _ _ hk]; exact Ak k hk, fun i hi => by rw [up2_i _ _ _ (by omega), up2_i _ _ _ (by omega)]; exact Ai i (by omega) (by omega)⟩, by rw [up2_i _ _ _ (by decide), up2_i _ _ _ (by decide)]; exact A7, by rw [up2_i _ _ _ (by decide), up2_s]⟩
        by_cases c2 : B s = 59
        · rw [if_neg (not_not_intro (F.2.2.1.mpr c2))]
          have tk : tkn B n p = 25 := by unfold tkn; rw [hs, if_neg (by omega), if_pos c2]
          have nx : nxp B n p = s + 1 := by unfold nxp; rw [hs, if_neg (by omega), if_pos c2]
          rw [tk, nx]
          simp only [Option.bind_some, Option.map_some, Option.join, cI_r, cL_r, cV_r, xI_r, xL_r, xV_r, xI_t, xL_t, xV_t, lt_r, rtZ_0, rtZ_1, rtZ_zb, pf163_14, gf163_12, e12, pf163_12, nI_1]
          exact ⟨_, (fr _).1, (fr _).2.1, (fr _).2.2, fun _ => up2_s _ _ _ _, fun z => absurd z (by decide), rfl⟩
        · rw [if_pos (fun z => c2 (F.2.2.1.mp z))]
          have tk : tkn B n p = 28 := by unfold tkn; rw [hs, if_neg (by omega), if_neg c2, if_neg c3, if_neg c4]
          rw [tk]
          simp only [Option.bind_some, Option.map_some, Option.join, cI_r, cL_r, cV_r, xI_r, xL_r, xV_r, xI_t, xL_t, xV_t, lt_r, rtZ_0, rtZ_1, rtZ_zb, pf163_14, gf163_12, e12, pf163_12, nI_1]
          exact ⟨_, (fr _).1, (fr _).2.1, (fr _).2.2, fun z => absurd rfl z, fun z => absurd z (by decide), rfl⟩
  · rw [if_neg (fun z => c1 ((nI_ltI (by omega) (by omega)).mp z))]
    have tk : tkn B n p = 26 := by unfold tkn; rw [hs, if_pos (by omega)]
    have nx : nxp B n p = s := by unfold nxp; rw [hs, if_pos (by omega)]
    rw [tk, nx]
    simp only [Option.bind_some, Option.map_some, Option.join, cI_r, cL_r, cV_r, xI_r, xL_r, xV_r, xI_t, xL_t, xV_t, lt_r, rtZ_0, rtZ_1, rtZ_zb, pf163_14]
    exact ⟨_, ⟨fun k hk => by rw [up2_row _ _ hk]; exact Ak k hk, fun i hi => by rw [up2_i _ _ _ (by omega)]; exact Ai i (by omega) (by omega)⟩, by rw [up2_i _ _ _ (by decide)]; exact A7, up2_s _ _ _ _, fun _ => by rw [up2_i _ _ _ (by decide)]; exact A6, fun z => absurd z (by decide), rfl⟩
/-- the reference has read up to a token -/
def TR (B : Nat → Nat) (n : Nat) (I : Nat → Nat → Int32) (p : Nat) : Prop := p ≤ n ∧ I 163 11 = nI n ∧ I 163 16 = 0 ∧ I 163 13 = nI (spn B n p) ∧ I 163 14 = rkd (tkn B n p) ∧ (tkn B n p ≠ 28 → I 163 12 = nI (nxp B n p)) ∧ (tkn B n p = 24 → I 163 15 = nI (tvl B n p)) ∧ mBy B n I
theorem tkn_w {p : Nat} (hp : p ≤ n) (h : tkn B n p < 24 ∨ tkn B n p = 27) : spn B n p < n ∧ nxp B n p = adv B n ltr (n - spn B n p) (spn B n p) ∧ tkn B n p = wk B (spn B n p) (nxp B n p) := by
  unfold tkn nxp at *
  by_cases c1 : n ≤ spn B n p
  · rw [if_pos c1] at h; omega
  · rw [if_neg c1, if_neg c1] at *
    by_cases c2 : B (spn B n p) = 59
    · rw [if_pos c2] at h; omega
    · rw [if_neg c2, if_neg c2] at *
      by_cases c3 : dgt (B (spn B n p)) = true
      · rw [if_pos c3] at h
        split at h <;> omega
      · rw [if_neg c3, if_neg c3] at *
        by_cases c4 : ltr (B (spn B n p)) = true
        · rw [if_pos c4, if_pos c4]
          exact ⟨by omega, rfl, rfl⟩
        · rw [if_neg c4] at h; omega
theorem rkd_1 {κ : Nat} (h : κ ≤ 28) : rkd κ = 1 ↔ (κ < 24 ∨ κ = 27) := by
  unfold rkd
  repeat' split
  all_goals first | (refine ⟨fun z => absurd z (by decide), fun z => ?_⟩; omega) | (refine ⟨fun _ => ?_, fun _ => rfl⟩; omega)
theorem m_isWord {p j : Nat} (hG : 100000 ≤ E.2.2.1) (hn : n ≤ 200) (h : TR B n I p) (hj : j < 25) (hj1 : 1 ≤ j) : F_X12_isWord E (rr w 163) j (Hw E w I L Q) = rtI (zb (tkn B n p = wn j)) (Hw E w I L Q) := by
  obtain ⟨hp, h11, h16, h13, h14, h12, h15, hb⟩ := h
  have le28 := tkn_le (B := B) (n := n) (p := p)
  obtain ⟨x1, x2, x3⟩ := txF j hj hj1
  obtain ⟨G, hGG⟩ : ∃ G, E.2.2.1 = G + 1 := ⟨E.2.2.1 - 1, by omega⟩
  have sl : sLn j = some (nI (sln j)) := by unfold sLn; rw [if_pos hj]; rfl
  have z0 : L_X12_isWord_39 E (rr w 163) j E.2.2.1 0 0 (Hw E w I L Q) = rtI 0 (Hw E w I L Q) := by rw [hGG, L_X12_isWord_39, if_pos rfl]; rfl
  unfold F_X12_isWord
  simp only [Option.bind_some, Option.map_some, Option.join, cI_r, cL_r, cV_r, xI_r, xL_r, xV_r, xI_t, xL_t, xV_t, lt_r, rtZ_0, rtZ_1, rtZ_zb, gf163_16, h16, not_true_eq_false, if_false, gf163_14, h14]
  by_cases c1 : tkn B n p < 24 ∨ tkn B n p = 27
  · rw [if_neg (not_not_intro ((rkd_1 le28).mpr c1))]
    obtain ⟨y1, y2, y3⟩ := tkn_w hp c1
    have h12' := h12 (by omega)
    have ge2 := adv_ge (B := B) (n := n) (C := ltr) (n - spn B n p) (spn B n p)
    have le2 := adv_le (B := B) (n := n) (C := ltr) (n - spn B n p) (spn B n p) (by omega)
    have let' : ∀ i, spn B n p ≤ i → i < nxp B n p → 97 ≤ B i ∧ B i ≤ 122 := fun i g1 g2 => ltr_t.mp (adv_in (B := B) (n := n) (C := ltr) (n - spn B n p) (spn B n p) i g1 (by rw [← y2]; exact g2))
    rw [← y2] at ge2 le2
    have key : (nxp B n p - spn B n p = sln j ∧ ∀ i, i < sln j → B (spn B n p + i) = sch j i) ↔ tkn B n p = wn j := by
      rw [Mt_iff hj hj1 let' ge2, y3, wk_k x2]
    generalize nxp B n p = e at *
    generalize spn B n p = s at *
    simp only [Option.bind_some, Option.map_some, Option.join, cI_r, cL_r, cV_r, xI_r, xL_r, xV_r, xI_t, xL_t, xV_t, lt_r, rtZ_0, rtZ_1, rtZ_zb, gf163_12, h12', gf163_13, h13, sl, nI_sub' ge2]
    by_cases c2 : e - s = sln j
    · rw [if_neg (not_not_intro (by rw [c2]))]
      refine lpE (σ := Int32) (Lp := fun g i s' => L_X12_isWord_39 E (rr w 163) j g s' (nI i) (Hw E w I L Q)) (Iv := fun i s' => s' = zb (∀ i', i' < i → B (s + i') = sch j i')) (Post := fun o => o = rtI (zb (tkn B n p = wn j)) (Hw E w I L Q)) (N := sln j) ?_ ?_ E.2.2.1 0 1 (by omega) (by omega) (zb_t (fun i' hi' => absurd hi' (by omega))).symm
      · rintro g i s' hi es
        by_cases c3 : ∀ i', i' < i → B (s + i') = sch j i'
        · left
          rw [zb_t c3] at es
          subst es
          have hb' := (hb (s + i) (by omega)).1
          have hbl := (hb (s + i) (by omega)).2
          have sc : sCh j (nI i) = some (nI (sch j i)) := by
            unfold sCh
            rw [if_pos hj, ix_n hi (by omega)]
            rfl
          have scl : sch j i ≤ 122 := ((x3 i (by omega)).1 hi).2.2
          have t0 : L_X12_isWord_39 E (rr w 163) j (g + 1) 1 (nI i) (Hw E w I L Q) = if ¬ nI (B (s + i)) = nI (sch j i) then L_X12_isWord_39 E (rr w 163) j g 0 (nI (i + 1)) (Hw E w I L Q) else L_X12_isWord_39 E (rr w 163) j g 1 (nI (i + 1)) (Hw E w I L Q) := by
            rw [L_X12_isWord_39, if_neg (by decide)]
            simp (disch := omega) only [Option.bind_some, Option.map_some, Option.join, cI_r, cL_r, cV_r, xI_r, xL_r, xV_r, xI_t, xL_t, xV_t, lt_r, rtZ_0, rtZ_1, rtZ_zb, sl, nI_leI, if_neg, gf163_9, gf163_13, h13, nI_add, ga144, ix_n, hb', sc, nI_1]
          have q : nI (B (s + i)) = nI (sch j i) ↔ B (s + i) = sch j i := nI_eq (by omega) (by omega)
          by_cases c4 : B (s + i) = sch j i
          · refine ⟨1, (zb_t (fun i' hi' => ?_)).symm, ?_⟩
            · by_cases e : i' = i
              · rw [e]; exact c4
              · exact c3 i' (by omega)
            · show L_X12_isWord_39 E (rr w 163) j (g + 1) 1 (nI i) (Hw E w I L Q) = _
              rw [t0, if_neg (not_not_intro (q.mpr c4))]
          · refine ⟨0, (zb_f (fun z => c4 (z i (by omega)))).symm, ?_⟩
            show L_X12_isWord_39 E (rr w 163) j (g + 1) 1 (nI i) (Hw E w I L Q) = _
            rw [t0, if_pos (fun z => c4 (q.mp z))]
        · right
          rw [zb_f c3] at es
          subst es
          show L_X12_isWord_39 E (rr w 163) j (g + 1) 0 (nI i) (Hw E w I L Q) = _
          rw [L_X12_isWord_39, if_pos rfl, zb_f (fun z => c3 (fun i' hi' => (key.mpr z).2 i' (by omega)))]
          rfl
      · rintro g s' es
        by_cases c3 : ∀ i', i' < sln j → B (s + i') = sch j i'
        · rw [zb_t c3] at es
          subst es
          show L_X12_isWord_39 E (rr w 163) j (g + 1) 1 (nI (sln j)) (Hw E w I L Q) = _
          rw [L_X12_isWord_39, if_neg (by decide), sl, Option.bind_some, if_pos (nI_le (Nat.le_refl _) (by omega)), zb_t (key.mp ⟨c2, c3⟩)]
          rfl
        · rw [zb_f c3] at es
          subst es
          show L_X12_isWord_39 E (rr w 163) j (g + 1) 0 (nI (sln j)) (Hw E w I L Q) = _
          rw [L_X12_isWord_39, if_pos rfl, zb_f (fun z => c3 (key.mpr z).2)]
          rfl
    · rw [if_pos (fun z => c2 ((nI_eq (by omega) (by omega)).mp z)), z0, zb_f (fun z => c2 (key.mpr z).1)]
  · rw [if_pos (fun z => c1 ((rkd_1 le28).mp z)), z0, zb_f (fun z => c1 (Or.inl (by rw [z]; exact x2)))]
end
