/-! the class' sets of states -/
theorem cnt_gap {P : Nat → Prop} {a b : Nat} (h : a ≤ b) (hn : ∀ j, a ≤ j → j < b → ¬ P j) : cntP P b = cntP P a := by
  induction b with
  | zero => rw [show a = 0 by omega]
  | succ b ih =>
    by_cases e : a = b + 1
    · rw [e]
    · rw [cntP_f (hn b (by omega) (by omega))]; exact ih (by omega) (fun j h1 h2 => hn j h1 (by omega))
theorem cnt_add {P : Nat → Prop} (a b : Nat) : cntP P (a + b) = cntP P a + cntP (fun j => P (a + j)) b := by
  induction b with
  | zero => rfl
  | succ b ih =>
    by_cases p : P (a + b)
    · rw [← Nat.add_assoc, cntP_t p, cntP_t (P := fun j => P (a + j)) p, ih, Nat.add_assoc]
    · rw [← Nat.add_assoc, cntP_f p, cntP_f (P := fun j => P (a + j)) p, ih]
theorem cnt_two {P : Nat → Prop} (n : Nat) : cntP P (2 * n) = cntP (fun j => P (2 * j)) n + cntP (fun j => P (2 * j + 1)) n := by
  induction n with
  | zero => rfl
  | succ n ih =>
    rw [show 2 * (n + 1) = 2 * n + 1 + 1 by omega]
    by_cases p : P (2 * n)
    · by_cases p2 : P (2 * n + 1)
      · rw [cntP_t p2, cntP_t p, cntP_t (P := fun j => P (2 * j)) p, cntP_t (P := fun j => P (2 * j + 1)) p2]; omega
      · rw [cntP_f p2, cntP_t p, cntP_t (P := fun j => P (2 * j)) p, cntP_f (P := fun j => P (2 * j + 1)) p2]; omega
    · by_cases p2 : P (2 * n + 1)
      · rw [cntP_t p2, cntP_f p, cntP_f (P := fun j => P (2 * j)) p, cntP_t (P := fun j => P (2 * j + 1)) p2]; omega
      · rw [cntP_f p2, cntP_f p, cntP_f (P := fun j => P (2 * j)) p, cntP_f (P := fun j => P (2 * j + 1)) p2]; omega
/-- a set of states in four longs, as the class has it -/
def bq (G : Nat → Int64) (s : Nat) : Prop := b64 (G (2 * (s % 2) + s / 2 / 64)) (s / 2 % 64)
def SO (w : Wo) (k : Nat) : Prop := lvk w k ∧ sh k = .inr (6, [k + 1 + 3]) ∧ LA w (k + 1) 4
/-- arrows in two longs -/
def ba (lo hi : Int64) (a : Nat) : Prop := b64 (if a / 64 = 0 then lo else hi) (a % 64)
def adS (L : Nat → Nat → Int64) (k s : Nat) : Nat → Nat → Int64 := orb L k (2 * (s % 2) + s / 2 / 64) (s / 2 % 64)
def adA (L : Nat → Nat → Int64) (k : Nat) (lo hi : Int64) : Nat → Nat → Int64 := up2 (up2 L k 0 (L k 0 ||| lo)) k 1 (L k 1 ||| hi)
section
variable {E : Ev} {w : Wo} {I : Nat → Nat → Int32} {L : Nat → Nat → Int64} {Q : Nat → Nat → Option Nat} {c : Nat → Nat} {T : Ro} {x : Int32}
theorem SO.o {k : Nat} (h : SO w k) : isO (Hw E w I L Q) (rr w k) 6 = some () := isO_w h.1 h.2.1
theorem SO.gf {k : Nat} (h : SO w k) : gfR (Hw E w I L Q) (rr w k) 6 0 = some (rr w (k + 1)) := gfC_w h.1 h.2.1 rfl
theorem so43 : SO w 43 := ⟨lv_of (by decide), rfl, lv_of (by decide), rfl, by decide⟩
theorem so45 : SO w 45 := ⟨lv_of (by decide), rfl, lv_of (by decide), rfl, by decide⟩
theorem so58 : SO w 58 := ⟨lv_of (by decide), rfl, lv_of (by decide), rfl, by decide⟩
theorem so69 : SO w 69 := ⟨lv_of (by decide), rfl, lv_of (by decide), rfl, by decide⟩
theorem so73 : ∀ n, n < 24 → SO w (73 + 2 * n) := by
  have h : ∀ n, n < 24 → sh (73 + 2 * n) = .inr (6, [73 + 2 * n + 1 + 3]) ∧ sh (73 + 2 * n + 1) = .inl (1, 4) := by decide
  intro n hn
  exact ⟨lv_of (by omega), (h n hn).1, lv_of (by omega), (h n hn).2, by decide⟩
theorem adS_row {k s k' : Nat} (h : k' ≠ k) : adS L k s k' = L k' := orb_row h
theorem adS_b {k s q : Nat} (hs : s < 256) (hq : q < 256) : bq (adS L k s k) q ↔ bq (L k) q ∨ q = s := by
  unfold bq adS
  rw [orb_b (by omega)]
  exact or_congr_right ⟨fun z => by omega, fun z => by rw [z]; exact ⟨rfl, rfl⟩⟩
theorem adA_row {k k' : Nat} {lo hi : Int64} (h : k' ≠ k) : adA L k lo hi k' = L k' := by unfold adA; rw [up2_row _ _ h, up2_row _ _ h]
theorem adA_b {k q : Nat} {lo hi : Int64} (hq : q < 256) : bq (adA L k lo hi k) q ↔ bq (L k) q ∨ (q % 2 = 0 ∧ ba lo hi (q / 2)) := by
  unfold bq ba
  have e : adA L k lo hi k (2 * (q % 2) + q / 2 / 64) = if q % 2 = 0 then (L k (q / 2 / 64) ||| (if q / 2 / 64 = 0 then lo else hi)) else L k (2 * (q % 2) + q / 2 / 64) := by
    unfold adA
    by_cases p : q % 2 = 0
    · rw [if_pos p, p]
      by_cases p2 : q / 2 / 64 = 0
      · rw [if_pos p2, p2, up2_i _ _ _ (by omega), show 2 * 0 + 0 = 0 from rfl, up2_s]
      · rw [if_neg p2, show q / 2 / 64 = 1 by omega, show 2 * 0 + 1 = 1 from rfl, up2_s]
    · rw [if_neg p, up2_i _ _ _ (by omega), up2_i _ _ _ (by omega)]
  rw [e]
  by_cases p : q % 2 = 0
  · rw [if_pos p, b64_or, p, show 2 * 0 + q / 2 / 64 = q / 2 / 64 by omega]
    exact or_congr_right ⟨fun z => ⟨rfl, z⟩, fun z => z.2⟩
  · rw [if_neg p]
    exact ⟨Or.inl, fun z => z.elim id (fun z => absurd z.1 p)⟩
theorem c_clear {k : Nat} (hG : 100000 ≤ E.2.2.1) (hk : SO w k) : F_X6_clear E (rr w k) (Hw E w I L Q) = rtV (Hw E w I (rs L (k + 1) 0 4 (fun _ => 0)) Q) := by
  unfold F_X6_clear
  simp only [Option.bind_some, Option.map_some, Option.join, cI_r, cL_r, cV_r, xI_r, xL_r, xV_r, xI_t, xL_t, xV_t, lt_r, rtZ_0, rtZ_1, rtZ_zb, hk.gf, f_fillL hG hk.2.2.1 hk.2.2.2.1 (by decide)]
theorem clr_b {k q : Nat} (hq : q < 256) : ¬ bq (rs L k 0 4 (fun _ => 0) k) q := by
  unfold bq
  rw [rs_in _ _ (by omega) (by omega)]
  exact b64_0
theorem c_add {k s : Nat} (hk : SO w k) (hs : s < 256) : F_X6_add E (rr w k) (nI s) (Hw E w I L Q) = rtV (Hw E w I (adS L (k + 1) s) Q) := by
  unfold F_X6_add
  simp (disch := omega) only [Option.bind_some, Option.map_some, Option.join, cI_r, cL_r, cV_r, xI_r, xL_r, xV_r, xI_t, xL_t, xV_t, lt_r, rtZ_0, rtZ_1, rtZ_zb, m2, m3, m4, m5, m6, m7, m8, m9, m10, m11, m12, m13, m14, m15, m16, m17, m18, m19, m20, m21, m22, m23, m24, m25, m26, m27, m28, m29, m30, m31, m32, m40, m41, m60, m63, m64, m90, m99, m100, m120, m127, m164, m173, m200, m240, m255, m450, m480, m650, m722, m762, m960, m1000000, m2838, m2988, m4095, pk_mul, nI_add, nI_1, nI_leI, nI_ltI, nI_eq, ix_n, sh1, sh6, ad1, ad63, hk.gf, hk.2.2.ga, hk.2.2.pa]
  rfl
theorem c_addArrows {k : Nat} {lo hi : Int64} (hk : SO w k) : F_X6_addArrows E (rr w k) lo hi (Hw E w I L Q) = rtV (Hw E w I (adA L (k + 1) lo hi) Q) := by
  unfold F_X6_addArrows
  simp only [Option.bind_some, Option.map_some, Option.join, cI_r, cL_r, cV_r, xI_r, xL_r, xV_r, xI_t, xL_t, xV_t, lt_r, rtZ_0, rtZ_1, rtZ_zb, hk.gf, hk.2.2.ga, hk.2.2.pa, show ix 0 4 = some 0 from rfl, show ix 1 4 = some 1 from rfl, up2_i L (k + 1) (i := 0) (i' := 1) _ (by decide)]
  rfl
theorem bq_at {G : Nat → Int64} (hf par j : Nat) (h1 : hf < 2) (h2 : par < 2) (hj : j < 64) : bq G (2 * (64 * hf + j) + par) ↔ b64 (G (2 * par + hf)) j := by
  unfold bq
  rw [show (2 * (64 * hf + j) + par) % 2 = par by omega, show (2 * (64 * hf + j) + par) / 2 = 64 * hf + j by omega, show (64 * hf + j) / 64 = hf by omega, show (64 * hf + j) % 64 = j by omega]
theorem c_isEmpty {k : Nat} (hk : SO w k) : F_X6_isEmpty E (rr w k) (Hw E w I L Q) = rtI (zb (∀ q, q < 256 → ¬ bq (L (k + 1)) q)) (Hw E w I L Q) := by
  have e : (((L (k + 1) 0 ||| L (k + 1) 1) ||| L (k + 1) 2) ||| L (k + 1) 3) = 0 ↔ ∀ q, q < 256 → ¬ bq (L (k + 1)) q := by
    rw [or0_64, or0_64, or0_64]
    constructor
    · rintro ⟨⟨⟨h0, h1⟩, h2⟩, h3⟩ q hq
      unfold bq
      have : 2 * (q % 2) + q / 2 / 64 = 0 ∨ 2 * (q % 2) + q / 2 / 64 = 1 ∨ 2 * (q % 2) + q / 2 / 64 = 2 ∨ 2 * (q % 2) + q / 2 / 64 = 3 := by omega
      rcases this with z | z | z | z <;> rw [z]
      · rw [h0]; exact b64_0
      · rw [h1]; exact b64_0
      · rw [h2]; exact b64_0
      · rw [h3]; exact b64_0
    · intro h
      have g : ∀ par hf, par < 2 → hf < 2 → L (k + 1) (2 * par + hf) = 0 := fun par hf h1 h2 => z64.mpr fun j hj z => h (2 * (64 * hf + j) + par) (by omega) ((bq_at hf par j h2 h1 hj).mpr z)
      exact ⟨⟨⟨g 0 0 (by decide) (by decide), g 0 1 (by decide) (by decide)⟩, g 1 0 (by decide) (by decide)⟩, g 1 1 (by decide) (by decide)⟩
  unfold F_X6_isEmpty
  simp only [Option.bind_some, Option.map_some, Option.join, cI_r, cL_r, cV_r, xI_r, xL_r, xV_r, xI_t, xL_t, xV_t, lt_r, rtZ_0, rtZ_1, rtZ_zb, hk.gf, hk.2.2.ga, show ix 0 4 = some 0 from rfl, show ix 1 4 = some 1 from rfl, show ix 2 4 = some 2 from rfl, show ix 3 4 = some 3 from rfl]
  by_cases p : ∀ q, q < 256 → ¬ bq (L (k + 1)) q
  · rw [if_neg (not_not_intro (e.mpr p)), zb_t p]
  · rw [if_pos (fun z => p (e.mp z)), zb_f p]
theorem c_size {k : Nat} (hk : SO w k) (hX : ∀ q, q < 256 → bq (L (k + 1)) q → q < 240) : F_X6_size E (rr w k) (Hw E w I L Q) = rtI (nI (cntP (bq (L (k + 1))) 240)) (Hw E w I L Q) := by
  unfold F_X6_size
  simp only [Option.bind_some, Option.map_some, Option.join, cI_r, cL_r, cV_r, xI_r, xL_r, xV_r, xI_t, xL_t, xV_t, lt_r, rtZ_0, rtZ_1, rtZ_zb, hk.gf, hk.2.2.ga, show ix 0 4 = some 0 from rfl, show ix 1 4 = some 1 from rfl, show ix 2 4 = some 2 from rfl, show ix 3 4 = some 3 from rfl, f_bitCount, nI_add]
  congr 2
  have e1 : cntP (bq (L (k + 1))) 256 = cntP (bq (L (k + 1))) 240 := cnt_gap (by decide) (fun j h1 h2 z => by have := hX j h2 z; omega)
  rw [← e1, show 256 = 2 * (64 + 64) from rfl, cnt_two, cnt_add, cnt_add]
  have f : ∀ par hf, par < 2 → hf < 2 → cntP (fun j => bq (L (k + 1)) (2 * (64 * hf + j) + par)) 64 = cntP (b64 (L (k + 1) (2 * par + hf))) 64 := fun par hf h1 h2 => cnt_c (fun j hj => bq_at hf par j h2 h1 hj)
  have f00 := f 0 0 (by decide) (by decide)
  have f01 := f 0 1 (by decide) (by decide)
  have f10 := f 1 0 (by decide) (by decide)
  have f11 := f 1 1 (by decide) (by decide)
  simp only [Nat.mul_zero, Nat.zero_add, Nat.add_zero, Nat.mul_one, Nat.reduceAdd] at f00 f01 f10 f11
  rw [f00, f01, f10, f11]
  omega
theorem f_stateOf {q k : Nat} {h : Hp} (hq : q < 4) (hk : k < 64) : F_X6_stateOf E (nI q) (nI k) h = rtI (nI (2 * (64 * (q % 2) + k) + q / 2)) h := by
  unfold F_X6_stateOf
  simp (disch := omega) only [m2, m3, m4, m5, m6, m7, m8, m9, m10, m11, m12, m13, m14, m15, m16, m17, m18, m19, m20, m21, m22, m23, m24, m25, m26, m27, m28, m29, m30, m31, m32, m40, m41, m60, m63, m64, m90, m99, m100, m120, m127, m164, m173, m200, m240, m255, m450, m480, m650, m722, m762, m960, m1000000, m2838, m2988, m4095, pk_mul, nI_add, nI_1, nI_leI, nI_ltI, nI_eq, ix_n, ad1, sh1]
/-- the states of a set, in order -/
def lstd (R : Ro) (X : Nat → Prop) (N : Nat) : Prop := ∀ s, s < N → X s → R (cntP X s) = nI s
theorem c_list33 {k t n hf : Nat} {K : Int32 → Hp → Rs} (hG : 100000 ≤ E.2.2.1) (hk : SO w k) (ht : IA w t n) (hn : 240 ≤ n) (hX : ∀ q, q < 256 → bq (L (k + 1)) q → q < 240) (hh : hf < 2) (h0 : lstd (I t) (bq (L (k + 1))) (128 * hf)) : ∃ I', (∀ k', k' ≠ t → I' k' = I k') ∧ lstd (I' t) (bq (L (k + 1))) (128 * (hf + 1)) ∧ L_X6_list_33 E K (rr w k) (rr w t) (nI hf) E.2.2.1 (nI (cntP (bq (L (k + 1))) (128 * hf))) (L (k + 1) hf ||| L (k + 1) (hf + 2)) (nI (cntP (b64 (L (k + 1) hf ||| L (k + 1) (hf + 2))) 64)) (Hw E w I L Q) = K (nI (cntP (bq (L (k + 1))) (128 * (hf + 1)))) (Hw E w I' L Q) := by
  generalize hP : bq (L (k + 1)) = X at *
  generalize hx0 : L (k + 1) hf ||| L (k + 1) (hf + 2) = x0
  have xe : ∀ j, j < 64 → (X (2 * (64 * hf + j)) ↔ b64 (L (k + 1) hf) j) := fun j hj => by
    have := bq_at (G := L (k + 1)) hf 0 j hh (by decide) hj
    rw [hP] at this
    rw [show 2 * 0 + hf = hf by omega] at this
    exact this
  have xo : ∀ j, j < 64 → (X (2 * (64 * hf + j) + 1) ↔ b64 (L (k + 1) (hf + 2)) j) := fun j hj => by
    have := bq_at (G := L (k + 1)) hf 1 j hh (by decide) hj
    rw [hP] at this
    rw [show 2 * 1 + hf = hf + 2 by omega] at this
    exact this
  have xb : ∀ j, j < 64 → (b64 x0 j ↔ X (2 * (64 * hf + j)) ∨ X (2 * (64 * hf + j) + 1)) := fun j hj => by
    rw [xe j hj, xo j hj, ← hx0]; exact b64_or
  have hN : cntP (b64 x0) 64 ≤ 64 := cntP_le 64
  generalize eN : cntP (b64 x0) 64 = N at hN
  refine lpK2 (σ := (Nat → Nat → Int32) × Int64 × Nat) (Lp := fun g r s => L_X6_list_33 E K (rr w k) (rr w t) (nI hf) g (nI (cntP X s.2.2)) s.2.1 (nI (N - r)) (Hw E w s.1 L Q)) (K := fun s => K (nI (cntP X s.2.2)) (Hw E w s.1 L Q)) (Iv := fun r s => (∀ k', k' ≠ t → s.1 k' = I k') ∧ rem x0 r s.2.1 ∧ lstd (s.1 t) X s.2.2 ∧ 128 * hf ≤ s.2.2 ∧ (s.2.2 ≤ 128 * (hf + 1) ∧ s.2.2 % 2 = 0) ∧ ∀ j, j < 64 → b64 x0 j → (cntP (b64 x0) j < r ↔ 2 * (64 * hf + j) < s.2.2)) (N := N) (g := E.2.2.1) (i := 0) (s := (I, x0, 128 * hf)) ?_ ?_ ?_ (by omega) (by omega) ⟨fun _ _ => rfl, rem_0 x0, h0, Nat.le_refl _, ⟨by show 128 * hf ≤ _; omega, by show 128 * hf % 2 = 0; omega⟩, fun j hj _ => ⟨fun z => absurd z (by omega), fun z => absurd z (by show ¬ _ < 128 * hf; omega)⟩⟩
  · rintro ⟨I', xr, F⟩ ⟨z1, z2, z3, z4, z5, z6⟩ ee
    dsimp only at *
    have gap : ∀ j, F ≤ j → j < 128 * (hf + 1) → ¬ X j := fun j h1 h2 z => by
      have hb : b64 x0 ((j - 128 * hf) / 2) := (xb _ (by omega)).mpr (by
        by_cases p : j % 2 = 0
        · left; rw [show 2 * (64 * hf + (j - 128 * hf) / 2) = j by omega]; exact z
        · right; rw [show 2 * (64 * hf + (j - 128 * hf) / 2) + 1 = j by omega]; exact z)
      have h3 := (z6 _ (by omega) hb).mp (by rw [← eN]; exact cnt_lt hb (by omega))
      omega
    refine ⟨I', z1, fun s hs xs => ?_, ?_⟩
    · by_cases p : s < F
      · exact z3 s p xs
      · exact absurd xs (gap s (by omega) hs)
    · rw [cnt_gap z5.1 gap]; exact ee
  · rintro g r ⟨I1, xr, F⟩ hr ⟨z1, z2, z3, z4, z5, z6⟩
    dsimp only at *
    obtain ⟨kk, hkk, b1, b2, b3, b4, b5, -⟩ := rem_k z2 (by rw [eN]; exact hr)
    have hF : F ≤ 2 * (64 * hf + kk) := by
      have : ¬ 2 * (64 * hf + kk) < F := fun z => by have := (z6 kk hkk b1).mpr z; omega
      omega
    have gap : ∀ j, F ≤ j → j < 2 * (64 * hf + kk) → ¬ X j := fun j h1 h2 z => by
      have hb : b64 x0 ((j - 128 * hf) / 2) := (xb _ (by omega)).mpr (by
        by_cases p : j % 2 = 0
        · left; rw [show 2 * (64 * hf + (j - 128 * hf) / 2) = j by omega]; exact z
        · right; rw [show 2 * (64 * hf + (j - 128 * hf) / 2) + 1 = j by omega]; exact z)
      have h3 := cnt_lt hb (show (j - 128 * hf) / 2 < kk by omega)
      have h4 := (z6 _ (by omega) hb).mp (by omega)
      omega
    have eF : cntP X F = cntP X (2 * (64 * hf + kk)) := (cnt_gap hF gap).symm
    have l0 : lstd (I1 t) X (2 * (64 * hf + kk)) := fun s hs xs => by
      by_cases p : s < F
      · exact z3 s p xs
      · exact absurd xs (gap s (by omega) hs)
    have em : nI (N - r) + -1 = nI (N - (r + 1)) := by rw [show N - r = N - (r + 1) + 1 by omega]; exact pk_m1 _
    have ze : zb (b64 (L (k + 1) hf) kk) = zb (X (2 * (64 * hf + kk))) := zb_c (xe kk hkk).symm
    have zo : zb (b64 (L (k + 1) (hf + 2)) kk) = zb (X (2 * (64 * hf + kk) + 1)) := zb_c (xo kk hkk).symm
    have s0 : 2 * (64 * (hf % 2) + kk) + hf / 2 = 2 * (64 * hf + kk) := by omega
    have s1 : 2 * (64 * ((hf + 2) % 2) + kk) + (hf + 2) / 2 = 2 * (64 * hf + kk) + 1 := by omega
    have hn2 := ht.2.2
    generalize ea : 2 * (64 * hf + kk) = a at *
    have ha : a < 256 := by omega
    have J80 : ∀ (I2 : Nat → Nat → Int32) (mn : Nat) (u1 : Int64) (y6 : Int32), (X (a + 1) → mn < 240) → J_X6_list_80 E (fun w2 w3 w4 h6 => L_X6_list_33 E K (rr w k) (rr w t) (nI hf) g w2 w3 w4 h6) (rr w k) (rr w t) (nI mn) (nI hf) u1 y6 (nI kk) (Hw E w I2 L Q) = if zb (X (a + 1)) = 0 then L_X6_list_33 E K (rr w k) (rr w t) (nI hf) g (nI mn) u1 (y6 + -1) (Hw E w I2 L Q) else L_X6_list_33 E K (rr w k) (rr w t) (nI hf) g (nI (mn + 1)) u1 (y6 + -1) (Hw E w (up2 I2 t mn (nI (a + 1))) L Q) := by
      intro I2 mn u1 y6 hmn
      unfold J_X6_list_80
      simp (disch := omega) only [Option.bind_some, Option.map_some, Option.join, cI_r, cL_r, cV_r, xI_r, xL_r, xV_r, xI_t, xL_t, xV_t, lt_r, rtZ_0, rtZ_1, rtZ_zb, m2, m3, m4, m5, m6, m7, m8, m9, m10, m11, m12, m13, m14, m15, m16, m17, m18, m19, m20, m21, m22, m23, m24, m25, m26, m27, m28, m29, m30, m31, m32, m40, m41, m60, m63, m64, m90, m99, m100, m120, m127, m164, m173, m200, m240, m255, m450, m480, m650, m722, m762, m960, m1000000, m2838, m2988, m4095, pk_mul, nI_add, nI_1, nI_leI, nI_ltI, nI_eq, ix_n, hk.gf, hk.2.2.ga, f_isIn, zo, f_stateOf, s1]
      by_cases p : X (a + 1)
      · have := hmn p
        rw [zi_t p, zi_t p]
        simp (disch := omega) only [Option.bind_some, Option.map_some, Option.join, cI_r, cL_r, cV_r, xI_r, xL_r, xV_r, xI_t, xL_t, xV_t, lt_r, rtZ_0, rtZ_1, rtZ_zb, m2, m3, m4, m5, m6, m7, m8, m9, m10, m11, m12, m13, m14, m15, m16, m17, m18, m19, m20, m21, m22, m23, m24, m25, m26, m27, m28, m29, m30, m31, m32, m40, m41, m60, m63, m64, m90, m99, m100, m120, m127, m164, m173, m200, m240, m255, m450, m480, m650, m722, m762, m960, m1000000, m2838, m2988, m4095, pk_mul, nI_add, nI_1, nI_leI, nI_ltI, nI_eq, ix_n, ht.pa]
      · rw [zi_f p, zi_f p]
    have mlt : ∀ q, X q → q < 256 → cntP X q < 240 := fun q hx hq => Nat.lt_of_le_of_lt (cntP_le q) (hX q hq hx)
    have step : L_X6_list_33 E K (rr w k) (rr w t) (nI hf) (g + 1) (nI (cntP X F)) xr (nI (N - r)) (Hw E w I1 L Q) = if zb (X a) = 0 then (if zb (X (a + 1)) = 0 then L_X6_list_33 E K (rr w k) (rr w t) (nI hf) g (nI (cntP X a)) (xr &&& (xr - 1)) (nI (N - (r + 1))) (Hw E w I1 L Q) else L_X6_list_33 E K (rr w k) (rr w t) (nI hf) g (nI (cntP X a + 1)) (xr &&& (xr - 1)) (nI (N - (r + 1))) (Hw E w (up2 I1 t (cntP X a) (nI (a + 1))) L Q)) else (if zb (X (a + 1)) = 0 then L_X6_list_33 E K (rr w k) (rr w t) (nI hf) g (nI (cntP X a + 1)) (xr &&& (xr - 1)) (nI (N - (r + 1))) (Hw E w (up2 I1 t (cntP X a) (nI a)) L Q) else L_X6_list_33 E K (rr w k) (rr w t) (nI hf) g (nI (cntP X a + 1 + 1)) (xr &&& (xr - 1)) (nI (N - (r + 1))) (Hw E w (up2 (up2 I1 t (cntP X a) (nI a)) t (cntP X a + 1) (nI (a + 1))) L Q)) := by
      rw [L_X6_list_33, if_neg (nI_nle (show 0 < N - r by omega) (by omega)), f_lowest b3 b4]
      simp (disch := omega) only [Option.bind_some, Option.map_some, Option.join, cI_r, cL_r, cV_r, xI_r, xL_r, xV_r, xI_t, xL_t, xV_t, lt_r, rtZ_0, rtZ_1, rtZ_zb, m2, m3, m4, m5, m6, m7, m8, m9, m10, m11, m12, m13, m14, m15, m16, m17, m18, m19, m20, m21, m22, m23, m24, m25, m26, m27, m28, m29, m30, m31, m32, m40, m41, m60, m63, m64, m90, m99, m100, m120, m127, m164, m173, m200, m240, m255, m450, m480, m650, m722, m762, m960, m1000000, m2838, m2988, m4095, pk_mul, nI_add, nI_1, nI_leI, nI_ltI, nI_eq, ix_n, hk.gf, hk.2.2.ga, f_isIn, ze, f_stateOf, s0, eF]
      by_cases p : X a
      · have pl := mlt a p (by omega)
        rw [zi_t p, zi_t p]
        simp (disch := omega) only [Option.bind_some, Option.map_some, Option.join, cI_r, cL_r, cV_r, xI_r, xL_r, xV_r, xI_t, xL_t, xV_t, lt_r, rtZ_0, rtZ_1, rtZ_zb, m2, m3, m4, m5, m6, m7, m8, m9, m10, m11, m12, m13, m14, m15, m16, m17, m18, m19, m20, m21, m22, m23, m24, m25, m26, m27, m28, m29, m30, m31, m32, m40, m41, m60, m63, m64, m90, m99, m100, m120, m127, m164, m173, m200, m240, m255, m450, m480, m650, m722, m762, m960, m1000000, m2838, m2988, m4095, pk_mul, nI_add, nI_1, nI_leI, nI_ltI, nI_eq, ix_n, ht.pa]
        rw [J80 _ _ _ _ (fun z => by have := mlt (a + 1) z (by omega); rw [cntP_t p] at this; exact this), em]
      · rw [zi_f p, zi_f p]
        rw [J80 _ _ _ _ (fun z => by have := mlt (a + 1) z (by omega); rw [cntP_f p] at this; exact this), em]
    have z6' : ∀ j, j < 64 → b64 x0 j → (cntP (b64 x0) j < r + 1 ↔ 2 * (64 * hf + j) < a + 2) := fun j hj bj => by
      constructor
      · intro z
        by_cases e : cntP (b64 x0) j = r
        · have := cnt_inj bj b1 (e.trans b2.symm); omega
        · have := (z6 j hj bj).mp (by omega); omega
      · intro z
        have := cnt_mono (P := b64 x0) (show j ≤ kk by omega)
        omega
    have F' : 128 * hf ≤ a + 2 ∧ (a + 2 ≤ 128 * (hf + 1) ∧ (a + 2) % 2 = 0) := by omega
    by_cases p : X a
    · have c1 : cntP X (a + 1) = cntP X a + 1 := cntP_t p
      by_cases p1 : X (a + 1)
      · have c2 : cntP X (a + 2) = cntP X a + 1 + 1 := by rw [show a + 2 = a + 1 + 1 from rfl, cntP_t p1, c1]
        refine ⟨(up2 (up2 I1 t (cntP X a) (nI a)) t (cntP X a + 1) (nI (a + 1)), xr &&& (xr - 1), a + 2), ⟨fun k' hk' => ?_, b5, fun s hs xs => ?_, F'.1, F'.2, z6'⟩, ?_⟩
        · show up2 (up2 I1 t _ _) t _ _ k' = _
          rw [up2_row _ _ hk', up2_row _ _ hk']; exact z1 k' hk'
        · show up2 (up2 I1 t (cntP X a) (nI a)) t (cntP X a + 1) (nI (a + 1)) t (cntP X s) = nI s
          by_cases e1 : s = a + 1
          · rw [e1, c1, up2_s]
          · by_cases e2 : s = a
            · rw [e2, up2_i _ _ _ (by omega), up2_s]
            · have hs' : s < a := by have : s < a + 2 := hs; omega
              have := cnt_lt xs hs'
              rw [up2_i _ _ _ (by omega), up2_i _ _ _ (by omega)]; exact l0 s hs' xs
        · show L_X6_list_33 E K (rr w k) (rr w t) (nI hf) (g + 1) (nI (cntP X F)) xr (nI (N - r)) (Hw E w I1 L Q) = _
          rw [step, zi_t p, zi_t p1, c2]
      · have c2 : cntP X (a + 2) = cntP X a + 1 := by rw [show a + 2 = a + 1 + 1 from rfl, cntP_f p1, c1]
        refine ⟨(up2 I1 t (cntP X a) (nI a), xr &&& (xr - 1), a + 2), ⟨fun k' hk' => ?_, b5, fun s hs xs => ?_, F'.1, F'.2, z6'⟩, ?_⟩
        · show up2 I1 t _ _ k' = _
          rw [up2_row _ _ hk']; exact z1 k' hk'
        · show up2 I1 t (cntP X a) (nI a) t (cntP X s) = nI s
          by_cases e1 : s = a + 1
          · rw [e1] at xs; exact absurd xs p1
          · by_cases e2 : s = a
            · rw [e2, up2_s]
            · have hs' : s < a := by have : s < a + 2 := hs; omega
              have := cnt_lt xs hs'
              rw [up2_i _ _ _ (by omega)]; exact l0 s hs' xs
        · show L_X6_list_33 E K (rr w k) (rr w t) (nI hf) (g + 1) (nI (cntP X F)) xr (nI (N - r)) (Hw E w I1 L Q) = _
          rw [step, zi_t p, zi_f p1, c2]
    · have c1 : cntP X (a + 1) = cntP X a := cntP_f p
      by_cases p1 : X (a + 1)
      · have c2 : cntP X (a + 2) = cntP X a + 1 := by rw [show a + 2 = a + 1 + 1 from rfl, cntP_t p1, c1]
        refine ⟨(up2 I1 t (cntP X a) (nI (a + 1)), xr &&& (xr - 1), a + 2), ⟨fun k' hk' => ?_, b5, fun s hs xs => ?_, F'.1, F'.2, z6'⟩, ?_⟩
        · show up2 I1 t _ _ k' = _
          rw [up2_row _ _ hk']; exact z1 k' hk'
        · show up2 I1 t (cntP X a) (nI (a + 1)) t (cntP X s) = nI s
          by_cases e1 : s = a + 1
          · rw [e1, c1, up2_s]
          · by_cases e2 : s = a
            · rw [e2] at xs; exact absurd xs p
            · have hs' : s < a := by have : s < a + 2 := hs; omega
              have := cnt_lt xs hs'
              rw [up2_i _ _ _ (by omega)]; exact l0 s hs' xs
        · show L_X6_list_33 E K (rr w k) (rr w t) (nI hf) (g + 1) (nI (cntP X F)) xr (nI (N - r)) (Hw E w I1 L Q) = _
          rw [step, zi_f p, zi_t p1, c2]
      · exfalso
        have := (xb kk hkk).mp b1
        rw [ea] at this
        exact this.elim p p1
  · rintro g ⟨I1, xr, F⟩ _
    dsimp only at *
    show L_X6_list_33 E K (rr w k) (rr w t) (nI hf) (g + 1) (nI (cntP X F)) xr (nI (N - N)) (Hw E w I1 L Q) = _
    rw [L_X6_list_33, Nat.sub_self, if_pos (by decide)]
theorem c_list {k t n : Nat} (hG : 100000 ≤ E.2.2.1) (hk : SO w k) (ht : IA w t n) (hn : 240 ≤ n) (hX : ∀ q, q < 256 → bq (L (k + 1)) q → q < 240) : ∃ I', (∀ k', k' ≠ t → I' k' = I k') ∧ lstd (I' t) (bq (L (k + 1))) 240 ∧ F_X6_list E (rr w k) (rr w t) (Hw E w I L Q) = rtI (nI (cntP (bq (L (k + 1))) 240)) (Hw E w I' L Q) := by
  unfold F_X6_list
  refine lpK2 (σ := Nat → Nat → Int32) (Lp := fun g hf s => L_X6_list_4 E (rr w k) (rr w t) g (nI (cntP (bq (L (k + 1))) (128 * hf))) (nI hf) (Hw E w s L Q)) (K := fun s => rtI (nI (cntP (bq (L (k + 1))) (128 * 2))) (Hw E w s L Q)) (Iv := fun hf s => (∀ k', k' ≠ t → s k' = I k') ∧ lstd (s t) (bq (L (k + 1))) (128 * hf)) (N := 2) (g := E.2.2.1) (i := 0) (s := I) ?_ ?_ ?_ (by omega) (by omega) ⟨fun _ _ => rfl, fun s hs => absurd hs (by omega)⟩
  · rintro I' ⟨z1, z2⟩ ee
    have e1 : cntP (bq (L (k + 1))) (128 * 2) = cntP (bq (L (k + 1))) 240 := cnt_gap (by decide) (fun j h1 h2 z => by have := hX j h2 z; omega)
    rw [e1] at ee
    exact ⟨I', z1, fun s hs xs => z2 s (by omega) xs, ee⟩
  · rintro g hf I1 hh ⟨z1, z2⟩
    obtain ⟨I2, a1, a2, a3⟩ := c_list33 (E := E) (w := w) (I := I1) (L := L) (Q := Q) (K := fun w1 h5 => L_X6_list_4 E (rr w k) (rr w t) g w1 (nI (hf + 1)) h5) hG hk ht hn hX hh z2
    refine ⟨I2, ⟨fun k' hk' => (a1 k' hk').trans (z1 k' hk'), a2⟩, ?_⟩
    show L_X6_list_4 E (rr w k) (rr w t) (g + 1) (nI (cntP (bq (L (k + 1))) (128 * hf))) (nI hf) (Hw E w I1 L Q) = _
    rw [L_X6_list_4]
    simp (disch := omega) only [Option.bind_some, Option.map_some, Option.join, cI_r, cL_r, cV_r, xI_r, xL_r, xV_r, xI_t, xL_t, xV_t, lt_r, rtZ_0, rtZ_1, rtZ_zb, m2, m3, m4, m5, m6, m7, m8, m9, m10, m11, m12, m13, m14, m15, m16, m17, m18, m19, m20, m21, m22, m23, m24, m25, m26, m27, m28, m29, m30, m31, m32, m40, m41, m60, m63, m64, m90, m99, m100, m120, m127, m164, m173, m200, m240, m255, m450, m480, m650, m722, m762, m960, m1000000, m2838, m2988, m4095, pk_mul, nI_add, nI_1, nI_leI, nI_ltI, nI_eq, ix_n, if_neg, hk.gf, hk.2.2.ga, f_bitCount]
    exact a3
  · rintro g I1 _
    show L_X6_list_4 E (rr w k) (rr w t) (g + 1) (nI (cntP (bq (L (k + 1))) (128 * 2))) (nI 2) (Hw E w I1 L Q) = _
    rw [L_X6_list_4]
    simp (disch := omega) only [m2, m3, m4, m5, m6, m7, m8, m9, m10, m11, m12, m13, m14, m15, m16, m17, m18, m19, m20, m21, m22, m23, m24, m25, m26, m27, m28, m29, m30, m31, m32, m40, m41, m60, m63, m64, m90, m99, m100, m120, m127, m164, m173, m200, m240, m255, m450, m480, m650, m722, m762, m960, m1000000, m2838, m2988, m4095, pk_mul, nI_add, nI_1, nI_leI, nI_ltI, nI_eq, ix_n, if_pos]
theorem lstd_i {R : Ro} {X : Nat → Prop} {N i : Nat} (h : lstd R X N) (hi : i < cntP X N) : ∃ s, s < N ∧ X s ∧ cntP X s = i ∧ R i = nI s := by
  obtain ⟨s, h1, h2, h3⟩ := cnt_sur hi
  exact ⟨s, h1, h2, h3, by rw [← h3]; exact h s h1 h2⟩
/-- the n-th of a set -/
noncomputable def nthX (X : Nat → Prop) (x : Int32) : Int32 := fstP (fun s => X s ∧ nI (cntP X s) = x) 240
theorem c_nth {k : Nat} (hG : 100000 ≤ E.2.2.1) (hk : SO w k) : F_X6_nth E (rr w k) x (Hw E w I L Q) = rtI (nthX (bq (L (k + 1))) x) (Hw E w I L Q) := by
  unfold F_X6_nth
  by_cases c0 : 0 ≤ x
  · rw [if_pos c0]
    generalize hP : bq (L (k + 1)) = X
    have hx : ∀ par a, par < 2 → a < 120 → (b64 (L (k + 1) (2 * par + a / 64)) (a % 64) ↔ X (2 * a + par)) := fun par a h1 h2 => by
      have := bq_at (G := L (k + 1)) (a / 64) par (a % 64) (by omega) h1 (by omega)
      rw [hP] at this
      rw [← this, show 64 * (a / 64) + a % 64 = a by omega]
    have inner : ∀ (a : Nat) (K : Int32 → Hp → Rs), a < 120 → (∀ j, j < 2 * a → ¬ (X j ∧ nI (cntP X j) = x)) → L_X6_nth_19 E K (rr w k) x (nI a) E.2.2.1 (nI (cntP X (2 * a))) 0 (Hw E w I L Q) = rtI (nthX X x) (Hw E w I L Q) ∨ ((∀ j, j < 2 * (a + 1) → ¬ (X j ∧ nI (cntP X j) = x)) ∧ L_X6_nth_19 E K (rr w k) x (nI a) E.2.2.1 (nI (cntP X (2 * a))) 0 (Hw E w I L Q) = K (nI (cntP X (2 * (a + 1)))) (Hw E w I L Q)) := by
      intro a K ha hno
      refine lpE (σ := Unit) (Lp := fun g par _ => L_X6_nth_19 E K (rr w k) x (nI a) g (nI (cntP X (2 * a + par))) (nI par) (Hw E w I L Q)) (Iv := fun par _ => ∀ j, j < 2 * a + par → ¬ (X j ∧ nI (cntP X j) = x)) (Post := fun r => r = rtI (nthX X x) (Hw E w I L Q) ∨ ((∀ j, j < 2 * (a + 1) → ¬ (X j ∧ nI (cntP X j) = x)) ∧ r = K (nI (cntP X (2 * (a + 1)))) (Hw E w I L Q))) (N := 2) ?_ ?_ E.2.2.1 0 () (by omega) (by omega) hno
      · intro g par _ hp hn
        have st : L_X6_nth_19 E K (rr w k) x (nI a) (g + 1) (nI (cntP X (2 * a + par))) (nI par) (Hw E w I L Q) = if zb (X (2 * a + par)) = 0 then L_X6_nth_19 E K (rr w k) x (nI a) g (nI (cntP X (2 * a + par))) (nI (par + 1)) (Hw E w I L Q) else if ¬ nI (cntP X (2 * a + par)) = x then L_X6_nth_19 E K (rr w k) x (nI a) g (nI (cntP X (2 * a + par) + 1)) (nI (par + 1)) (Hw E w I L Q) else rtI (nI (2 * a + par)) (Hw E w I L Q) := by
          rw [L_X6_nth_19]
          simp (disch := omega) only [Option.bind_some, Option.map_some, Option.join, cI_r, cL_r, cV_r, xI_r, xL_r, xV_r, xI_t, xL_t, xV_t, lt_r, rtZ_0, rtZ_1, rtZ_zb, m2, m3, m4, m5, m6, m7, m8, m9, m10, m11, m12, m13, m14, m15, m16, m17, m18, m19, m20, m21, m22, m23, m24, m25, m26, m27, m28, m29, m30, m31, m32, m40, m41, m60, m63, m64, m90, m99, m100, m120, m127, m164, m173, m200, m240, m255, m450, m480, m650, m722, m762, m960, m1000000, m2838, m2988, m4095, pk_mul, nI_add, nI_1, nI_leI, nI_ltI, nI_eq, ix_n, if_neg, hk.gf, hk.2.2.ga, sh6, ad63, f_isIn, zb_c (hx par a hp ha)]
        by_cases p : X (2 * a + par)
        · by_cases p2 : nI (cntP X (2 * a + par)) = x
          · right; left
            show L_X6_nth_19 E K (rr w k) x (nI a) (g + 1) (nI (cntP X (2 * a + par))) (nI par) (Hw E w I L Q) = _
            rw [st, zi_t p, if_neg (not_not_intro p2)]
            unfold nthX
            rw [fstP_at (s := 2 * a + par) (by omega) ⟨p, p2⟩ hn]
          · left
            refine ⟨(), fun j hj => ?_, ?_⟩
            · by_cases e : j = 2 * a + par
              · subst e; exact fun z => p2 z.2
              · exact hn j (by omega)
            · show L_X6_nth_19 E K (rr w k) x (nI a) (g + 1) (nI (cntP X (2 * a + par))) (nI par) (Hw E w I L Q) = L_X6_nth_19 E K (rr w k) x (nI a) g (nI (cntP X (2 * a + par + 1))) (nI (par + 1)) (Hw E w I L Q)
              rw [st, zi_t p, if_pos p2, cntP_t p]
        · left
          refine ⟨(), fun j hj => ?_, ?_⟩
          · by_cases e : j = 2 * a + par
            · subst e; exact fun z => p z.1
            · exact hn j (by omega)
          · show L_X6_nth_19 E K (rr w k) x (nI a) (g + 1) (nI (cntP X (2 * a + par))) (nI par) (Hw E w I L Q) = L_X6_nth_19 E K (rr w k) x (nI a) g (nI (cntP X (2 * a + par + 1))) (nI (par + 1)) (Hw E w I L Q)
            rw [st, zi_f p, cntP_f p]
      · intro g _ hn
        right
        refine ⟨fun j hj => hn j (by omega), ?_⟩
        show L_X6_nth_19 E K (rr w k) x (nI a) (g + 1) (nI (cntP X (2 * a + 2))) (nI 2) (Hw E w I L Q) = _
        rw [L_X6_nth_19]
        simp (disch := omega) only [m2, m3, m4, m5, m6, m7, m8, m9, m10, m11, m12, m13, m14, m15, m16, m17, m18, m19, m20, m21, m22, m23, m24, m25, m26, m27, m28, m29, m30, m31, m32, m40, m41, m60, m63, m64, m90, m99, m100, m120, m127, m164, m173, m200, m240, m255, m450, m480, m650, m722, m762, m960, m1000000, m2838, m2988, m4095, pk_mul, nI_add, nI_1, nI_leI, nI_ltI, nI_eq, ix_n, if_pos]
        rfl
    refine lpE (σ := Unit) (Lp := fun g a _ => L_X6_nth_10 E (rr w k) x g (nI (cntP X (2 * a))) (nI a) (Hw E w I L Q)) (Iv := fun a _ => ∀ j, j < 2 * a → ¬ (X j ∧ nI (cntP X j) = x)) (Post := fun r => r = rtI (nthX X x) (Hw E w I L Q)) (N := 120) ?_ ?_ E.2.2.1 0 () (by omega) (by omega) (fun j hj => absurd hj (by omega))
    · intro g a _ ha hn
      have st : L_X6_nth_10 E (rr w k) x (g + 1) (nI (cntP X (2 * a))) (nI a) (Hw E w I L Q) = L_X6_nth_19 E (fun w1 h3 => L_X6_nth_10 E (rr w k) x g w1 (nI (a + 1)) h3) (rr w k) x (nI a) E.2.2.1 (nI (cntP X (2 * a))) 0 (Hw E w I L Q) := by
        rw [L_X6_nth_10]
        simp (disch := omega) only [m2, m3, m4, m5, m6, m7, m8, m9, m10, m11, m12, m13, m14, m15, m16, m17, m18, m19, m20, m21, m22, m23, m24, m25, m26, m27, m28, m29, m30, m31, m32, m40, m41, m60, m63, m64, m90, m99, m100, m120, m127, m164, m173, m200, m240, m255, m450, m480, m650, m722, m762, m960, m1000000, m2838, m2988, m4095, pk_mul, nI_add, nI_1, nI_leI, nI_ltI, nI_eq, ix_n, if_neg]
      rcases inner a (fun w1 h3 => L_X6_nth_10 E (rr w k) x g w1 (nI (a + 1)) h3) ha hn with h | ⟨h1, h2⟩
      · right
        show L_X6_nth_10 E (rr w k) x (g + 1) (nI (cntP X (2 * a))) (nI a) (Hw E w I L Q) = _
        rw [st]; exact h
      · left
        refine ⟨(), h1, ?_⟩
        show L_X6_nth_10 E (rr w k) x (g + 1) (nI (cntP X (2 * a))) (nI a) (Hw E w I L Q) = _
        rw [st]; exact h2
    · intro g _ hn
      show L_X6_nth_10 E (rr w k) x (g + 1) (nI (cntP X (2 * 120))) (nI 120) (Hw E w I L Q) = _
      rw [L_X6_nth_10]
      unfold nthX
      rw [fstP_no (fun j hj => hn j (by omega))]
      simp (disch := omega) only [m2, m3, m4, m5, m6, m7, m8, m9, m10, m11, m12, m13, m14, m15, m16, m17, m18, m19, m20, m21, m22, m23, m24, m25, m26, m27, m28, m29, m30, m31, m32, m40, m41, m60, m63, m64, m90, m99, m100, m120, m127, m164, m173, m200, m240, m255, m450, m480, m650, m722, m762, m960, m1000000, m2838, m2988, m4095, pk_mul, nI_add, nI_1, nI_leI, nI_ltI, nI_eq, ix_n, if_pos]
  · rw [if_neg c0]
    unfold nthX
    rw [fstP_no (fun j hj z => c0 (by rw [← z.2]; exact nI_pos' (Nat.lt_of_le_of_lt (cntP_le j) (by omega))))]
/-- the places of states -/
theorem spl_n {s : Nat} (q1 : WfT T c) (q2 : LandR I T c) (hs : s < 4 * c 1) : ∃ p, spl T s = nI p ∧ p < c 0 ∧ I 7 s = nI p := by
  have b := ast_b q1.2.2.1 (show s / 2 / 2 < c 1 by omega)
  have hb : bl (spl T s) (c 0) := by
    unfold spl
    split
    · exact b.2
    · exact b.1
  obtain ⟨p, ep, hp⟩ := hb
  exact ⟨p, ep, hp, (spots_spl (q2.2.1.2 (s / 4) (by omega))).trans ep⟩
theorem qj1 (qq j : Nat) (h1 : qq < 4) (h2 : j < 64) : 2 * ((2 * (64 * (qq % 2) + j) + qq / 2) % 2) + (2 * (64 * (qq % 2) + j) + qq / 2) / 128 < qq + 1 ∧ 2 * (64 * (qq % 2) + j) + qq / 2 < 256 := by
  rcases (show qq = 0 ∨ qq = 1 ∨ qq = 2 ∨ qq = 3 by omega) with rfl | rfl | rfl | rfl <;> omega
theorem qj2 (qq s : Nat) (h1 : 2 * (s % 2) + s / 2 / 64 = qq) (h2 : s < 256) : 2 * (64 * (qq % 2) + s / 2 % 64) + qq / 2 = s := by omega
theorem c_places27 {k qq : Nat} {v0 : Int64} {K : Int64 → Hp → Rs} (hG : 100000 ≤ E.2.2.1) (q1 : WfT T c) (q2 : LandR I T c) (hX : ∀ q, q < 256 → bq (L (k + 1)) q → q < 4 * c 1) (hq : qq < 4) : ∃ v, (∀ p, p < 64 → (b64 v p ↔ b64 v0 p ∨ ∃ j, j < 64 ∧ b64 (L (k + 1) qq) j ∧ spl T (2 * (64 * (qq % 2) + j) + qq / 2) = nI p)) ∧ L_X10_placesOf_27 E K (rr w 32) (nI qq) E.2.2.1 v0 (L (k + 1) qq) (nI (cntP (b64 (L (k + 1) qq)) 64)) (Hw E w I L Q) = K v (Hw E w I L Q) := by
  have k0 : c 0 ≤ 40 := (q1.1 0 (by decide)).2
  have k1 : c 1 ≤ 60 := (q1.1 1 (by decide)).2
  have hsp := fun s (hs : s < 4 * c 1) => spl_n (I := I) q1 q2 hs
  generalize hx0 : L (k + 1) qq = x0
  have hN : cntP (b64 x0) 64 ≤ 64 := cntP_le 64
  generalize eN : cntP (b64 x0) 64 = N at hN
  refine lpK2 (σ := Int64 × Int64) (Lp := fun g r s => L_X10_placesOf_27 E K (rr w 32) (nI qq) g s.1 s.2 (nI (N - r)) (Hw E w I L Q)) (K := fun s => K s.1 (Hw E w I L Q)) (Iv := fun r s => rem x0 r s.2 ∧ ∀ p, p < 64 → (b64 s.1 p ↔ b64 v0 p ∨ ∃ j, j < 64 ∧ b64 x0 j ∧ cntP (b64 x0) j < r ∧ spl T (2 * (64 * (qq % 2) + j) + qq / 2) = nI p)) (N := N) (g := E.2.2.1) (i := 0) (s := (v0, x0)) ?_ ?_ ?_ (by omega) (by omega) ⟨rem_0 x0, fun p hp => ⟨Or.inl, fun z => z.elim id (fun ⟨j, _, _, z, _⟩ => absurd z (by omega))⟩⟩
  · rintro ⟨v, xr⟩ ⟨z1, z2⟩ ee
    refine ⟨v, fun p hp => ?_, ee⟩
    rw [z2 p hp]
    refine or_congr_right ⟨fun ⟨j, h1, h2, h3, h4⟩ => ⟨j, h1, h2, h4⟩, fun ⟨j, h1, h2, h4⟩ => ⟨j, h1, h2, ?_, h4⟩⟩
    rw [← eN]; exact cnt_lt h2 h1
  · rintro g r ⟨v, xr⟩ hr ⟨z1, z2⟩
    dsimp only at *
    obtain ⟨kk, hkk, b1, b2, b3, b4, b5, -⟩ := rem_k z1 (by rw [eN]; exact hr)
    have em : nI (N - r) + -1 = nI (N - (r + 1)) := by rw [show N - r = N - (r + 1) + 1 by omega]; exact pk_m1 _
    have hs : 2 * (64 * (qq % 2) + kk) + qq / 2 < 4 * c 1 := hX _ (by omega) ((bq_at (qq % 2) (qq / 2) kk (by omega) (by omega) hkk).mpr (by rw [show 2 * (qq / 2) + qq % 2 = qq by omega, hx0]; exact b1))
    obtain ⟨p0, ep, hp0, e7⟩ := hsp _ hs
    refine ⟨(v ||| ((1 : Int64) <<< ((nI p0).toInt64 &&& 63)), xr &&& (xr - 1)), ⟨b5, fun p hp => ?_⟩, ?_⟩
    · show b64 (v ||| _) p ↔ _
      rw [b64_or, b64_one (by omega), z2 p hp, or_assoc]
      refine or_congr_right ⟨?_, ?_⟩
      · rintro (⟨j, h1, h2, h3, h4⟩ | rfl)
        · exact ⟨j, h1, h2, by omega, h4⟩
        · exact ⟨kk, hkk, b1, by omega, ep⟩
      · rintro ⟨j, h1, h2, h3, h4⟩
        by_cases e : cntP (b64 x0) j = r
        · have := cnt_inj h2 b1 (e.trans b2.symm)
          subst this
          exact Or.inr ((nI_eq (by omega) (by omega)).mp (h4.symm.trans ep))
        · exact Or.inl ⟨j, h1, h2, by omega, h4⟩
    · show L_X10_placesOf_27 E K (rr w 32) (nI qq) (g + 1) v xr (nI (N - r)) (Hw E w I L Q) = L_X10_placesOf_27 E K (rr w 32) (nI qq) g (v ||| ((1 : Int64) <<< ((nI p0).toInt64 &&& 63))) (xr &&& (xr - 1)) (nI (N - (r + 1))) (Hw E w I L Q)
      have i7 : ix (nI (2 * (64 * (qq % 2) + kk) + qq / 2)) 240 = some (2 * (64 * (qq % 2) + kk) + qq / 2) := ix_n (by omega) (by decide)
      rw [L_X10_placesOf_27, if_neg (nI_nle (show 0 < N - r by omega) (by omega)), f_lowest b3 b4]
      rw [gf32_0, Option.bind_some, gf0_8, Option.bind_some, cI_r, f_stateOf hq hkk, cI_r, ga7, i7, Option.map_some, Option.bind_some, lt_r, lt_r, e7, em]
  · rintro g ⟨v, xr⟩ _
    show L_X10_placesOf_27 E K (rr w 32) (nI qq) (g + 1) v xr (nI (N - N)) (Hw E w I L Q) = _
    rw [L_X10_placesOf_27, Nat.sub_self, if_pos (by decide)]
theorem c_placesOf {k : Nat} (hG : 100000 ≤ E.2.2.1) (q1 : WfT T c) (q2 : LandR I T c) (hk : SO w k) (hX : ∀ q, q < 256 → bq (L (k + 1)) q → q < 4 * c 1) : ∃ v, (∀ p, p < 64 → (b64 v p ↔ ∃ s, s < 4 * c 1 ∧ bq (L (k + 1)) s ∧ spl T s = nI p)) ∧ F_X10_placesOf E (rr w 32) (rr w k) (Hw E w I L Q) = rtL v (Hw E w I L Q) := by
  have k0 : c 0 ≤ 40 := (q1.1 0 (by decide)).2
  have k1 : c 1 ≤ 60 := (q1.1 1 (by decide)).2
  unfold F_X10_placesOf
  refine lpK2 (σ := Int64) (Lp := fun g qq s => L_X10_placesOf_5 E (rr w 32) (rr w k) g s (nI qq) (Hw E w I L Q)) (K := fun s => rtL s (Hw E w I L Q)) (Iv := fun qq v => ∀ p, p < 64 → (b64 v p ↔ ∃ s, s < 4 * c 1 ∧ bq (L (k + 1)) s ∧ 2 * (s % 2) + s / 128 < qq ∧ spl T s = nI p)) (N := 4) (g := E.2.2.1) (i := 0) (s := 0) ?_ ?_ ?_ (by omega) (by omega) (fun p hp => ⟨fun z => absurd z b64_0, fun ⟨s, _, _, z, _⟩ => absurd z (by omega)⟩)
  · rintro v z ee
    refine ⟨v, fun p hp => ?_, ee⟩
    rw [z p hp]
    exact exists_congr fun s => ⟨fun ⟨h1, h2, _, h4⟩ => ⟨h1, h2, h4⟩, fun ⟨h1, h2, h4⟩ => ⟨h1, h2, by omega, h4⟩⟩
  · rintro g qq v hq z
    obtain ⟨v', a1, a2⟩ := c_places27 (E := E) (w := w) (Q := Q) (k := k) (qq := qq) (v0 := v) (K := fun w1 h4 => L_X10_placesOf_5 E (rr w 32) (rr w k) g w1 (nI (qq + 1)) h4) hG q1 q2 hX hq
    refine ⟨v', fun p hp => ?_, ?_⟩
    · rw [a1 p hp, z p hp]
      constructor
      · rintro (⟨s, h1, h2, h3, h4⟩ | ⟨j, h1, h2, h3⟩)
        · exact ⟨s, h1, h2, by omega, h4⟩
        · have hb := (bq_at (G := L (k + 1)) (qq % 2) (qq / 2) j (by omega) (by omega) h1).mpr (by rw [show 2 * (qq / 2) + qq % 2 = qq by omega]; exact h2)
          have lt := qj1 qq j hq h1
          exact ⟨_, hX _ lt.2 hb, hb, lt.1, h3⟩
      · rintro ⟨s, h1, h2, h3, h4⟩
        by_cases e : 2 * (s % 2) + s / 128 < qq
        · exact Or.inl ⟨s, h1, h2, e, h4⟩
        · have e2 : 2 * (s % 2) + s / 2 / 64 = qq := by omega
          refine Or.inr ⟨s / 2 % 64, by omega, ?_, ?_⟩
          · unfold bq at h2; rw [e2] at h2; exact h2
          · rw [qj2 qq s e2 (by omega)]; exact h4
    · show L_X10_placesOf_5 E (rr w 32) (rr w k) (g + 1) v (nI qq) (Hw E w I L Q) = _
      rw [L_X10_placesOf_5]
      simp (disch := omega) only [Option.bind_some, Option.map_some, Option.join, cI_r, cL_r, cV_r, xI_r, xL_r, xV_r, xI_t, xL_t, xV_t, lt_r, rtZ_0, rtZ_1, rtZ_zb, m2, m3, m4, m5, m6, m7, m8, m9, m10, m11, m12, m13, m14, m15, m16, m17, m18, m19, m20, m21, m22, m23, m24, m25, m26, m27, m28, m29, m30, m31, m32, m40, m41, m60, m63, m64, m90, m99, m100, m120, m127, m164, m173, m200, m240, m255, m450, m480, m650, m722, m762, m960, m1000000, m2838, m2988, m4095, pk_mul, nI_add, nI_1, nI_leI, nI_ltI, nI_eq, ix_n, if_neg, hk.gf, hk.2.2.ga, f_bitCount]
      exact a2
  · rintro g v _
    show L_X10_placesOf_5 E (rr w 32) (rr w k) (g + 1) v (nI 4) (Hw E w I L Q) = _
    rw [L_X10_placesOf_5]
    simp (disch := omega) only [m2, m3, m4, m5, m6, m7, m8, m9, m10, m11, m12, m13, m14, m15, m16, m17, m18, m19, m20, m21, m22, m23, m24, m25, m26, m27, m28, m29, m30, m31, m32, m40, m41, m60, m63, m64, m90, m99, m100, m120, m127, m164, m173, m200, m240, m255, m450, m480, m650, m722, m762, m960, m1000000, m2838, m2988, m4095, pk_mul, nI_add, nI_1, nI_leI, nI_ltI, nI_eq, ix_n, if_pos]
end
