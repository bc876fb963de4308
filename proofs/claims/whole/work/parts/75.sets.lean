/-! ground for the rest: one rule for loops; numbers; sets in longs -/
theorem lpW {σ : Type} {Lp : Nat → σ → Rs} {Iv : σ → Prop} {Post : Rs → Prop} (m : σ → Nat) (h : ∀ g s, Iv s → (∃ s', Iv s' ∧ m s' < m s ∧ Lp (g + 1) s = Lp g s') ∨ Post (Lp (g + 1) s)) : ∀ g s, m s < g → Iv s → Post (Lp g s) := by
  intro g
  induction g with
  | zero => intro s hg; omega
  | succ g ih =>
    intro s hg hs
    rcases h g s hs with ⟨s', h1, h2, h3⟩ | h1
    · rw [h3]; exact ih s' (by omega) h1
    · exact h1
/-- a counted loop: each turn goes on, or ends -/
theorem lpE {ρ : Type} {σ : Type} {Lp : Nat → Nat → σ → ρ} {Iv : Nat → σ → Prop} {Post : ρ → Prop} {N : Nat} (h2 : ∀ g i s, i < N → Iv i s → (∃ s', Iv (i + 1) s' ∧ Lp (g + 1) i s = Lp g (i + 1) s') ∨ Post (Lp (g + 1) i s)) (h3 : ∀ g s, Iv N s → Post (Lp (g + 1) N s)) : ∀ g i s, N - i < g → i ≤ N → Iv i s → Post (Lp g i s) := by
  intro g
  induction g with
  | zero => intro i s hg; omega
  | succ g ih =>
    intro i s hg hi hv
    by_cases e : i = N
    · subst e; exact h3 g s hv
    · rcases h2 g i s (by omega) hv with ⟨s', hs, e'⟩ | h
      · rw [e']; exact ih (i + 1) s' (by omega) (by omega) hs
      · exact h
/-- a counted loop to its end: then K of what it came to -/
theorem lpK {ρ : Type} {σ : Type} {Lp : Nat → Nat → σ → ρ} {Iv : Nat → σ → Prop} {K : σ → ρ} {N : Nat} (h2 : ∀ g i s, i < N → Iv i s → ∃ s', Iv (i + 1) s' ∧ Lp (g + 1) i s = Lp g (i + 1) s') (h3 : ∀ g s, Iv N s → Lp (g + 1) N s = K s) (g i : Nat) (s : σ) (hg : N - i < g) (hi : i ≤ N) (hs : Iv i s) : ∃ s', Iv N s' ∧ Lp g i s = K s' :=
  lpE (Post := fun r => ∃ s', Iv N s' ∧ r = K s') (fun g i s hi hs => Or.inl (h2 g i s hi hs)) (fun g s hs => ⟨s, hs, h3 g s hs⟩) g i s hg hi hs
theorem lpK2 {ρ : Type} {σ : Type} {Lp : Nat → Nat → σ → ρ} {Iv : Nat → σ → Prop} {K : σ → ρ} {N : Nat} {X : Prop} {g i : Nat} {s : σ} (fin : ∀ s', Iv N s' → Lp g i s = K s' → X) (h2 : ∀ g i s, i < N → Iv i s → ∃ s', Iv (i + 1) s' ∧ Lp (g + 1) i s = Lp g (i + 1) s') (h3 : ∀ g s, Iv N s → Lp (g + 1) N s = K s) (hg : N - i < g) (hi : i ≤ N) (hs : Iv i s) : X := by
  obtain ⟨s', h1, h2⟩ := lpK h2 h3 g i s hg hi hs
  exact fin s' h1 h2
theorem m2 : (2 : Int32) = nI 2 := Eq.trans rfl rfl
theorem m3 : (3 : Int32) = nI 3 := Eq.trans rfl rfl
theorem m4 : (4 : Int32) = nI 4 := Eq.trans rfl rfl
theorem m5 : (5 : Int32) = nI 5 := Eq.trans rfl rfl
theorem m6 : (6 : Int32) = nI 6 := Eq.trans rfl rfl
theorem m7 : (7 : Int32) = nI 7 := Eq.trans rfl rfl
theorem m8 : (8 : Int32) = nI 8 := Eq.trans rfl rfl
theorem m9 : (9 : Int32) = nI 9 := Eq.trans rfl rfl
theorem m10 : (10 : Int32) = nI 10 := Eq.trans rfl rfl
theorem m11 : (11 : Int32) = nI 11 := Eq.trans rfl rfl
theorem m12 : (12 : Int32) = nI 12 := Eq.trans rfl rfl
theorem m13 : (13 : Int32) = nI 13 := Eq.trans rfl rfl
theorem m14 : (14 : Int32) = nI 14 := Eq.trans rfl rfl
theorem m15 : (15 : Int32) = nI 15 := Eq.trans rfl rfl
theorem m16 : (16 : Int32) = nI 16 := Eq.trans rfl rfl
theorem m17 : (17 : Int32) = nI 17 := Eq.trans rfl rfl
theorem m18 : (18 : Int32) = nI 18 := Eq.trans rfl rfl
theorem m19 : (19 : Int32) = nI 19 := Eq.trans rfl rfl
theorem m20 : (20 : Int32) = nI 20 := Eq.trans rfl rfl
theorem m21 : (21 : Int32) = nI 21 := Eq.trans rfl rfl
theorem m22 : (22 : Int32) = nI 22 := Eq.trans rfl rfl
theorem m23 : (23 : Int32) = nI 23 := Eq.trans rfl rfl
theorem m24 : (24 : Int32) = nI 24 := Eq.trans rfl rfl
theorem m25 : (25 : Int32) = nI 25 := Eq.trans rfl rfl
theorem m26 : (26 : Int32) = nI 26 := Eq.trans rfl rfl
theorem m27 : (27 : Int32) = nI 27 := Eq.trans rfl rfl
theorem m28 : (28 : Int32) = nI 28 := Eq.trans rfl rfl
theorem m29 : (29 : Int32) = nI 29 := Eq.trans rfl rfl
theorem m30 : (30 : Int32) = nI 30 := Eq.trans rfl rfl
theorem m31 : (31 : Int32) = nI 31 := Eq.trans rfl rfl
theorem m32 : (32 : Int32) = nI 32 := Eq.trans rfl rfl
theorem m40 : (40 : Int32) = nI 40 := Eq.trans rfl rfl
theorem m41 : (41 : Int32) = nI 41 := Eq.trans rfl rfl
theorem m60 : (60 : Int32) = nI 60 := Eq.trans rfl rfl
theorem m63 : (63 : Int32) = nI 63 := Eq.trans rfl rfl
theorem m64 : (64 : Int32) = nI 64 := Eq.trans rfl rfl
theorem m90 : (90 : Int32) = nI 90 := Eq.trans rfl rfl
theorem m99 : (99 : Int32) = nI 99 := Eq.trans rfl rfl
theorem m100 : (100 : Int32) = nI 100 := Eq.trans rfl rfl
theorem m120 : (120 : Int32) = nI 120 := Eq.trans rfl rfl
theorem m127 : (127 : Int32) = nI 127 := Eq.trans rfl rfl
theorem m164 : (164 : Int32) = nI 164 := Eq.trans rfl rfl
theorem m173 : (173 : Int32) = nI 173 := Eq.trans rfl rfl
theorem m200 : (200 : Int32) = nI 200 := Eq.trans rfl rfl
theorem m240 : (240 : Int32) = nI 240 := Eq.trans rfl rfl
theorem m255 : (255 : Int32) = nI 255 := Eq.trans rfl rfl
theorem m450 : (450 : Int32) = nI 450 := Eq.trans rfl rfl
theorem m480 : (480 : Int32) = nI 480 := Eq.trans rfl rfl
theorem m650 : (650 : Int32) = nI 650 := Eq.trans rfl rfl
theorem m722 : (722 : Int32) = nI 722 := Eq.trans rfl rfl
theorem m762 : (762 : Int32) = nI 762 := Eq.trans rfl rfl
theorem m960 : (960 : Int32) = nI 960 := Eq.trans rfl rfl
theorem m1000000 : (1000000 : Int32) = nI 1000000 := Eq.trans rfl rfl
theorem m2838 : (2838 : Int32) = nI 2838 := Eq.trans rfl rfl
theorem m2988 : (2988 : Int32) = nI 2988 := Eq.trans rfl rfl
theorem m4095 : (4095 : Int32) = nI 4095 := Eq.trans rfl rfl
theorem sh6 {s : Nat} (h : s < 2 ^ 31) : nI s >>> (nI 6 &&& nI 31) = nI (s / 64) := pk_shrN h (nI 6 &&& nI 31) 6 (by decide)
theorem sh1 {s : Nat} (h : s < 2 ^ 31) : nI s >>> ((1 : Int32) &&& nI 31) = nI (s / 2) := pk_shrN h ((1 : Int32) &&& nI 31) 1 (by decide)
theorem sh2 {s : Nat} (h : s < 2 ^ 31) : nI s >>> (nI 2 &&& nI 31) = nI (s / 4) := pk_shrN h (nI 2 &&& nI 31) 2 (by decide)
theorem ad63 {s : Nat} (h : s < 2 ^ 31) : nI s &&& nI 63 = nI (s % 64) := pk_andN (by omega) (m := 63) 6 (by decide)
theorem ad1 {s : Nat} (h : s < 2 ^ 31) : nI s &&& 1 = nI (s % 2) := pk_andN (by omega) (m := 1) 1 (by decide)
theorem xo1 : ∀ a : Nat, a < 120 → nI a ^^^ 1 = nI (a ^^^ 1) := by decide
theorem xo_1 (a : Nat) : a ^^^ 1 = if a % 2 = 0 then a + 1 else a - 1 := by
  by_cases p : a % 2 = 0
  · rw [if_pos p]
    have e : a = 2 * (a / 2) := by omega
    apply Nat.eq_of_testBit_eq
    intro i
    rw [Nat.testBit_xor]
    cases i with
    | zero => simp [Nat.testBit_zero, p]; omega
    | succ i => simp only [Nat.testBit_succ, show (a + 1) / 2 = a / 2 by omega, show 1 / 2 = 0 by decide, Nat.zero_testBit, Bool.xor_false]
  · rw [if_neg p]
    apply Nat.eq_of_testBit_eq
    intro i
    rw [Nat.testBit_xor]
    cases i with
    | zero => rw [Nat.testBit_zero, Nat.testBit_zero, Nat.testBit_zero, decide_eq_true (show a % 2 = 1 by omega), decide_eq_false (show ¬ (a - 1) % 2 = 1 by omega)]; rfl
    | succ i => simp only [Nat.testBit_succ, show (a - 1) / 2 = a / 2 by omega, show 1 / 2 = 0 by decide, Nat.zero_testBit, Bool.xor_false]
theorem bit64 {x : Int64} {i : Nat} (hi : i < 64) : ((x >>> ((nI i).toInt64 &&& 63)) &&& 1) = 1 ↔ b64 x i := by
  have e : ((x >>> ((nI i).toInt64 &&& 63)) &&& 1) = 0 ↔ ¬ b64 x i := by
    rw [and1_64, shr64 x _ (sm64 i hi) (by omega), Nat.add_zero]
    unfold b64
    cases x.toBitVec.getLsbD i <;> simp
  constructor
  · intro h
    exact Classical.not_not.mp (fun z => by have := e.mpr z; rw [this] at h; exact absurd h (by decide))
  · intro h
    have h1 : ¬ ((x >>> ((nI i).toInt64 &&& 63)) &&& 1) = 0 := fun z => e.mp z h
    apply Int64.toBitVec_inj.mp
    apply BitVec.eq_of_getLsbD_eq
    intro j hj
    by_cases ej : j = 0
    · subst ej
      rw [and1_64] at h1
      simp only [Int64.toBitVec_and, BitVec.getLsbD_and, Bool.not_eq_false] at h1 ⊢
      rw [h1]; rfl
    · simp [ej, BitVec.getLsbD_one]
/-- the first of some, as an answer -/
noncomputable def fstP (P : Nat → Prop) : Nat → Int32
  | 0 => -1
  | n + 1 => @ite _ (∃ j, j < n ∧ P j) (Classical.propDecidable _) (fstP P n) (@ite _ (P n) (Classical.propDecidable _) (nI n) (-1))
theorem fstP_no {P : Nat → Prop} {n : Nat} (h : ∀ j, j < n → ¬ P j) : fstP P n = -1 := by
  cases n with
  | zero => rfl
  | succ n => rw [fstP, if_neg (fun ⟨j, h1, h2⟩ => h j (by omega) h2), if_neg (h n (by omega))]
theorem fstP_at {P : Nat → Prop} {n s : Nat} (hs : s < n) (hp : P s) (h : ∀ j, j < s → ¬ P j) : fstP P n = nI s := by
  induction n with
  | zero => omega
  | succ n ih =>
    rw [fstP]
    by_cases e : s = n
    · subst e; rw [if_neg (fun ⟨j, h1, h2⟩ => h j h1 h2), if_pos hp]
    · rw [if_pos ⟨s, by omega, hp⟩]; exact ih (by omega)
theorem fstP_c {P R : Nat → Prop} {n : Nat} (h : ∀ j, j < n → (P j ↔ R j)) : fstP P n = fstP R n := by
  induction n with
  | zero => rfl
  | succ n ih =>
    have e1 : (∃ j, j < n ∧ P j) ↔ (∃ j, j < n ∧ R j) := ⟨fun ⟨j, a, b⟩ => ⟨j, a, (h j (by omega)).mp b⟩, fun ⟨j, a, b⟩ => ⟨j, a, (h j (by omega)).mpr b⟩⟩
    rw [fstP, fstP]
    by_cases p : ∃ j, j < n ∧ P j
    · rw [if_pos p, if_pos (e1.mp p), ih (fun j hj => h j (by omega))]
    · rw [if_neg p, if_neg (fun z => p (e1.mpr z))]
      by_cases p2 : P n
      · rw [if_pos p2, if_pos ((h n (by omega)).mp p2)]
      · rw [if_neg p2, if_neg (fun z => p2 ((h n (by omega)).mpr z))]
/-- ranks -/
theorem cnt_mono {P : Nat → Prop} {a b : Nat} (h : a ≤ b) : cntP P a ≤ cntP P b := by
  induction b with
  | zero => rw [show a = 0 by omega]; exact Nat.le_refl _
  | succ b ih =>
    by_cases e : a = b + 1
    · rw [e]; exact Nat.le_refl _
    · have := ih (by omega)
      by_cases p : P b
      · rw [cntP_t p]; omega
      · rw [cntP_f p]; exact this
theorem cnt_lt {P : Nat → Prop} {a b : Nat} (hp : P a) (h : a < b) : cntP P a < cntP P b := by
  have := cnt_mono (P := P) (show a + 1 ≤ b by omega)
  rw [cntP_t hp] at this; omega
theorem cnt_inj {P : Nat → Prop} {a b : Nat} (ha : P a) (hb : P b) (h : cntP P a = cntP P b) : a = b := by
  rcases Nat.lt_trichotomy a b with h1 | h1 | h1
  · have := cnt_lt ha h1; omega
  · exact h1
  · have := cnt_lt hb h1; omega
theorem cnt_sur {P : Nat → Prop} {n i : Nat} (h : i < cntP P n) : ∃ s, s < n ∧ P s ∧ cntP P s = i := by
  induction n with
  | zero => exact absurd h (Nat.not_lt_zero i)
  | succ n ih =>
    by_cases p : P n
    · rw [cntP_t p] at h
      by_cases e : i = cntP P n
      · exact ⟨n, by omega, p, e.symm⟩
      · obtain ⟨s, h1, h2⟩ := ih (by omega); exact ⟨s, by omega, h2⟩
    · rw [cntP_f p] at h
      obtain ⟨s, h1, h2⟩ := ih h; exact ⟨s, by omega, h2⟩
theorem cnt_0 {P : Nat → Prop} {n : Nat} : cntP P n = 0 ↔ ∀ j, j < n → ¬ P j := by
  constructor
  · intro h j hj p
    have := cnt_lt p hj; omega
  · intro h
    induction n with
    | zero => rfl
    | succ n ih => rw [cntP_f (h n (by omega))]; exact ih (fun j hj => h j (by omega))
/-- four longs as a set -/
def bg (g : Nat → Int64) (q : Nat) : Prop := b64 (g (q / 64)) (q % 64)
def LA (w : Wo) (k n : Nat) : Prop := lvk w k ∧ sh k = .inl (1, n) ∧ n < 100000
def pt (L : Nat → Nat → Int64) (k a s : Nat) : Nat → Nat → Int64 := up2 L k (a + s / 64) (L k (a + s / 64) ||| ((1 : Int64) <<< ((nI (s % 64)).toInt64 &&& 63)))
theorem pt_row {L : Nat → Nat → Int64} {k a s k' : Nat} (h : k' ≠ k) : pt L k a s k' = L k' := up2_row L _ h
theorem pt_out {L : Nat → Nat → Int64} {k a s i : Nat} (hs : s < 256) (h : i < a ∨ a + 4 ≤ i) : pt L k a s k i = L k i := up2_i L k _ (by omega)
theorem pt_b {L : Nat → Nat → Int64} {k a s q : Nat} (hs : s < 256) (hq : q < 256) : b256 (pt L k a s k) a q ↔ q = s ∨ b256 (L k) a q := by
  unfold b256 pt
  by_cases e : q / 64 = s / 64
  · rw [e, up2_s, b64_or, b64_one (by omega)]
    constructor
    · rintro (h | h)
      · exact Or.inr h
      · exact Or.inl (by omega)
    · rintro (h | h)
      · exact Or.inr (by rw [h])
      · exact Or.inl h
  · rw [up2_i L _ _ (by omega)]
    exact ⟨fun h => Or.inr h, fun h => h.elim (fun z => absurd (by rw [z]) e) id⟩
theorem pt_b2 {L : Nat → Nat → Int64} {k a s q a' : Nat} (hs : s < 256) (hq : q < 256) (h : a' + 4 ≤ a ∨ a + 4 ≤ a') : b256 (pt L k a s k) a' q ↔ b256 (L k) a' q := by
  unfold b256; rw [pt_out hs (by omega)]
theorem rs_b {L : Nat → Nat → Int64} {k a q : Nat} {g : Nat → Int64} (hq : q < 256) : b256 (rs L k a 4 g k) a q ↔ bg g q := by
  unfold b256 bg; rw [rs_in L g (by omega) (by omega), Nat.add_sub_cancel_left]
theorem rs_b2 {L : Nat → Nat → Int64} {k a q a' : Nat} {g : Nat → Int64} (hq : q < 256) (h : a' + 4 ≤ a ∨ a + 4 ≤ a') : b256 (rs L k a 4 g k) a' q ↔ b256 (L k) a' q := by
  unfold b256; rw [rs_out L g (by omega)]
theorem bg_0 {q : Nat} : ¬ bg (fun _ => 0) q := b64_0
theorem bg_or {f g : Nat → Int64} {q : Nat} : bg (fun i => f i ||| g i) q ↔ bg f q ∨ bg g q := b64_or
section
variable {E : Ev} {w : Wo} {I : Nat → Nat → Int32} {L : Nat → Nat → Int64} {Q : Nat → Nat → Option Nat} {c : Nat → Nat} {x y : Int32}
theorem LA.ga {k n : Nat} {i : Int32} (h : LA w k n) : gaL E (Hw E w I L Q) (rr w k) i = (ix i n).map (L k) := gaL_w h.1 h.2.1
theorem LA.pa {k n : Nat} {i : Int32} {x : Int64} (h : LA w k n) : paL E (Hw E w I L Q) (rr w k) i x = (ix i n).map (fun j => Hw E w I (up2 L k j x) Q) := paL_w h.1 h.2.1
theorem f_has {k n a s : Nat} (hk : LA w k n) (ha : a + 4 ≤ n) (hs : s < 256) : F_X12_has E (rr w k) (nI a) (nI s) (Hw E w I L Q) = rtI (zb (b256 (L k) a s)) (Hw E w I L Q) := by
  have hn := hk.2.2
  unfold F_X12_has
  simp (disch := omega) only [Option.bind_some, Option.map_some, Option.join, cI_r, cL_r, cV_r, xI_r, xL_r, xV_r, xI_t, xL_t, xV_t, lt_r, rtZ_0, rtZ_1, rtZ_zb, m2, m3, m4, m5, m6, m7, m8, m9, m10, m11, m12, m13, m14, m15, m16, m17, m18, m19, m20, m21, m22, m23, m24, m25, m26, m27, m28, m29, m30, m31, m32, m40, m41, m60, m63, m64, m90, m99, m100, m120, m127, m164, m173, m200, m240, m255, m450, m480, m650, m722, m762, m960, m1000000, m2838, m2988, m4095, pk_mul, nI_add, nI_1, nI_leI, nI_ltI, nI_eq, ix_n, sh6, ad63, hk.ga]
  by_cases p : b64 (L k (a + s / 64)) (s % 64)
  · rw [if_neg (not_not_intro ((bit64 (by omega)).mpr p)), zb_t (show b256 (L k) a s from p)]
  · rw [if_pos (fun z => p ((bit64 (by omega)).mp z)), zb_f (show ¬ b256 (L k) a s from p)]
theorem f_put {k n a s : Nat} (hk : LA w k n) (ha : a + 4 ≤ n) (hs : s < 256) : F_X12_put E (rr w k) (nI a) (nI s) (Hw E w I L Q) = rtV (Hw E w I (pt L k a s) Q) := by
  have hn := hk.2.2
  unfold F_X12_put
  simp (disch := omega) only [Option.bind_some, Option.map_some, Option.join, cI_r, cL_r, cV_r, xI_r, xL_r, xV_r, xI_t, xL_t, xV_t, lt_r, rtZ_0, rtZ_1, rtZ_zb, m2, m3, m4, m5, m6, m7, m8, m9, m10, m11, m12, m13, m14, m15, m16, m17, m18, m19, m20, m21, m22, m23, m24, m25, m26, m27, m28, m29, m30, m31, m32, m40, m41, m60, m63, m64, m90, m99, m100, m120, m127, m164, m173, m200, m240, m255, m450, m480, m650, m722, m762, m960, m1000000, m2838, m2988, m4095, pk_mul, nI_add, nI_1, nI_leI, nI_ltI, nI_eq, ix_n, sh6, ad63, hk.ga, hk.pa]
  rfl
theorem f_empty {k n a : Nat} (hG : 100000 ≤ E.2.2.1) (hk : LA w k n) (ha : a + 4 ≤ n) : F_X12_empty E (rr w k) (nI a) (Hw E w I L Q) = rtV (Hw E w I (rs L k a 4 (fun _ => 0)) Q) := by
  have hn := hk.2.2
  unfold F_X12_empty
  refine lpI (σ := Nat → Nat → Int64) (Lp := fun g i s => L_X12_empty_2 E (rr w k) (nI a) g (nI i) (Hw E w I s Q)) (Inv := fun i s => s = rs L k a i (fun _ => 0)) (N := 4) ?_ ?_ E.2.2.1 0 L (by omega) (by omega) (rs_0 L k a _).symm
  · intro g i s hi es
    subst es
    refine ⟨_, rfl, ?_⟩
    show L_X12_empty_2 E (rr w k) (nI a) (g + 1) (nI i) (Hw E w I (rs L k a i (fun _ => 0)) Q) = _
    rw [L_X12_empty_2]
    simp (disch := omega) only [Option.bind_some, Option.map_some, Option.join, cI_r, cL_r, cV_r, xI_r, xL_r, xV_r, xI_t, xL_t, xV_t, lt_r, rtZ_0, rtZ_1, rtZ_zb, m2, m3, m4, m5, m6, m7, m8, m9, m10, m11, m12, m13, m14, m15, m16, m17, m18, m19, m20, m21, m22, m23, m24, m25, m26, m27, m28, m29, m30, m31, m32, m40, m41, m60, m63, m64, m90, m99, m100, m120, m127, m164, m173, m200, m240, m255, m450, m480, m650, m722, m762, m960, m1000000, m2838, m2988, m4095, pk_mul, nI_add, nI_1, nI_leI, nI_ltI, nI_eq, ix_n, if_neg, hk.pa, rs_s L k a i (fun _ => 0)]
  · intro g s es
    subst es
    show L_X12_empty_2 E (rr w k) (nI a) (g + 1) (nI 4) _ = _
    rw [L_X12_empty_2]
    simp (disch := omega) only [m2, m3, m4, m5, m6, m7, m8, m9, m10, m11, m12, m13, m14, m15, m16, m17, m18, m19, m20, m21, m22, m23, m24, m25, m26, m27, m28, m29, m30, m31, m32, m40, m41, m60, m63, m64, m90, m99, m100, m120, m127, m164, m173, m200, m240, m255, m450, m480, m650, m722, m762, m960, m1000000, m2838, m2988, m4095, pk_mul, nI_add, nI_1, nI_leI, nI_ltI, nI_eq, ix_n, if_pos]
theorem f_copy {k n a k2 n2 a2 : Nat} (hG : 100000 ≤ E.2.2.1) (hk : LA w k n) (ha : a + 4 ≤ n) (hk2 : LA w k2 n2) (ha2 : a2 + 4 ≤ n2) (hne : k2 ≠ k) : F_X12_copy E (rr w k) (nI a) (rr w k2) (nI a2) (Hw E w I L Q) = rtV (Hw E w I (rs L k a 4 (fun i => L k2 (a2 + i))) Q) := by
  have hn := hk.2.2
  have hn2 := hk2.2.2
  unfold F_X12_copy
  refine lpI (σ := Nat → Nat → Int64) (Lp := fun g i s => L_X12_copy_3 E (rr w k) (nI a) (rr w k2) (nI a2) g (nI i) (Hw E w I s Q)) (Inv := fun i s => s = rs L k a i (fun i => L k2 (a2 + i))) (N := 4) ?_ ?_ E.2.2.1 0 L (by omega) (by omega) (rs_0 L k a _).symm
  · intro g i s hi es
    subst es
    refine ⟨_, rfl, ?_⟩
    show L_X12_copy_3 E (rr w k) (nI a) (rr w k2) (nI a2) (g + 1) (nI i) (Hw E w I (rs L k a i (fun i => L k2 (a2 + i))) Q) = _
    rw [L_X12_copy_3]
    simp (disch := omega) only [Option.bind_some, Option.map_some, Option.join, cI_r, cL_r, cV_r, xI_r, xL_r, xV_r, xI_t, xL_t, xV_t, lt_r, rtZ_0, rtZ_1, rtZ_zb, m2, m3, m4, m5, m6, m7, m8, m9, m10, m11, m12, m13, m14, m15, m16, m17, m18, m19, m20, m21, m22, m23, m24, m25, m26, m27, m28, m29, m30, m31, m32, m40, m41, m60, m63, m64, m90, m99, m100, m120, m127, m164, m173, m200, m240, m255, m450, m480, m650, m722, m762, m960, m1000000, m2838, m2988, m4095, pk_mul, nI_add, nI_1, nI_leI, nI_ltI, nI_eq, ix_n, if_neg, hk.pa, hk2.ga, rs_row L (k := k) (k' := k2) _ hne, rs_s L k a i (fun i => L k2 (a2 + i))]
  · intro g s es
    subst es
    show L_X12_copy_3 E (rr w k) (nI a) (rr w k2) (nI a2) (g + 1) (nI 4) _ = _
    rw [L_X12_copy_3]
    simp (disch := omega) only [m2, m3, m4, m5, m6, m7, m8, m9, m10, m11, m12, m13, m14, m15, m16, m17, m18, m19, m20, m21, m22, m23, m24, m25, m26, m27, m28, m29, m30, m31, m32, m40, m41, m60, m63, m64, m90, m99, m100, m120, m127, m164, m173, m200, m240, m255, m450, m480, m650, m722, m762, m960, m1000000, m2838, m2988, m4095, pk_mul, nI_add, nI_1, nI_leI, nI_ltI, nI_eq, ix_n, if_pos]
theorem f_join {k n a k2 n2 a2 : Nat} (hG : 100000 ≤ E.2.2.1) (hk : LA w k n) (ha : a + 4 ≤ n) (hk2 : LA w k2 n2) (ha2 : a2 + 4 ≤ n2) (hne : k2 ≠ k ∨ a2 + 4 ≤ a ∨ a + 4 ≤ a2) : F_X12_join E (rr w k) (nI a) (rr w k2) (nI a2) (Hw E w I L Q) = rtV (Hw E w I (rs L k a 4 (fun i => L k (a + i) ||| L k2 (a2 + i))) Q) := by
  have hn := hk.2.2
  have hn2 := hk2.2.2
  unfold F_X12_join
  refine lpI (σ := Nat → Nat → Int64) (Lp := fun g i s => L_X12_join_3 E (rr w k) (nI a) (rr w k2) (nI a2) g (nI i) (Hw E w I s Q)) (Inv := fun i s => s = rs L k a i (fun i => L k (a + i) ||| L k2 (a2 + i))) (N := 4) ?_ ?_ E.2.2.1 0 L (by omega) (by omega) (rs_0 L k a _).symm
  · intro g i s hi es
    subst es
    refine ⟨_, rfl, ?_⟩
    show L_X12_join_3 E (rr w k) (nI a) (rr w k2) (nI a2) (g + 1) (nI i) (Hw E w I (rs L k a i (fun i => L k (a + i) ||| L k2 (a2 + i))) Q) = _
    rw [L_X12_join_3]
    have e1 : rs L k a i (fun i => L k (a + i) ||| L k2 (a2 + i)) k (a + i) = L k (a + i) := rs_out L _ (by omega)
    have e2 : rs L k a i (fun i => L k (a + i) ||| L k2 (a2 + i)) k2 (a2 + i) = L k2 (a2 + i) := by
      by_cases e : k2 = k
      · subst e; exact rs_out L _ (by omega)
      · rw [rs_row L _ e]
    simp (disch := omega) only [Option.bind_some, Option.map_some, Option.join, cI_r, cL_r, cV_r, xI_r, xL_r, xV_r, xI_t, xL_t, xV_t, lt_r, rtZ_0, rtZ_1, rtZ_zb, m2, m3, m4, m5, m6, m7, m8, m9, m10, m11, m12, m13, m14, m15, m16, m17, m18, m19, m20, m21, m22, m23, m24, m25, m26, m27, m28, m29, m30, m31, m32, m40, m41, m60, m63, m64, m90, m99, m100, m120, m127, m164, m173, m200, m240, m255, m450, m480, m650, m722, m762, m960, m1000000, m2838, m2988, m4095, pk_mul, nI_add, nI_1, nI_leI, nI_ltI, nI_eq, ix_n, if_neg, hk.pa, hk.ga, hk2.ga, e1, e2, rs_s L k a i (fun i => L k (a + i) ||| L k2 (a2 + i))]
  · intro g s es
    subst es
    show L_X12_join_3 E (rr w k) (nI a) (rr w k2) (nI a2) (g + 1) (nI 4) _ = _
    rw [L_X12_join_3]
    simp (disch := omega) only [m2, m3, m4, m5, m6, m7, m8, m9, m10, m11, m12, m13, m14, m15, m16, m17, m18, m19, m20, m21, m22, m23, m24, m25, m26, m27, m28, m29, m30, m31, m32, m40, m41, m60, m63, m64, m90, m99, m100, m120, m127, m164, m173, m200, m240, m255, m450, m480, m650, m722, m762, m960, m1000000, m2838, m2988, m4095, pk_mul, nI_add, nI_1, nI_leI, nI_ltI, nI_eq, ix_n, if_pos]
theorem or0_64 {x y : Int64} : x ||| y = 0 ↔ x = 0 ∧ y = 0 := by
  constructor
  · intro h
    refine ⟨b64_ext fun j hj => ?_, b64_ext fun j hj => ?_⟩
    · exact ⟨fun z => by have := (b64_or (x := x) (y := y) (j := j)).mpr (Or.inl z); rw [h] at this; exact this, fun z => absurd z b64_0⟩
    · exact ⟨fun z => by have := (b64_or (x := x) (y := y) (j := j)).mpr (Or.inr z); rw [h] at this; exact this, fun z => absurd z b64_0⟩
  · rintro ⟨rfl, rfl⟩; rfl
theorem z64 {x : Int64} : x = 0 ↔ ∀ j, j < 64 → ¬ b64 x j := ⟨fun h j _ => by rw [h]; exact b64_0, fun h => b64_ext fun j hj => ⟨fun z => absurd z (h j hj), fun z => absurd z b64_0⟩⟩
theorem f_isNone {k n a : Nat} (hk : LA w k n) (ha : a + 4 ≤ n) : F_X12_isNone E (rr w k) (nI a) (Hw E w I L Q) = rtI (zb (∀ q, q < 256 → ¬ b256 (L k) a q)) (Hw E w I L Q) := by
  have hn := hk.2.2
  have e : (((L k a ||| L k (a + 1)) ||| L k (a + 2)) ||| L k (a + 3)) = 0 ↔ ∀ q, q < 256 → ¬ b256 (L k) a q := by
    rw [or0_64, or0_64, or0_64]
    constructor
    · rintro ⟨⟨⟨h0, h1⟩, h2⟩, h3⟩ q hq
      unfold b256
      have : q / 64 = 0 ∨ q / 64 = 1 ∨ q / 64 = 2 ∨ q / 64 = 3 := by omega
      rcases this with z | z | z | z <;> rw [z]
      · rw [Nat.add_zero, h0]; exact b64_0
      · rw [h1]; exact b64_0
      · rw [h2]; exact b64_0
      · rw [h3]; exact b64_0
    · intro h
      have g : ∀ i, i < 4 → L k (a + i) = 0 := fun i hi => z64.mpr fun j hj => by
        have := h (64 * i + j) (by omega)
        unfold b256 at this
        rw [show (64 * i + j) / 64 = i by omega, show (64 * i + j) % 64 = j by omega] at this
        exact this
      exact ⟨⟨⟨g 0 (by decide), g 1 (by decide)⟩, g 2 (by decide)⟩, g 3 (by decide)⟩
  unfold F_X12_isNone
  simp (disch := omega) only [Option.bind_some, Option.map_some, Option.join, cI_r, cL_r, cV_r, xI_r, xL_r, xV_r, xI_t, xL_t, xV_t, lt_r, rtZ_0, rtZ_1, rtZ_zb, m2, m3, m4, m5, m6, m7, m8, m9, m10, m11, m12, m13, m14, m15, m16, m17, m18, m19, m20, m21, m22, m23, m24, m25, m26, m27, m28, m29, m30, m31, m32, m40, m41, m60, m63, m64, m90, m99, m100, m120, m127, m164, m173, m200, m240, m255, m450, m480, m650, m722, m762, m960, m1000000, m2838, m2988, m4095, pk_mul, nI_add, nI_1, nI_leI, nI_ltI, nI_eq, ix_n, hk.ga]
  by_cases p : ∀ q, q < 256 → ¬ b256 (L k) a q
  · rw [if_neg (not_not_intro (e.mpr p)), zb_t p]
  · rw [if_pos (fun z => p (e.mp z)), zb_f p]
theorem f_sizeOf {k n a : Nat} (hG : 100000 ≤ E.2.2.1) (hk : LA w k n) (ha : a + 4 ≤ n) : F_X12_sizeOf E (rr w k) (nI a) (Hw E w I L Q) = rtI (nI (cntP (b256 (L k) a) 240)) (Hw E w I L Q) := by
  unfold F_X12_sizeOf
  refine lpI (σ := Int32) (Lp := fun g i s => L_X12_sizeOf_4 E (rr w k) (nI a) g s (nI i) (Hw E w I L Q)) (Inv := fun i s => s = nI (cntP (b256 (L k) a) i)) (N := 240) ?_ ?_ E.2.2.1 0 0 (by omega) (by omega) rfl
  · intro g i s hi es
    subst es
    refine ⟨_, rfl, ?_⟩
    show L_X12_sizeOf_4 E (rr w k) (nI a) (g + 1) (nI (cntP (b256 (L k) a) i)) (nI i) (Hw E w I L Q) = _
    rw [L_X12_sizeOf_4]
    simp (disch := omega) only [Option.bind_some, Option.map_some, Option.join, cI_r, cL_r, cV_r, xI_r, xL_r, xV_r, xI_t, xL_t, xV_t, lt_r, rtZ_0, rtZ_1, rtZ_zb, m2, m3, m4, m5, m6, m7, m8, m9, m10, m11, m12, m13, m14, m15, m16, m17, m18, m19, m20, m21, m22, m23, m24, m25, m26, m27, m28, m29, m30, m31, m32, m40, m41, m60, m63, m64, m90, m99, m100, m120, m127, m164, m173, m200, m240, m255, m450, m480, m650, m722, m762, m960, m1000000, m2838, m2988, m4095, pk_mul, nI_add, nI_1, nI_leI, nI_ltI, nI_eq, ix_n, if_neg, f_has hk ha]
    by_cases p : b256 (L k) a i
    · rw [zi_t p, cntP_t p]
    · rw [zi_f p, cntP_f p, Int32.add_zero]
  · intro g s es
    subst es
    show L_X12_sizeOf_4 E (rr w k) (nI a) (g + 1) _ (nI 240) _ = _
    rw [L_X12_sizeOf_4]
    simp (disch := omega) only [m2, m3, m4, m5, m6, m7, m8, m9, m10, m11, m12, m13, m14, m15, m16, m17, m18, m19, m20, m21, m22, m23, m24, m25, m26, m27, m28, m29, m30, m31, m32, m40, m41, m60, m63, m64, m90, m99, m100, m120, m127, m164, m173, m200, m240, m255, m450, m480, m650, m722, m762, m960, m1000000, m2838, m2988, m4095, pk_mul, nI_add, nI_1, nI_leI, nI_ltI, nI_eq, ix_n, if_pos]
theorem f_numberOf {k n a : Nat} {x : Int32} (hG : 100000 ≤ E.2.2.1) (hk : LA w k n) (ha : a + 4 ≤ n) : F_X12_numberOf E (rr w k) (nI a) x (Hw E w I L Q) = if x = -1 then rtI (nI (cntP (b256 (L k) a) 240)) (Hw E w I L Q) else rtI (fstP (fun s => b256 (L k) a s ∧ nI (cntP (b256 (L k) a) s) = x) 240) (Hw E w I L Q) := by
  unfold F_X12_numberOf
  by_cases c : x = -1
  · rw [if_neg (not_not_intro c), if_pos c, f_sizeOf hG hk ha]; rfl
  · rw [if_pos c, if_neg c]
    refine lpE (σ := Int32) (Lp := fun g i s => L_X12_numberOf_16 E (rr w k) (nI a) x g s (nI i) (Hw E w I L Q)) (Iv := fun i s => s = nI (cntP (b256 (L k) a) i) ∧ ∀ j, j < i → ¬ (b256 (L k) a j ∧ nI (cntP (b256 (L k) a) j) = x)) (Post := fun r => r = _) (N := 240) ?_ ?_ E.2.2.1 0 0 (by omega) (by omega) ⟨rfl, fun j hj => absurd hj (by omega)⟩
    · intro g i s hi ⟨es, hn⟩
      subst es
      have e0 : L_X12_numberOf_16 E (rr w k) (nI a) x (g + 1) (nI (cntP (b256 (L k) a) i)) (nI i) (Hw E w I L Q) = if ¬ zb (b256 (L k) a i) = 0 then (if ¬ nI (cntP (b256 (L k) a) i) = x then L_X12_numberOf_16 E (rr w k) (nI a) x g (nI (cntP (b256 (L k) a) i + 1)) (nI (i + 1)) (Hw E w I L Q) else rtI (nI i) (Hw E w I L Q)) else L_X12_numberOf_16 E (rr w k) (nI a) x g (nI (cntP (b256 (L k) a) i)) (nI (i + 1)) (Hw E w I L Q) := by
        rw [L_X12_numberOf_16]
        simp (disch := omega) only [Option.bind_some, Option.map_some, Option.join, cI_r, cL_r, cV_r, xI_r, xL_r, xV_r, xI_t, xL_t, xV_t, lt_r, rtZ_0, rtZ_1, rtZ_zb, m2, m3, m4, m5, m6, m7, m8, m9, m10, m11, m12, m13, m14, m15, m16, m17, m18, m19, m20, m21, m22, m23, m24, m25, m26, m27, m28, m29, m30, m31, m32, m40, m41, m60, m63, m64, m90, m99, m100, m120, m127, m164, m173, m200, m240, m255, m450, m480, m650, m722, m762, m960, m1000000, m2838, m2988, m4095, pk_mul, nI_add, nI_1, nI_leI, nI_ltI, nI_eq, ix_n, if_neg, f_has hk ha]
      by_cases p : b256 (L k) a i
      · by_cases p2 : nI (cntP (b256 (L k) a) i) = x
        · right
          show L_X12_numberOf_16 E (rr w k) (nI a) x (g + 1) (nI (cntP (b256 (L k) a) i)) (nI i) (Hw E w I L Q) = _
          rw [e0, zn_t p, if_neg (not_not_intro p2), fstP_at hi ⟨p, p2⟩ hn]
        · left
          refine ⟨nI (cntP (b256 (L k) a) (i + 1)), ⟨rfl, fun j hj => ?_⟩, ?_⟩
          · by_cases e : j = i
            · subst e; exact fun z => p2 z.2
            · exact hn j (by omega)
          · show L_X12_numberOf_16 E (rr w k) (nI a) x (g + 1) (nI (cntP (b256 (L k) a) i)) (nI i) (Hw E w I L Q) = _
            rw [e0, zn_t p, if_pos p2, cntP_t p]
      · left
        refine ⟨nI (cntP (b256 (L k) a) (i + 1)), ⟨rfl, fun j hj => ?_⟩, ?_⟩
        · by_cases e : j = i
          · subst e; exact fun z => p z.1
          · exact hn j (by omega)
        · show L_X12_numberOf_16 E (rr w k) (nI a) x (g + 1) (nI (cntP (b256 (L k) a) i)) (nI i) (Hw E w I L Q) = _
          rw [e0, zn_f p, cntP_f p]
    · intro g s ⟨es, hn⟩
      show L_X12_numberOf_16 E (rr w k) (nI a) x (g + 1) s (nI 240) _ = _
      rw [L_X12_numberOf_16, fstP_no hn]
      simp (disch := omega) only [m2, m3, m4, m5, m6, m7, m8, m9, m10, m11, m12, m13, m14, m15, m16, m17, m18, m19, m20, m21, m22, m23, m24, m25, m26, m27, m28, m29, m30, m31, m32, m40, m41, m60, m63, m64, m90, m99, m100, m120, m127, m164, m173, m200, m240, m255, m450, m480, m650, m722, m762, m960, m1000000, m2838, m2988, m4095, pk_mul, nI_add, nI_1, nI_leI, nI_ltI, nI_eq, ix_n, if_pos]
end
