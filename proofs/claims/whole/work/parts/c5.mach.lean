/-! telling: the class' machine -/
abbrev TSt := Nat × Nat × Nat × Nat × Nat × (Nat → Int32)
def wOf (d n a : Nat) : Int32 := nI (d + 16 * n + 512 * a)
theorem wOf_e : ∀ d, d < 16 → ∀ n, n < 21 → ∀ a, a < 16 → (nI d ||| (nI n <<< ((4 : Int32) &&& 31))) ||| (nI a <<< ((9 : Int32) &&& 31)) = wOf d n a := by decide +kernel
def kpS (x : Int32) (m pd am sy wd : Nat) (R : Nat → Int32) : TSt := (m, pd, am, sy, wd, fun j => if j = 4 * sy + wd ∧ j < 40 then x else R j)
def tW (κ v : Nat) (S : TSt) : Nat × TSt := if κ = 12 then (0, 2, 0, 0, S.2.2.2.1, S.2.2.2.2.1, S.2.2.2.2.2) else if κ = 14 then (0, 4, 3, 0, S.2.2.2.1, S.2.2.2.2.1, S.2.2.2.2.2) else if κ = 15 then (0, 3, 4, 0, S.2.2.2.1, S.2.2.2.2.1, S.2.2.2.2.2) else if κ = 16 then (0, 4, 5, 0, S.2.2.2.1, S.2.2.2.2.1, S.2.2.2.2.2) else if κ = 17 then (0, 4, 6, 0, S.2.2.2.1, S.2.2.2.2.1, S.2.2.2.2.2) else if κ = 18 then (0, kpS (wOf 7 0 15) 6 S.2.1 0 S.2.2.2.1 S.2.2.2.2.1 S.2.2.2.2.2) else if κ = 19 then (0, kpS (wOf 8 0 15) 6 S.2.1 0 S.2.2.2.1 S.2.2.2.2.1 S.2.2.2.2.2) else if κ = 20 then (0, kpS (wOf 9 0 15) 6 S.2.1 0 S.2.2.2.1 S.2.2.2.2.1 S.2.2.2.2.2) else if κ = 21 then (0, kpS (wOf 10 0 15) 6 S.2.1 0 S.2.2.2.1 S.2.2.2.2.1 S.2.2.2.2.2) else if κ = 24 then (if v < 1 ∨ 20 < v then (3, S) else (0, 5, 0, v, S.2.2.2.1, S.2.2.2.2.1, S.2.2.2.2.2)) else (2, S)
def tA (d κ v : Nat) (S : TSt) : Nat × TSt := if κ = 24 then (if v < 1 ∨ 20 < v then (3, S) else (0, kpS (wOf d v 15) 6 S.2.1 S.2.2.1 S.2.2.2.1 S.2.2.2.2.1 S.2.2.2.2.2)) else (2, S)
def tM (κ : Nat) (S : TSt) : Nat × TSt := if κ = 25 then (0, 0, 0, S.2.2.1, S.2.2.2.1 + 1, 0, S.2.2.2.2.2) else if κ = 22 then (if S.2.2.2.2.1 = 3 then (4, S) else (0, 1, 0, S.2.2.1, S.2.2.2.1, S.2.2.2.2.1 + 1, S.2.2.2.2.2)) else if κ = 23 then (if S.1 = 7 then (0, 4, S.2.1, S.2.2.1, S.2.2.2.1, S.2.2.2.2.1, S.2.2.2.2.2) else (2, S)) else (2, S)
def tF (κ v : Nat) (S : TSt) : Nat × TSt := if κ = 26 then (0, S) else if ¬ (tW κ v S).1 = 0 then tW κ v S else if S.2.2.2.1 = 10 then (4, S) else tW κ v S
def tN (κ : Nat) (S : TSt) : Nat × TSt := if 12 ≤ κ then (2, S) else (0, kpS (wOf S.2.1 S.2.2.1 κ) 6 S.2.1 S.2.2.1 S.2.2.2.1 S.2.2.2.2.1 S.2.2.2.2.2)
def tS (κ : Nat) (S : TSt) : Nat × TSt := if κ = 20 then (0, kpS (wOf 11 S.2.2.1 15) 7 11 S.2.2.1 S.2.2.2.1 S.2.2.2.2.1 S.2.2.2.2.2) else if κ = 21 then (0, kpS (wOf 12 S.2.2.1 15) 7 12 S.2.2.1 S.2.2.2.1 S.2.2.2.2.1 S.2.2.2.2.2) else (2, S)
def stp (κ v : Nat) (S : TSt) : Nat × TSt := if S.1 = 0 then tF κ v S else if S.1 = 1 then tW κ v S else if S.1 = 2 then (if κ = 13 then (0, 4, 2, S.2.2.1, S.2.2.2.1, S.2.2.2.2.1, S.2.2.2.2.2) else tA 1 κ v S) else if S.1 = 3 then tA 4 κ v S else if S.1 = 4 then tN κ S else if S.1 = 5 then tS κ S else tM κ S
def OkS (S : TSt) : Prop := S.1 ≤ 7 ∧ S.2.1 ≤ 12 ∧ S.2.2.1 ≤ 20 ∧ S.2.2.2.1 ≤ 10 ∧ S.2.2.2.2.1 ≤ 3
def CS (I : Nat → Nat → Int32) (S : TSt) : Prop := I 121 10 = nI S.1 ∧ (S.1 = 4 ∨ S.1 = 7 → I 121 12 = nI S.2.1) ∧ (S.1 ≠ 0 → I 121 13 = nI S.2.2.1) ∧ I 121 5 = nI S.2.2.2.1 ∧ I 121 11 = nI S.2.2.2.2.1 ∧ ∀ j, j < 40 → I 123 j = S.2.2.2.2.2 j
def TF (I I' : Nat → Nat → Int32) : Prop := (∀ k, k ≠ 121 → k ≠ 123 → I' k = I k) ∧ ∀ i, i ≠ 5 → i ≠ 10 → i ≠ 11 → i ≠ 12 → i ≠ 13 → I' 121 i = I 121 i
section
variable {E : Ev} {w : Wo} {I I1 I2 : Nat → Nat → Int32} {L : Nat → Nat → Int64} {Q : Nat → Nat → Option Nat} {B : Nat → Nat} {n : Nat} {S : TSt}
theorem TF.rf : TF I I := ⟨fun _ _ _ => rfl, fun _ _ _ _ _ _ => rfl⟩
theorem TF.tr (h : TF I I1) (g : TF I1 I2) : TF I I2 := ⟨fun k a b => (g.1 k a b).trans (h.1 k a b), fun i a b d e f => (g.2 i a b d e f).trans (h.2 i a b d e f)⟩
theorem f_wordOf {d m a : Nat} {h : Hp} (hd : d < 16) (hm : m < 21) (ha : a < 16) : F_X11_wordOf E (nI d) (nI m) (nI a) h = rtI (wOf d m a) h := by
  unfold F_X11_wordOf
  rw [wOf_e d hd m hm a ha]
theorem c_keep {sy wd m : Nat} {x : Int32} (h5 : I 121 5 = nI sy) (h11 : I 121 11 = nI wd) (hs : sy ≤ 10) (hw : wd ≤ 3) : ∃ I', (∀ k, k ≠ 121 → k ≠ 123 → I' k = I k) ∧ (∀ i, i ≠ 10 → I' 121 i = I 121 i) ∧ I' 121 10 = nI m ∧ (∀ j, j < 40 → I' 123 j = if j = 4 * sy + wd ∧ j < 40 then x else I 123 j) ∧ F_X5_keep E (rr w 121) x (nI m) (Hw E w I L Q) = rtI 0 (Hw E w I' L Q) := by
  unfold F_X5_keep
  by_cases c : 4 * sy + wd < 40
  · generalize eA : up2 (up2 I 123 (4 * sy + wd) x) 121 10 (nI m) = A
    refine ⟨A, fun k h1 h2 => by rw [← eA, up2_row _ _ h1, up2_row _ _ h2], fun i hi => by rw [← eA, up2_i _ _ _ hi, up2_row _ _ (by decide)], by rw [← eA, up2_s], fun j hj => ?_, ?_⟩
    · rw [← eA, up2_row _ _ (by decide)]
      by_cases e : j = 4 * sy + wd
      · rw [if_pos ⟨e, hj⟩, e, up2_s]
      · rw [if_neg (fun z => e z.1), up2_i _ _ _ e]
    · simp (disch := omega) only [Option.bind_some, Option.map_some, Option.join, cI_r, cL_r, cV_r, xI_r, xL_r, xV_r, xI_t, xL_t, xV_t, lt_r, rtZ_0, rtZ_1, rtZ_zb, gf121_5, h5, gf121_11, h11, m4, m40, pk_mul, nI_add, show sy * 4 + wd = 4 * sy + wd by omega, nI_leI, if_neg, gf121_4, pa123, ix_n, pf121_10, eA]
  · refine ⟨up2 I 121 10 (nI m), fun k h1 h2 => up2_row _ _ h1, fun i hi => up2_i _ _ _ hi, up2_s _ _ _ _, fun j hj => ?_, ?_⟩
    · rw [up2_row _ _ (by decide), if_neg (by omega)]
    · simp (disch := omega) only [Option.bind_some, Option.map_some, Option.join, cI_r, cL_r, cV_r, xI_r, xL_r, xV_r, xI_t, xL_t, xV_t, lt_r, rtZ_0, rtZ_1, rtZ_zb, gf121_5, h5, gf121_11, h11, m4, m40, pk_mul, nI_add, show sy * 4 + wd = 4 * sy + wd by omega, nI_leI, if_pos, pf121_10]
theorem c_await {a b : Int32} : F_X5_await E (rr w 121) a b (Hw E w I L Q) = rtI 0 (Hw E w (up2 (up2 I 121 10 a) 121 12 b) L Q) := by
  unfold F_X5_await
  simp only [Option.bind_some, Option.map_some, Option.join, cI_r, cL_r, cV_r, xI_r, xL_r, xV_r, xI_t, xL_t, xV_t, lt_r, rtZ_0, rtZ_1, rtZ_zb, pf121_10, pf121_12]
theorem c_isBad {v : Nat} (h9 : I 121 9 = nI v) (hv : v ≤ 99) : F_X5_isBadNumber E (rr w 121) (Hw E w I L Q) = rtI (zb (v < 1 ∨ 20 < v)) (Hw E w I L Q) := by
  have i1 : (1 : Int32) = nI 1 := rfl
  unfold F_X5_isBadNumber
  simp only [Option.bind_some, Option.map_some, Option.join, cI_r, cL_r, cV_r, xI_r, xL_r, xV_r, xI_t, xL_t, xV_t, lt_r, rtZ_0, rtZ_1, rtZ_zb, gf121_9, h9, i1, m20]
  by_cases c1 : v < 1
  · rw [if_pos ((nI_ltI (by omega) (by decide)).mpr c1), zb_t (Or.inl c1)]; rfl
  · rw [if_neg (fun z => c1 ((nI_ltI (by omega) (by decide)).mp z))]
    by_cases c2 : 20 < v
    · rw [if_neg (nI_ge c2 (by omega)), zb_t (Or.inr c2)]; rfl
    · rw [if_pos (nI_le (by omega) (by decide)), zb_f (by omega)]
theorem CS_kp {x : Int32} {m pd am sy wd : Nat} {R : Nat → Int32} (h12 : m = 4 ∨ m = 7 → I1 121 12 = nI pd) (h13 : I1 121 13 = nI am) (h5 : I1 121 5 = nI sy) (h11 : I1 121 11 = nI wd) (h10 : I1 121 10 = nI m) (hR : ∀ j, j < 40 → I 123 j = R j) (h : ∀ j, j < 40 → I1 123 j = if j = 4 * sy + wd ∧ j < 40 then x else I 123 j) : CS I1 (kpS x m pd am sy wd R) := by
  refine ⟨h10, h12, fun _ => h13, h5, h11, fun j hj => ?_⟩
  rw [h j hj]
  show _ = if j = 4 * sy + wd ∧ j < 40 then x else R j
  split
  · rfl
  · exact hR j hj
theorem CS_aw {a b : Nat} {am sy wd : Nat} {R : Nat → Int32} (h3 : I 121 13 = nI am) (h4 : I 121 5 = nI sy) (h5 : I 121 11 = nI wd) (h6 : ∀ j, j < 40 → I 123 j = R j) : CS (up2 (up2 I 121 10 (nI a)) 121 12 (nI b)) (a, b, am, sy, wd, R) :=
  ⟨by rw [up2_i _ _ _ (by decide), up2_s], fun _ => up2_s _ _ _ _, fun _ => by rw [up2_i _ _ _ (by decide), up2_i _ _ _ (by decide)]; exact h3, by rw [up2_i _ _ _ (by decide), up2_i _ _ _ (by decide)]; exact h4, by rw [up2_i _ _ _ (by decide), up2_i _ _ _ (by decide)]; exact h5, fun j hj => by rw [up2_row _ _ (by decide), up2_row _ _ (by decide)]; exact h6 j hj⟩
theorem TF_aw {a b : Int32} : TF I (up2 (up2 I 121 10 a) 121 12 b) := ⟨fun k h1 h2 => by rw [up2_row _ _ h1, up2_row _ _ h1], fun i h1 h2 h3 h4 h5 => by rw [up2_i _ _ _ h4, up2_i _ _ _ h2]⟩
theorem c_tW {κ v : Nat} (hc : CS I S) (ho : OkS S) (h8 : I 121 8 = nI κ) (hκ : κ ≤ 27) (h9 : κ = 24 → I 121 9 = nI v) (hv : κ = 24 → v ≤ 99) : ∃ I', TF I I' ∧ ((tW κ v S).1 = 0 → CS I' (tW κ v S).2) ∧ F_X5_takeWord E (rr w 121) (Hw E w I L Q) = rtI (nI (tW κ v S).1) (Hw E w I' L Q) := by
  obtain ⟨md, pd, am, sy, wd, R⟩ := S
  obtain ⟨o1, o2, o3, o4, o5⟩ := ho
  dsimp only at o1 o2 o3 o4 o5
  obtain ⟨c1, c2, c3, c4, c5, c6⟩ := hc
  dsimp only at c1 c2 c3 c4 c5 c6
  generalize eA : up2 I 121 13 0 = A
  have A13 : A 121 13 = nI 0 := by rw [← eA, up2_s]; rfl
  have Ai : ∀ i, i ≠ 13 → A 121 i = I 121 i := fun i hi => by rw [← eA, up2_i _ _ _ hi]
  have Ak : ∀ k, k ≠ 121 → A k = I k := fun k hk => by rw [← eA, up2_row _ _ hk]
  have fA : TF I A := ⟨fun k h1 h2 => Ak k h1, fun i h1 h2 h3 h4 h5 => Ai i h5⟩
  have A5 : A 121 5 = nI sy := by rw [Ai 5 (by decide)]; exact c4
  have A11 : A 121 11 = nI wd := by rw [Ai 11 (by decide)]; exact c5
  have AR : ∀ j, j < 40 → A 123 j = R j := fun j hj => by rw [Ak 123 (by decide)]; exact c6 j hj
  have A8 : A 121 8 = nI κ := by rw [Ai 8 (by decide)]; exact h8
  have w7 := f_wordOf (E := E) (d := 7) (m := 0) (a := 15) (h := Hw E w A L Q) (by decide) (by decide) (by decide)
  have w8 := f_wordOf (E := E) (d := 8) (m := 0) (a := 15) (h := Hw E w A L Q) (by decide) (by decide) (by decide)
  have w9 := f_wordOf (E := E) (d := 9) (m := 0) (a := 15) (h := Hw E w A L Q) (by decide) (by decide) (by decide)
  have w10 := f_wordOf (E := E) (d := 10) (m := 0) (a := 15) (h := Hw E w A L Q) (by decide) (by decide) (by decide)
  have w7' : F_X11_wordOf E (7 : Int32) (0 : Int32) (15 : Int32) (Hw E w A L Q) = _ := w7
  have w8' : F_X11_wordOf E (8 : Int32) (0 : Int32) (15 : Int32) (Hw E w A L Q) = _ := w8
  have w9' : F_X11_wordOf E (9 : Int32) (0 : Int32) (15 : Int32) (Hw E w A L Q) = _ := w9
  have w10' : F_X11_wordOf E (10 : Int32) (0 : Int32) (15 : Int32) (Hw E w A L Q) = _ := w10
  have un : F_X5_takeWord E (rr w 121) (Hw E w I L Q) = F_X5_takeWord E (rr w 121) (Hw E w I L Q) := rfl
  conv at un =>
    rhs
    unfold F_X5_takeWord
    simp only [Option.bind_some, Option.map_some, Option.join, cI_r, cL_r, cV_r, xI_r, xL_r, xV_r, xI_t, xL_t, xV_t, lt_r, rtZ_0, rtZ_1, rtZ_zb, pf121_13, eA, gf121_8, A8, o121, c_await, w7', w8', w9', w10', gf121_9]
  have ne : ∀ m, m < 32 → κ ≠ m → ¬ nI κ = nI m := fun m hm h z => h ((nI_eq (by omega) (by omega)).mp z)
  rw [un]
  by_cases c112 : κ = 12
  · subst c112
    rw [if_pos (show nI 12 = (12 : Int32) from rfl)]
    exact ⟨_, fA.tr TF_aw, fun _ => CS_aw (a := 2) (b := 0) A13 A5 A11 AR, rfl⟩
  by_cases c113 : κ = 13
  · subst c113
    rw [if_neg (show ¬ nI 13 = (12 : Int32) by decide), if_pos (show nI 13 = (13 : Int32) from rfl)]
    exact ⟨A, fA, fun z => absurd (show (2 : Nat) = 0 from z) (by decide), rfl⟩
  by_cases c114 : κ = 14
  · subst c114
    rw [if_neg (show ¬ nI 14 = (12 : Int32) by decide), if_neg (show ¬ nI 14 = (13 : Int32) by decide), if_pos (show nI 14 = (14 : Int32) from rfl)]
    exact ⟨_, fA.tr TF_aw, fun _ => CS_aw (a := 4) (b := 3) A13 A5 A11 AR, rfl⟩
  by_cases c115 : κ = 15
  · subst c115
    rw [if_neg (show ¬ nI 15 = (12 : Int32) by decide), if_neg (show ¬ nI 15 = (13 : Int32) by decide), if_neg (show ¬ nI 15 = (14 : Int32) by decide), if_pos (show nI 15 = (15 : Int32) from rfl)]
    exact ⟨_, fA.tr TF_aw, fun _ => CS_aw (a := 3) (b := 4) A13 A5 A11 AR, rfl⟩
  by_cases c116 : κ = 16
  · subst c116
    rw [if_neg (show ¬ nI 16 = (12 : Int32) by decide), if_neg (show ¬ nI 16 = (13 : Int32) by decide), if_neg (show ¬ nI 16 = (14 : Int32) by decide), if_neg (show ¬ nI 16 = (15 : Int32) by decide), if_pos (show nI 16 = (16 : Int32) from rfl)]
    exact ⟨_, fA.tr TF_aw, fun _ => CS_aw (a := 4) (b := 5) A13 A5 A11 AR, rfl⟩
  by_cases c117 : κ = 17
  · subst c117
    rw [if_neg (show ¬ nI 17 = (12 : Int32) by decide), if_neg (show ¬ nI 17 = (13 : Int32) by decide), if_neg (show ¬ nI 17 = (14 : Int32) by decide), if_neg (show ¬ nI 17 = (15 : Int32) by decide), if_neg (show ¬ nI 17 = (16 : Int32) by decide), if_pos (show nI 17 = (17 : Int32) from rfl)]
    exact ⟨_, fA.tr TF_aw, fun _ => CS_aw (a := 4) (b := 6) A13 A5 A11 AR, rfl⟩
  by_cases c118 : κ = 18
  · subst c118
    rw [if_neg (show ¬ nI 18 = (12 : Int32) by decide), if_neg (show ¬ nI 18 = (13 : Int32) by decide), if_neg (show ¬ nI 18 = (14 : Int32) by decide), if_neg (show ¬ nI 18 = (15 : Int32) by decide), if_neg (show ¬ nI 18 = (16 : Int32) by decide), if_neg (show ¬ nI 18 = (17 : Int32) by decide), if_pos (show nI 18 = (18 : Int32) from rfl)]
    obtain ⟨I1, b1, b2, b3, b4, b5⟩ := c_keep (E := E) (w := w) (I := A) (L := L) (Q := Q) (sy := sy) (wd := wd) (m := 6) (x := wOf 7 0 15) A5 A11 o4 o5
    have b5' : F_X5_keep E (rr w 121) (wOf 7 0 15) (6 : Int32) (Hw E w A L Q) = _ := b5
    rw [b5', cI_r]
    refine ⟨I1, fA.tr ⟨b1, fun i h1 h2 h3 h4 h5 => b2 i h2⟩, fun _ => ?_, rfl⟩
    exact CS_kp (I := A) (fun z => absurd z (by decide)) (by rw [b2 13 (by decide)]; exact A13) (by rw [b2 5 (by decide)]; exact A5) (by rw [b2 11 (by decide)]; exact A11) b3 AR b4
  by_cases c119 : κ = 19
  · subst c119
    rw [if_neg (show ¬ nI 19 = (12 : Int32) by decide), if_neg (show ¬ nI 19 = (13 : Int32) by decide), if_neg (show ¬ nI 19 = (14 : Int32) by decide), if_neg (show ¬ nI 19 = (15 : Int32) by decide), if_neg (show ¬ nI 19 = (16 : Int32) by decide), if_neg (show ¬ nI 19 = (17 : Int32) by decide), if_neg (show ¬ nI 19 = (18 : Int32) by decide), if_pos (show nI 19 = (19 : Int32) from rfl)]
    obtain ⟨I1, b1, b2, b3, b4, b5⟩ := c_keep (E := E) (w := w) (I := A) (L := L) (Q := Q) (sy := sy) (wd := wd) (m := 6) (x := wOf 8 0 15) A5 A11 o4 o5
    have b5' : F_X5_keep E (rr w 121) (wOf 8 0 15) (6 : Int32) (Hw E w A L Q) = _ := b5
    rw [b5', cI_r]
    refine ⟨I1, fA.tr ⟨b1, fun i h1 h2 h3 h4 h5 => b2 i h2⟩, fun _ => ?_, rfl⟩
    exact CS_kp (I := A) (fun z => absurd z (by decide)) (by rw [b2 13 (by decide)]; exact A13) (by rw [b2 5 (by decide)]; exact A5) (by rw [b2 11 (by decide)]; exact A11) b3 AR b4
  by_cases c120 : κ = 20
  · subst c120
    rw [if_neg (show ¬ nI 20 = (12 : Int32) by decide), if_neg (show ¬ nI 20 = (13 : Int32) by decide), if_neg (show ¬ nI 20 = (14 : Int32) by decide), if_neg (show ¬ nI 20 = (15 : Int32) by decide), if_neg (show ¬ nI 20 = (16 : Int32) by decide), if_neg (show ¬ nI 20 = (17 : Int32) by decide), if_neg (show ¬ nI 20 = (18 : Int32) by decide), if_neg (show ¬ nI 20 = (19 : Int32) by decide), if_pos (show nI 20 = (20 : Int32) from rfl)]
    obtain ⟨I1, b1, b2, b3, b4, b5⟩ := c_keep (E := E) (w := w) (I := A) (L := L) (Q := Q) (sy := sy) (wd := wd) (m := 6) (x := wOf 9 0 15) A5 A11 o4 o5
    have b5' : F_X5_keep E (rr w 121) (wOf 9 0 15) (6 : Int32) (Hw E w A L Q) = _ := b5
    rw [b5', cI_r]
    refine ⟨I1, fA.tr ⟨b1, fun i h1 h2 h3 h4 h5 => b2 i h2⟩, fun _ => ?_, rfl⟩
    exact CS_kp (I := A) (fun z => absurd z (by decide)) (by rw [b2 13 (by decide)]; exact A13) (by rw [b2 5 (by decide)]; exact A5) (by rw [b2 11 (by decide)]; exact A11) b3 AR b4
  by_cases c121 : κ = 21
  · subst c121
    rw [if_neg (show ¬ nI 21 = (12 : Int32) by decide), if_neg (show ¬ nI 21 = (13 : Int32) by decide), if_neg (show ¬ nI 21 = (14 : Int32) by decide), if_neg (show ¬ nI 21 = (15 : Int32) by decide), if_neg (show ¬ nI 21 = (16 : Int32) by decide), if_neg (show ¬ nI 21 = (17 : Int32) by decide), if_neg (show ¬ nI 21 = (18 : Int32) by decide), if_neg (show ¬ nI 21 = (19 : Int32) by decide), if_neg (show ¬ nI 21 = (20 : Int32) by decide), if_pos (show nI 21 = (21 : Int32) from rfl)]
    obtain ⟨I1, b1, b2, b3, b4, b5⟩ := c_keep (E := E) (w := w) (I := A) (L := L) (Q := Q) (sy := sy) (wd := wd) (m := 6) (x := wOf 10 0 15) A5 A11 o4 o5
    have b5' : F_X5_keep E (rr w 121) (wOf 10 0 15) (6 : Int32) (Hw E w A L Q) = _ := b5
    rw [b5', cI_r]
    refine ⟨I1, fA.tr ⟨b1, fun i h1 h2 h3 h4 h5 => b2 i h2⟩, fun _ => ?_, rfl⟩
    exact CS_kp (I := A) (fun z => absurd z (by decide)) (by rw [b2 13 (by decide)]; exact A13) (by rw [b2 5 (by decide)]; exact A5) (by rw [b2 11 (by decide)]; exact A11) b3 AR b4
  by_cases c122 : κ = 22
  · subst c122
    rw [if_neg (show ¬ nI 22 = (12 : Int32) by decide), if_neg (show ¬ nI 22 = (13 : Int32) by decide), if_neg (show ¬ nI 22 = (14 : Int32) by decide), if_neg (show ¬ nI 22 = (15 : Int32) by decide), if_neg (show ¬ nI 22 = (16 : Int32) by decide), if_neg (show ¬ nI 22 = (17 : Int32) by decide), if_neg (show ¬ nI 22 = (18 : Int32) by decide), if_neg (show ¬ nI 22 = (19 : Int32) by decide), if_neg (show ¬ nI 22 = (20 : Int32) by decide), if_neg (show ¬ nI 22 = (21 : Int32) by decide), if_pos (show nI 22 = (22 : Int32) from rfl)]
    exact ⟨A, fA, fun z => absurd (show (2 : Nat) = 0 from z) (by decide), rfl⟩
  by_cases c123 : κ = 23
  · subst c123
    rw [if_neg (show ¬ nI 23 = (12 : Int32) by decide), if_neg (show ¬ nI 23 = (13 : Int32) by decide), if_neg (show ¬ nI 23 = (14 : Int32) by decide), if_neg (show ¬ nI 23 = (15 : Int32) by decide), if_neg (show ¬ nI 23 = (16 : Int32) by decide), if_neg (show ¬ nI 23 = (17 : Int32) by decide), if_neg (show ¬ nI 23 = (18 : Int32) by decide), if_neg (show ¬ nI 23 = (19 : Int32) by decide), if_neg (show ¬ nI 23 = (20 : Int32) by decide), if_neg (show ¬ nI 23 = (21 : Int32) by decide), if_neg (show ¬ nI 23 = (22 : Int32) by decide), if_pos (show nI 23 = (23 : Int32) from rfl)]
    exact ⟨A, fA, fun z => absurd (show (2 : Nat) = 0 from z) (by decide), rfl⟩
  by_cases c124 : κ = 24
  · subst c124
    rw [if_neg (show ¬ nI 24 = (12 : Int32) by decide), if_neg (show ¬ nI 24 = (13 : Int32) by decide), if_neg (show ¬ nI 24 = (14 : Int32) by decide), if_neg (show ¬ nI 24 = (15 : Int32) by decide), if_neg (show ¬ nI 24 = (16 : Int32) by decide), if_neg (show ¬ nI 24 = (17 : Int32) by decide), if_neg (show ¬ nI 24 = (18 : Int32) by decide), if_neg (show ¬ nI 24 = (19 : Int32) by decide), if_neg (show ¬ nI 24 = (20 : Int32) by decide), if_neg (show ¬ nI 24 = (21 : Int32) by decide), if_neg (show ¬ nI 24 = (22 : Int32) by decide), if_neg (show ¬ nI 24 = (23 : Int32) by decide), if_pos (show nI 24 = (24 : Int32) from rfl)]
    have A9 : A 121 9 = nI v := by rw [Ai 9 (by decide)]; exact h9 rfl
    rw [A9]
    generalize eD : up2 A 121 13 (nI v) = D
    have D13 : D 121 13 = nI v := by rw [← eD, up2_s]
    have Di : ∀ i, i ≠ 13 → D 121 i = A 121 i := fun i hi => by rw [← eD, up2_i _ _ _ hi]
    have Dk : ∀ k, k ≠ 121 → D k = A k := fun k hk => by rw [← eD, up2_row _ _ hk]
    have fD : TF A D := ⟨fun k h1 h2 => Dk k h1, fun i h1 h2 h3 h4 h5 => Di i h5⟩
    rw [c_isBad (E := E) (w := w) (I := D) (L := L) (Q := Q) (v := v) (by rw [Di 9 (by decide)]; exact A9) (hv rfl), cI_r]
    by_cases cv : v < 1 ∨ 20 < v
    · rw [zi_t cv]
      have tw : tW 24 v (md, pd, am, sy, wd, R) = (3, md, pd, am, sy, wd, R) := by show (if v < 1 ∨ 20 < v then _ else _) = _; rw [if_pos cv]
      rw [tw]
      exact ⟨D, fA.tr fD, fun z => absurd (show (3 : Nat) = 0 from z) (by decide), rfl⟩
    · rw [zi_f cv, c_await, cI_r, o121, Option.bind_some]
      have tw : tW 24 v (md, pd, am, sy, wd, R) = (0, 5, 0, v, sy, wd, R) := by show (if v < 1 ∨ 20 < v then _ else _) = _; rw [if_neg cv]
      rw [tw]
      exact ⟨_, (fA.tr fD).tr TF_aw, fun _ => CS_aw (a := 5) (b := 0) D13 (by rw [Di 5 (by decide)]; exact A5) (by rw [Di 11 (by decide)]; exact A11) (fun j hj => by rw [Dk 123 (by decide)]; exact AR j hj), rfl⟩
  have tw : tW κ v (md, pd, am, sy, wd, R) = (2, md, pd, am, sy, wd, R) := by unfold tW; rw [if_neg c112, if_neg c114, if_neg c115, if_neg c116, if_neg c117, if_neg c118, if_neg c119, if_neg c120, if_neg c121, if_neg c124]
  rw [tw, if_neg (show ¬ nI κ = (12 : Int32) from ne 12 (by decide) c112), if_neg (show ¬ nI κ = (13 : Int32) from ne 13 (by decide) c113), if_neg (show ¬ nI κ = (14 : Int32) from ne 14 (by decide) c114), if_neg (show ¬ nI κ = (15 : Int32) from ne 15 (by decide) c115), if_neg (show ¬ nI κ = (16 : Int32) from ne 16 (by decide) c116), if_neg (show ¬ nI κ = (17 : Int32) from ne 17 (by decide) c117), if_neg (show ¬ nI κ = (18 : Int32) from ne 18 (by decide) c118), if_neg (show ¬ nI κ = (19 : Int32) from ne 19 (by decide) c119), if_neg (show ¬ nI κ = (20 : Int32) from ne 20 (by decide) c120), if_neg (show ¬ nI κ = (21 : Int32) from ne 21 (by decide) c121), if_neg (show ¬ nI κ = (22 : Int32) from ne 22 (by decide) c122), if_neg (show ¬ nI κ = (23 : Int32) from ne 23 (by decide) c123), if_neg (show ¬ nI κ = (24 : Int32) from ne 24 (by decide) c124)]
  exact ⟨A, fA, fun z => absurd (show (2 : Nat) = 0 from z) (by decide), rfl⟩
theorem c_tA {d κ v : Nat} (hd : d < 16) (hc : CS I S) (ho : OkS S) (h8 : I 121 8 = nI κ) (hκ : κ ≤ 27) (h9 : κ = 24 → I 121 9 = nI v) (hv : κ = 24 → v ≤ 99) (hmd : S.1 ≠ 0) : ∃ I', TF I I' ∧ ((tA d κ v S).1 = 0 → CS I' (tA d κ v S).2) ∧ F_X5_takeAmount E (rr w 121) (nI d) (Hw E w I L Q) = rtI (nI (tA d κ v S).1) (Hw E w I' L Q) := by
  obtain ⟨md, pd, am, sy, wd, R⟩ := S
  obtain ⟨o1, o2, o3, o4, o5⟩ := ho
  dsimp only at o1 o2 o3 o4 o5
  have hc0 := hc
  obtain ⟨c1, c2, c3, c4, c5, c6⟩ := hc
  dsimp only at c1 c2 c3 c4 c5 c6
  unfold F_X5_takeAmount tA
  simp only [Option.bind_some, Option.map_some, Option.join, cI_r, cL_r, cV_r, xI_r, xL_r, xV_r, xI_t, xL_t, xV_t, lt_r, rtZ_0, rtZ_1, rtZ_zb, gf121_8, h8]
  by_cases c : κ = 24
  · subst c
    rw [if_pos (show nI 24 = (24 : Int32) from rfl), if_pos rfl, o121, Option.bind_some, c_isBad (E := E) (w := w) (I := I) (L := L) (Q := Q) (v := v) (h9 rfl) (hv rfl), cI_r]
    by_cases cv : v < 1 ∨ 20 < v
    · rw [zi_t cv, if_pos cv]
      exact ⟨I, TF.rf, fun z => absurd (show (3 : Nat) = 0 from z) (by decide), rfl⟩
    · rw [zi_f cv, if_neg cv]
      have wo := f_wordOf (E := E) (d := d) (m := v) (a := 15) (h := Hw E w I L Q) hd (by omega) (by decide)
      have wo' : F_X11_wordOf E (nI d) (nI v) (15 : Int32) (Hw E w I L Q) = _ := wo
      obtain ⟨I1, b1, b2, b3, b4, b5⟩ := c_keep (E := E) (w := w) (I := I) (L := L) (Q := Q) (sy := sy) (wd := wd) (m := 6) (x := wOf d v 15) c4 c5 o4 o5
      have b5' : F_X5_keep E (rr w 121) (wOf d v 15) (6 : Int32) (Hw E w I L Q) = _ := b5
      simp only [Option.bind_some, Option.map_some, Option.join, cI_r, cL_r, cV_r, xI_r, xL_r, xV_r, xI_t, xL_t, xV_t, lt_r, rtZ_0, rtZ_1, rtZ_zb, gf121_9, h9 rfl, wo', o121, b5']
      exact ⟨I1, ⟨b1, fun i h1 h2 h3 h4 h5 => b2 i h2⟩, fun _ => CS_kp (I := I) (fun z => absurd z (by decide)) (by rw [b2 13 (by decide)]; exact c3 hmd) (by rw [b2 5 (by decide)]; exact c4) (by rw [b2 11 (by decide)]; exact c5) b3 c6 b4, rfl⟩
  · rw [if_neg c, if_neg (show ¬ nI κ = (24 : Int32) from fun z => c ((nI_eq (a := κ) (b := 24) (by omega) (by decide)).mp z))]
    exact ⟨I, TF.rf, fun z => absurd (show (2 : Nat) = 0 from z) (by decide), rfl⟩
theorem c_take {κ v : Nat} (hc : CS I S) (ho : OkS S) (h8 : I 121 8 = nI κ) (hκ : κ ≤ 27) (h9 : κ = 24 → I 121 9 = nI v) (hv : κ = 24 → v ≤ 99) : ∃ I', TF I I' ∧ ((stp κ v S).1 = 0 → CS I' (stp κ v S).2) ∧ F_X5_take E (rr w 121) (Hw E w I L Q) = rtI (nI (stp κ v S).1) (Hw E w I' L Q) := by
  have hS : ∀ m, m < 8 → S.1 ≠ m → ¬ nI S.1 = nI m := fun m hm h z => h ((nI_eq (by have := ho.1; omega) (by omega)).mp z)
  have hK : ∀ m, m < 32 → (nI κ = nI m ↔ κ = m) := fun m hm => nI_eq (by omega) (by omega)
  have two : ∀ S' : TSt, ∃ I', TF I I' ∧ (((2 : Nat), S').1 = 0 → CS I' ((2 : Nat), S').2) ∧ (rtI 2 (Hw E w I L Q) : Rs) = rtI (nI ((2 : Nat), S').1) (Hw E w I' L Q) := fun S' => ⟨I, TF.rf, fun z => absurd (show (2 : Nat) = 0 from z) (by decide), rfl⟩
  have hc1 := hc.1
  unfold F_X5_take stp
  rw [gf121_10, hc1, Option.bind_some]
  by_cases d0 : S.1 = 0
  · rw [if_pos (show nI S.1 = (0 : Int32) by rw [d0]; rfl), if_pos d0, o121, Option.bind_some]
    unfold F_X5_takeFirst tF
    simp only [Option.bind_some, Option.map_some, Option.join, cI_r, cL_r, cV_r, xI_r, xL_r, xV_r, xI_t, xL_t, xV_t, lt_r, rtZ_0, rtZ_1, rtZ_zb, gf121_8, h8]
    by_cases k26 : κ = 26
    · rw [if_pos k26, if_neg (not_not_intro (show nI κ = (26 : Int32) from (hK 26 (by decide)).mpr k26)), cI_r]
      exact ⟨I, TF.rf, fun _ => hc, rfl⟩
    · rw [if_neg k26, if_pos (show ¬ nI κ = (26 : Int32) from fun z => k26 ((hK 26 (by decide)).mp z)), o121, Option.bind_some]
      obtain ⟨I1, a1, a2, a3⟩ := c_tW (E := E) (w := w) (L := L) (Q := Q) (v := v) hc ho h8 hκ h9 hv
      rw [a3, cI_r]
      by_cases f : (tW κ v S).1 = 0
      · rw [if_neg (not_not_intro f), if_neg (not_not_intro (by rw [f]; rfl))]
        have e5 : I1 121 5 = nI S.2.2.2.1 := by
          have z := (a2 f).2.2.2.1
          have : (tW κ v S).2.2.2.2.1 = S.2.2.2.1 := by
            unfold tW
            repeat' split
            all_goals rfl
          rw [this] at z; exact z
        simp only [Option.bind_some, Option.map_some, Option.join, cI_r, cL_r, cV_r, xI_r, xL_r, xV_r, xI_t, xL_t, xV_t, lt_r, rtZ_0, rtZ_1, rtZ_zb, gf121_5, e5]
        have s10 : nI S.2.2.2.1 = (10 : Int32) ↔ S.2.2.2.1 = 10 := nI_eq (b := 10) (by have := ho.2.2.2.1; omega) (by decide)
        by_cases t : S.2.2.2.1 = 10
        · rw [if_pos t, if_neg (not_not_intro (s10.mpr t)), cI_r]
          exact ⟨I1, a1, fun z => absurd (show (4 : Nat) = 0 from z) (by decide), rfl⟩
        · rw [if_neg t, if_pos (fun z => t (s10.mp z)), cI_r]
          exact ⟨I1, a1, a2, rfl⟩
      · have f' : ¬ nI (tW κ v S).1 = 0 := by
          have : (tW κ v S).1 ≤ 4 := by
            unfold tW
            repeat' split
            all_goals first | exact Nat.zero_le _ | exact (show (2 : Nat) ≤ 4 by decide) | exact (show (3 : Nat) ≤ 4 by decide)
          exact fun z => f ((nI_eq (b := 0) (by omega) (by decide)).mp z)
        rw [if_pos f, if_pos f', cI_r]
        exact ⟨I1, a1, a2, rfl⟩
  · rw [if_neg (show ¬ nI S.1 = (0 : Int32) from hS 0 (by decide) d0), if_neg d0]
    by_cases d1 : S.1 = 1
    · rw [if_pos (show nI S.1 = (1 : Int32) by rw [d1]; rfl), if_pos d1, o121, Option.bind_some]
      obtain ⟨I1, a1, a2, a3⟩ := c_tW (E := E) (w := w) (L := L) (Q := Q) (v := v) hc ho h8 hκ h9 hv
      rw [a3, cI_r]
      exact ⟨I1, a1, a2, rfl⟩
    · rw [if_neg (show ¬ nI S.1 = (1 : Int32) from hS 1 (by decide) d1), if_neg d1]
      by_cases d2 : S.1 = 2
      · rw [if_pos (show nI S.1 = (2 : Int32) by rw [d2]; rfl), if_pos d2, gf121_8, h8, Option.bind_some]
        by_cases k13 : κ = 13
        · rw [if_pos k13, if_neg (not_not_intro (show nI κ = (13 : Int32) from (hK 13 (by decide)).mpr k13)), o121, Option.bind_some, c_await, cI_r]
          exact ⟨_, TF_aw, fun _ => CS_aw (a := 4) (b := 2) (hc.2.2.1 d0) hc.2.2.2.1 hc.2.2.2.2.1 hc.2.2.2.2.2, rfl⟩
        · rw [if_neg k13, if_pos (show ¬ nI κ = (13 : Int32) from fun z => k13 ((hK 13 (by decide)).mp z)), o121, Option.bind_some]
          obtain ⟨I1, a1, a2, a3⟩ := c_tA (E := E) (w := w) (L := L) (Q := Q) (d := 1) (v := v) (by decide) hc ho h8 hκ h9 hv d0
          have a3' : F_X5_takeAmount E (rr w 121) (1 : Int32) (Hw E w I L Q) = _ := a3
          rw [a3', cI_r]
          exact ⟨I1, a1, a2, rfl⟩
      · rw [if_neg (show ¬ nI S.1 = (2 : Int32) from hS 2 (by decide) d2), if_neg d2]
        by_cases d3 : S.1 = 3
        · rw [if_pos (show nI S.1 = (3 : Int32) by rw [d3]; rfl), if_pos d3, o121, Option.bind_some]
          obtain ⟨I1, a1, a2, a3⟩ := c_tA (E := E) (w := w) (L := L) (Q := Q) (d := 4) (v := v) (by decide) hc ho h8 hκ h9 hv d0
          have a3' : F_X5_takeAmount E (rr w 121) (4 : Int32) (Hw E w I L Q) = _ := a3
          rw [a3', cI_r]
          exact ⟨I1, a1, a2, rfl⟩
        · rw [if_neg (show ¬ nI S.1 = (3 : Int32) from hS 3 (by decide) d3), if_neg d3]
          by_cases d4 : S.1 = 4
          · rw [if_pos (show nI S.1 = (4 : Int32) by rw [d4]; rfl), if_pos d4, gf121_8, h8, Option.bind_some]
            unfold tN
            by_cases k12 : 12 ≤ κ
            · rw [if_pos k12, if_pos (show (12 : Int32) ≤ nI κ by rw [m12]; exact nI_le k12 (by omega))]
              exact two _
            · rw [if_neg k12, if_neg (show ¬ (12 : Int32) ≤ nI κ by rw [m12]; exact nI_ge (by omega) (by decide))]
              have wo := f_wordOf (E := E) (d := S.2.1) (m := S.2.2.1) (a := κ) (h := Hw E w I L Q) (by have := ho.2.1; omega) (by have := ho.2.2.1; omega) (by omega)
              obtain ⟨I1, b1, b2, b3, b4, b5⟩ := c_keep (E := E) (w := w) (I := I) (L := L) (Q := Q) (sy := S.2.2.2.1) (wd := S.2.2.2.2.1) (m := 6) (x := wOf S.2.1 S.2.2.1 κ) hc.2.2.2.1 hc.2.2.2.2.1 ho.2.2.2.1 ho.2.2.2.2
              have b5' : F_X5_keep E (rr w 121) (wOf S.2.1 S.2.2.1 κ) (6 : Int32) (Hw E w I L Q) = _ := b5
              simp only [Option.bind_some, Option.map_some, Option.join, cI_r, cL_r, cV_r, xI_r, xL_r, xV_r, xI_t, xL_t, xV_t, lt_r, rtZ_0, rtZ_1, rtZ_zb, gf121_12, hc.2.1 (Or.inl d4), gf121_13, hc.2.2.1 d0, gf121_8, h8, wo, o121, b5']
              exact ⟨I1, ⟨b1, fun i h1 h2 h3 h4 h5 => b2 i h2⟩, fun _ => CS_kp (I := I) (fun z => absurd z (by decide)) (by rw [b2 13 (by decide)]; exact hc.2.2.1 d0) (by rw [b2 5 (by decide)]; exact hc.2.2.2.1) (by rw [b2 11 (by decide)]; exact hc.2.2.2.2.1) b3 hc.2.2.2.2.2 b4, rfl⟩
          · rw [if_neg (show ¬ nI S.1 = (4 : Int32) from hS 4 (by decide) d4), if_neg d4]
            by_cases d5 : S.1 = 5
            · rw [if_pos (show nI S.1 = (5 : Int32) by rw [d5]; rfl), if_pos d5, o121, Option.bind_some]
              unfold F_X5_takeSide J_X5_takeSide_20 J_X5_takeSide_37 tS
              rw [gf121_8, h8, Option.bind_some]
              have side : ∀ d, d < 16 → ∃ I', TF I I' ∧ (((0 : Nat), kpS (wOf d S.2.2.1 15) 7 d S.2.2.1 S.2.2.2.1 S.2.2.2.2.1 S.2.2.2.2.2).1 = 0 → CS I' ((0 : Nat), kpS (wOf d S.2.2.1 15) 7 d S.2.2.1 S.2.2.2.1 S.2.2.2.2.1 S.2.2.2.2.2).2) ∧ ((pf (Hw E w I L Q) (rr w 121) 5 12 (.int (nI d))).bind fun h37 => (gfI h37 (rr w 121) 5 12).bind fun v42 => (gfI h37 (rr w 121) 5 13).bind fun v46 => cI (F_X11_wordOf E v42 v46 (15 : Int32) h37) fun v51 h51 => (isO h51 (rr w 121) 5).bind fun _ => cI (F_X5_keep E (rr w 121) v51 (7 : Int32) h51) fun v56 h56 => rtI v56 h56) = rtI 0 (Hw E w I' L Q) := fun d hd => by
                generalize eA : up2 I 121 12 (nI d) = A
                have A12 : A 121 12 = nI d := by rw [← eA, up2_s]
                have Ai : ∀ i, i ≠ 12 → A 121 i = I 121 i := fun i hi => by rw [← eA, up2_i _ _ _ hi]
                have Ak : ∀ k, k ≠ 121 → A k = I k := fun k hk => by rw [← eA, up2_row _ _ hk]
                have wo := f_wordOf (E := E) (d := d) (m := S.2.2.1) (a := 15) (h := Hw E w A L Q) hd (by have := ho.2.2.1; omega) (by decide)
                have wo' : F_X11_wordOf E (nI d) (nI S.2.2.1) (15 : Int32) (Hw E w A L Q) = _ := wo
                have A13 : A 121 13 = nI S.2.2.1 := by rw [Ai 13 (by decide)]; exact hc.2.2.1 d0
                have A5 : A 121 5 = nI S.2.2.2.1 := by rw [Ai 5 (by decide)]; exact hc.2.2.2.1
                have A11 : A 121 11 = nI S.2.2.2.2.1 := by rw [Ai 11 (by decide)]; exact hc.2.2.2.2.1
                obtain ⟨I1, b1, b2, b3, b4, b5⟩ := c_keep (E := E) (w := w) (I := A) (L := L) (Q := Q) (sy := S.2.2.2.1) (wd := S.2.2.2.2.1) (m := 7) (x := wOf d S.2.2.1 15) A5 A11 ho.2.2.2.1 ho.2.2.2.2
                have b5' : F_X5_keep E (rr w 121) (wOf d S.2.2.1 15) (7 : Int32) (Hw E w A L Q) = _ := b5
                simp only [Option.bind_some, Option.map_some, Option.join, cI_r, cL_r, cV_r, xI_r, xL_r, xV_r, xI_t, xL_t, xV_t, lt_r, rtZ_0, rtZ_1, rtZ_zb, pf121_12, eA, gf121_12, A12, gf121_13, A13, wo', o121, b5']
                exact ⟨I1, ⟨fun k h1 h2 => (b1 k h1 h2).trans (Ak k h1), fun i h1 h2 h3 h4 h5 => (b2 i h2).trans (Ai i h4)⟩, fun _ => CS_kp (I := A) (fun _ => by rw [b2 12 (by decide)]; exact A12) (by rw [b2 13 (by decide)]; exact A13) (by rw [b2 5 (by decide)]; exact A5) (by rw [b2 11 (by decide)]; exact A11) b3 (fun j hj => by rw [Ak 123 (by decide)]; exact hc.2.2.2.2.2 j hj) b4, rfl⟩
              by_cases k20 : κ = 20
              · rw [if_pos k20, if_pos (show nI κ = (20 : Int32) by rw [k20]; rfl)]
                obtain ⟨I1, a1, a2, a3⟩ := side 11 (by decide)
                refine ⟨I1, a1, a2, ?_⟩
                rw [Option.bind_some, if_neg (not_not_intro (show nI κ = (20 : Int32) by rw [k20]; rfl))]
                have a3' := a3
                rw [show nI 11 = (11 : Int32) from rfl] at a3'
                rw [a3', cI_r]
                rfl
              · rw [if_neg k20, if_neg (show ¬ nI κ = (20 : Int32) from fun z => k20 ((hK 20 (by decide)).mp z)), Option.bind_some]
                by_cases k21 : κ = 21
                · rw [if_pos k21, if_pos (show nI κ = (21 : Int32) by rw [k21]; rfl)]
                  obtain ⟨I1, a1, a2, a3⟩ := side 12 (by decide)
                  refine ⟨I1, a1, a2, ?_⟩
                  rw [Option.bind_some, if_pos (show ¬ nI κ = (20 : Int32) from fun z => k20 ((hK 20 (by decide)).mp z))]
                  have a3' := a3
                  rw [show nI 12 = (12 : Int32) from rfl] at a3'
                  rw [a3', cI_r]
                  rfl
                · rw [if_neg k21, if_neg (show ¬ nI κ = (21 : Int32) from fun z => k21 ((hK 21 (by decide)).mp z)), cI_r]
                  exact two _
            · rw [if_neg (show ¬ nI S.1 = (5 : Int32) from hS 5 (by decide) d5), if_neg d5, o121, Option.bind_some]
              unfold F_X5_takeMore tM
              rw [gf121_8, h8, Option.bind_some]
              by_cases k25 : κ = 25
              · rw [if_pos k25, if_neg (not_not_intro (show nI κ = (25 : Int32) by rw [k25]; rfl))]
                generalize eA : up2 (up2 I 121 5 (nI (S.2.2.2.1 + 1))) 121 11 0 = A
                have A5 : A 121 5 = nI (S.2.2.2.1 + 1) := by rw [← eA, up2_i _ _ _ (by decide), up2_s]
                have A11 : A 121 11 = nI 0 := by rw [← eA, up2_s]; rfl
                have Ai : ∀ i, i ≠ 5 → i ≠ 11 → A 121 i = I 121 i := fun i h1 h2 => by rw [← eA, up2_i _ _ _ h2, up2_i _ _ _ h1]
                have Ak : ∀ k, k ≠ 121 → A k = I k := fun k hk => by rw [← eA, up2_row _ _ hk, up2_row _ _ hk]
                simp only [Option.bind_some, Option.map_some, Option.join, cI_r, cL_r, cV_r, xI_r, xL_r, xV_r, xI_t, xL_t, xV_t, lt_r, rtZ_0, rtZ_1, rtZ_zb, gf121_5, hc.2.2.2.1, nI_1, pf121_5, pf121_11, eA, o121, c_await]
                exact ⟨_, TF.tr (I1 := A) ⟨fun k h1 h2 => Ak k h1, fun i h1 h2 h3 h4 h5 => Ai i h1 h3⟩ TF_aw, fun _ => CS_aw (a := 0) (b := 0) (by rw [Ai 13 (by decide) (by decide)]; exact hc.2.2.1 d0) A5 A11 (fun j hj => by rw [Ak 123 (by decide)]; exact hc.2.2.2.2.2 j hj), rfl⟩
              · rw [if_neg k25, if_pos (show ¬ nI κ = (25 : Int32) from fun z => k25 ((hK 25 (by decide)).mp z)), Option.bind_some]
                by_cases k22 : κ = 22
                · rw [if_pos k22, if_neg (not_not_intro (show nI κ = (22 : Int32) by rw [k22]; rfl)), gf121_11, hc.2.2.2.2.1, Option.bind_some]
                  have w3 : nI S.2.2.2.2.1 = (3 : Int32) ↔ S.2.2.2.2.1 = 3 := nI_eq (b := 3) (by have := ho.2.2.2.2; omega) (by decide)
                  by_cases t3 : S.2.2.2.2.1 = 3
                  · rw [if_pos t3, if_neg (not_not_intro (w3.mpr t3)), cI_r]
                    exact ⟨I, TF.rf, fun z => absurd (show (4 : Nat) = 0 from z) (by decide), rfl⟩
                  · rw [if_neg t3, if_pos (fun z => t3 (w3.mp z))]
                    generalize eA : up2 I 121 11 (nI (S.2.2.2.2.1 + 1)) = A
                    have A11 : A 121 11 = nI (S.2.2.2.2.1 + 1) := by rw [← eA, up2_s]
                    have Ai : ∀ i, i ≠ 11 → A 121 i = I 121 i := fun i h1 => by rw [← eA, up2_i _ _ _ h1]
                    have Ak : ∀ k, k ≠ 121 → A k = I k := fun k hk => by rw [← eA, up2_row _ _ hk]
                    simp only [Option.bind_some, Option.map_some, Option.join, cI_r, cL_r, cV_r, xI_r, xL_r, xV_r, xI_t, xL_t, xV_t, lt_r, rtZ_0, rtZ_1, rtZ_zb, gf121_11, hc.2.2.2.2.1, nI_1, pf121_11, eA, o121, c_await]
                    exact ⟨_, TF.tr (I1 := A) ⟨fun k h1 h2 => Ak k h1, fun i h1 h2 h3 h4 h5 => Ai i h3⟩ TF_aw, fun _ => CS_aw (a := 1) (b := 0) (by rw [Ai 13 (by decide)]; exact hc.2.2.1 d0) (by rw [Ai 5 (by decide)]; exact hc.2.2.2.1) A11 (fun j hj => by rw [Ak 123 (by decide)]; exact hc.2.2.2.2.2 j hj), rfl⟩
                · rw [if_neg k22, if_pos (show ¬ nI κ = (22 : Int32) from fun z => k22 ((hK 22 (by decide)).mp z)), Option.bind_some]
                  by_cases k23 : κ = 23
                  · rw [if_pos k23, if_neg (not_not_intro (show nI κ = (23 : Int32) by rw [k23]; rfl)), gf121_10, hc1, Option.bind_some]
                    by_cases t7 : S.1 = 7
                    · rw [if_pos t7, if_neg (not_not_intro (show nI S.1 = (7 : Int32) by rw [t7]; rfl))]
                      simp only [Option.bind_some, Option.map_some, Option.join, cI_r, cL_r, cV_r, xI_r, xL_r, xV_r, xI_t, xL_t, xV_t, lt_r, rtZ_0, rtZ_1, rtZ_zb, gf121_12, hc.2.1 (Or.inr t7), o121, c_await]
                      exact ⟨_, TF_aw, fun _ => CS_aw (a := 4) (b := S.2.1) (hc.2.2.1 d0) hc.2.2.2.1 hc.2.2.2.2.1 hc.2.2.2.2.2, rfl⟩
                    · rw [if_neg t7, if_pos (show ¬ nI S.1 = (7 : Int32) from hS 7 (by decide) t7), cI_r]
                      exact two _
                  · rw [if_neg k23, if_pos (show ¬ nI κ = (23 : Int32) from fun z => k23 ((hK 23 (by decide)).mp z)), cI_r]
                    exact two _
end
