/-! what calls need: the class throws, the reference says no -/
theorem zi_t {p : Prop} {α : Type} {A B : α} (h : p) : (if zb p = 0 then A else B) = B := if_neg (fun e => zb_0.mp e h)
theorem zi_f {p : Prop} {α : Type} {A B : α} (h : ¬ p) : (if zb p = 0 then A else B) = A := if_pos (zb_0.mpr h)
theorem zn_t {p : Prop} {α : Type} {A B : α} (h : p) : (if ¬ zb p = 0 then A else B) = A := if_pos (fun e => zb_0.mp e h)
theorem zn_f {p : Prop} {α : Type} {A B : α} (h : ¬ p) : (if ¬ zb p = 0 then A else B) = B := if_neg (not_not_intro (zb_0.mpr h))
noncomputable def nd (p : Prop) (e : String) (h : Hp) : Rs := @ite _ p (Classical.propDecidable p) (rtV h) (thr e h)
theorem nd_t {p : Prop} {e : String} {h : Hp} (q : p) : nd p e h = rtV h := if_pos q
theorem nd_f {p : Prop} {e : String} {h : Hp} (q : ¬ p) : nd p e h = thr e h := if_neg q
theorem bl_iff {x : Int32} {n : Nat} (hn : n < 2 ^ 31) : bl x n ↔ ¬ x < 0 ∧ x < nI n := by
  constructor
  · rintro ⟨j, rfl, hj⟩; exact ⟨nI_pos (by omega), nI_lt hj hn⟩
  · rintro ⟨h1, h2⟩
    obtain ⟨j, hj, rfl⟩ := nI_of h1
    exact ⟨j, rfl, (nI_ltI hj hn).mp h2⟩
theorem bd_iff {x : Int32} {n : Nat} (hn : n < 2 ^ 31) : bd x 0 n ↔ ¬ x < 0 ∧ ¬ nI n < x := by
  constructor
  · rintro ⟨j, rfl, -, hj⟩; exact ⟨nI_pos (by omega), nI_nlt hj (by omega)⟩
  · rintro ⟨h1, h2⟩
    obtain ⟨j, hj, rfl⟩ := nI_of h1
    exact ⟨j, rfl, by omega, by have := (nI_leI hj hn).mp (Int32.not_lt.mp h2); omega⟩
theorem bl_ref {x : Int32} {n : Nat} (hn : n < 2 ^ 30) : (0 ≤ x ∧ x ≤ nI n - 1) ↔ bl x n := by
  constructor
  · rintro ⟨h1, h2⟩
    obtain ⟨j, hj, rfl⟩ := nI_of (Int32.not_lt.mpr h1)
    refine ⟨j, rfl, ?_⟩
    cases n with
    | zero =>
      have : nI 0 - 1 = (-1 : Int32) := by decide
      rw [this] at h2
      exact absurd (Int32.le_trans h1 h2) (by decide)
    | succ n =>
      rw [nI_pred] at h2
      have := (nI_leI hj (by omega)).mp h2
      omega
  · rintro ⟨j, rfl, hj⟩
    cases n with
    | zero => omega
    | succ n => rw [nI_pred]; exact ⟨nI_pos' (by omega), nI_le (by omega) (by omega)⟩
theorem bd_ref {x : Int32} {n : Nat} (hn : n < 2 ^ 31) : (0 ≤ x ∧ x ≤ nI n) ↔ bd x 0 n := by
  rw [bd_iff hn, Int32.not_lt, Int32.not_lt]
theorem bd_bl {x : Int32} {n : Nat} : bd x 0 n ↔ bl x (n + 1) := ⟨fun ⟨j, e, _, h⟩ => ⟨j, e, by omega⟩, fun ⟨j, e, h⟩ => ⟨j, e, by omega, by omega⟩⟩
section
variable {E : Ev} {w : Wo} {I : Nat → Nat → Int32} {L : Nat → Nat → Int64} {Q : Nat → Nat → Option Nat} {c : Nat → Nat} {x y : Int32}
theorem f_needPlace {n : Nat} (hn : I 0 0 = nI n) (h4 : n < 2 ^ 31) : F_X11_needPlace E (rr w 136) x (Hw E w I L Q) = nd (bl x n) "java/util/NoSuchElementException" (Hw E w I L Q) := by
  unfold F_X11_needPlace
  by_cases p : bl x n
  · rw [nd_t p]; have z := (bl_iff h4).mp p
    rw [if_neg z.1]; simp only [Option.bind_some, Option.map_some, Option.join, cI_r, cL_r, cV_r, xI_r, xL_r, xV_r, xI_t, xL_t, xV_t, lt_r, rtZ_0, rtZ_1, rtZ_zb, gf136_0, gf0_0, hn, if_pos z.2]
  · rw [nd_f p]
    by_cases c1 : x < 0
    · rw [if_pos c1]
    · rw [if_neg c1]; simp only [Option.bind_some, Option.map_some, Option.join, cI_r, cL_r, cV_r, xI_r, xL_r, xV_r, xI_t, xL_t, xV_t, lt_r, rtZ_0, rtZ_1, rtZ_zb, gf136_0, gf0_0, hn, if_neg (fun e => p ((bl_iff h4).mpr ⟨c1, e⟩))]
theorem f_needTongue {n : Nat} (hn : I 15 0 = nI n) (h4 : n < 2 ^ 31) : F_X11_needTongue E (rr w 136) x (Hw E w I L Q) = nd (bl x n) "java/util/NoSuchElementException" (Hw E w I L Q) := by
  unfold F_X11_needTongue
  by_cases p : bl x n
  · rw [nd_t p]; have z := (bl_iff h4).mp p
    rw [if_neg z.1]; simp only [Option.bind_some, Option.map_some, Option.join, cI_r, cL_r, cV_r, xI_r, xL_r, xV_r, xI_t, xL_t, xV_t, lt_r, rtZ_0, rtZ_1, rtZ_zb, gf136_1, gf15_0, hn, if_pos z.2]
  · rw [nd_f p]
    by_cases c1 : x < 0
    · rw [if_pos c1]
    · rw [if_neg c1]; simp only [Option.bind_some, Option.map_some, Option.join, cI_r, cL_r, cV_r, xI_r, xL_r, xV_r, xI_t, xL_t, xV_t, lt_r, rtZ_0, rtZ_1, rtZ_zb, gf136_1, gf15_0, hn, if_neg (fun e => p ((bl_iff h4).mpr ⟨c1, e⟩))]
theorem f_needWalker {n : Nat} (hn : I 15 2 = nI n) (h4 : n < 2 ^ 31) : F_X11_needWalker E (rr w 136) x (Hw E w I L Q) = nd (bl x n) "java/util/NoSuchElementException" (Hw E w I L Q) := by
  unfold F_X11_needWalker
  by_cases p : bl x n
  · rw [nd_t p]; have z := (bl_iff h4).mp p
    rw [if_neg z.1]; simp only [Option.bind_some, Option.map_some, Option.join, cI_r, cL_r, cV_r, xI_r, xL_r, xV_r, xI_t, xL_t, xV_t, lt_r, rtZ_0, rtZ_1, rtZ_zb, gf136_1, gf15_2, hn, if_pos z.2]
  · rw [nd_f p]
    by_cases c1 : x < 0
    · rw [if_pos c1]
    · rw [if_neg c1]; simp only [Option.bind_some, Option.map_some, Option.join, cI_r, cL_r, cV_r, xI_r, xL_r, xV_r, xI_t, xL_t, xV_t, lt_r, rtZ_0, rtZ_1, rtZ_zb, gf136_1, gf15_2, hn, if_neg (fun e => p ((bl_iff h4).mpr ⟨c1, e⟩))]
theorem f_needTelling {n : Nat} (hn : I 22 0 = nI n) (h4 : n < 2 ^ 31) : F_X11_needTelling E (rr w 136) x (Hw E w I L Q) = nd (bl x n) "java/util/NoSuchElementException" (Hw E w I L Q) := by
  unfold F_X11_needTelling
  by_cases p : bl x n
  · rw [nd_t p]; have z := (bl_iff h4).mp p
    rw [if_neg z.1]; simp only [Option.bind_some, Option.map_some, Option.join, cI_r, cL_r, cV_r, xI_r, xL_r, xV_r, xI_t, xL_t, xV_t, lt_r, rtZ_0, rtZ_1, rtZ_zb, gf136_2, gf22_0, hn, if_pos z.2]
  · rw [nd_f p]
    by_cases c1 : x < 0
    · rw [if_pos c1]
    · rw [if_neg c1]; simp only [Option.bind_some, Option.map_some, Option.join, cI_r, cL_r, cV_r, xI_r, xL_r, xV_r, xI_t, xL_t, xV_t, lt_r, rtZ_0, rtZ_1, rtZ_zb, gf136_2, gf22_0, hn, if_neg (fun e => p ((bl_iff h4).mpr ⟨c1, e⟩))]
theorem f_needState {n : Nat} (hn : I 0 3 = nI n) (h4 : n < 2 ^ 28) : F_X11_needState E (rr w 136) x (Hw E w I L Q) = nd (bl x (4 * n)) "java/util/NoSuchElementException" (Hw E w I L Q) := by
  unfold F_X11_needState
  by_cases p : bl x (4 * n)
  · rw [nd_t p]; have z := (bl_iff (by omega)).mp p
    rw [if_neg z.1]; simp only [Option.bind_some, Option.map_some, Option.join, cI_r, cL_r, cV_r, xI_r, xL_r, xV_r, xI_t, xL_t, xV_t, lt_r, rtZ_0, rtZ_1, rtZ_zb, gf136_0, gf0_3, hn, n4, pk_mul, if_pos z.2]
  · rw [nd_f p]
    by_cases c1 : x < 0
    · rw [if_pos c1]
    · rw [if_neg c1]; simp only [Option.bind_some, Option.map_some, Option.join, cI_r, cL_r, cV_r, xI_r, xL_r, xV_r, xI_t, xL_t, xV_t, lt_r, rtZ_0, rtZ_1, rtZ_zb, gf136_0, gf0_3, hn, n4, pk_mul, if_neg (fun e => p ((bl_iff (by omega)).mpr ⟨c1, e⟩))]
theorem f_needName {h : Hp} : F_X11_needName E (rr w 136) x h = nd (bl x 12) "java/util/NoSuchElementException" h := by
  unfold F_X11_needName
  by_cases p : bl x 12
  · rw [nd_t p]; have z := (bl_iff (by decide)).mp p
    rw [if_neg z.1, n12, if_pos z.2]
  · rw [nd_f p]
    by_cases c1 : x < 0
    · rw [if_pos c1]
    · rw [if_neg c1, n12, if_neg (fun e => p ((bl_iff (by decide)).mpr ⟨c1, e⟩))]
theorem f_needTray {h : Hp} : F_X11_needTray E (rr w 136) x h = nd (bl x 4) "java/util/NoSuchElementException" h := by
  unfold F_X11_needTray
  by_cases p : bl x 4
  · rw [nd_t p]; have z := (bl_iff (by decide)).mp p
    rw [if_neg z.1, n4, if_pos z.2]
  · rw [nd_f p]
    by_cases c1 : x < 0
    · rw [if_pos c1]
    · rw [if_neg c1, n4, if_neg (fun e => p ((bl_iff (by decide)).mpr ⟨c1, e⟩))]
theorem f_needImage {h : Hp} : F_X11_needImage E (rr w 136) x h = nd (bl x 3) "java/util/NoSuchElementException" h := by
  unfold F_X11_needImage
  by_cases p : bl x 3
  · rw [nd_t p]; have z := (bl_iff (by decide)).mp p
    rw [if_neg z.1, n3, if_pos z.2]
  · rw [nd_f p]
    by_cases c1 : x < 0
    · rw [if_pos c1]
    · rw [if_neg c1, n3, if_neg (fun e => p ((bl_iff (by decide)).mpr ⟨c1, e⟩))]
theorem f_needTeller {h : Hp} : F_X11_needTeller E (rr w 136) x h = nd (bl x 10) "java/lang/IllegalArgumentException" h := by
  unfold F_X11_needTeller
  by_cases p : bl x 10
  · rw [nd_t p]; have z := (bl_iff (by decide)).mp p
    rw [if_neg z.1, n10, if_pos z.2]
  · rw [nd_f p]
    by_cases c1 : x < 0
    · rw [if_pos c1]
    · rw [if_neg c1, n10, if_neg (fun e => p ((bl_iff (by decide)).mpr ⟨c1, e⟩))]
theorem f_needYear {h : Hp} : F_X11_needYear E (rr w 136) x h = nd (bd x 0 200) "java/lang/IllegalArgumentException" h := by
  unfold F_X11_needYear
  by_cases p : bd x 0 200
  · rw [nd_t p]; have z := (bd_iff (by decide)).mp p
    have z2 : x ≤ nI 200 := Int32.not_lt.mp z.2
    rw [if_neg z.1, n200]; first | rw [if_pos z2] | rw [if_neg z.2]
  · rw [nd_f p]
    by_cases c1 : x < 0
    · rw [if_pos c1]
    · have z : nI 200 < x := Classical.not_not.mp fun e => p ((bd_iff (by decide)).mpr ⟨c1, e⟩)
      rw [if_neg c1, n200]; first | rw [if_pos z] | rw [if_neg (Int32.not_le.mpr z)]
theorem f_needKinds {h : Hp} : F_X11_needKinds E (rr w 136) x h = nd (bd x 0 4095) "java/lang/IllegalArgumentException" h := by
  unfold F_X11_needKinds
  by_cases p : bd x 0 4095
  · rw [nd_t p]; have z := (bd_iff (by decide)).mp p
    have z2 : x ≤ nI 4095 := Int32.not_lt.mp z.2
    rw [if_neg z.1, n4095]; first | rw [if_pos z2] | rw [if_neg z.2]
  · rw [nd_f p]
    by_cases c1 : x < 0
    · rw [if_pos c1]
    · have z : nI 4095 < x := Classical.not_not.mp fun e => p ((bd_iff (by decide)).mpr ⟨c1, e⟩)
      rw [if_neg c1, n4095]; first | rw [if_pos z] | rw [if_neg (Int32.not_le.mpr z)]
theorem f_is {s n : Nat} (hs : s < 2988) (hn : I 137 s = nI n) (h4 : n < 2 ^ 30) : F_X12_is E (rr w 163) (nI s) x (Hw E w I L Q) = rtI (zb (bl x n)) (Hw E w I L Q) := by
  unfold F_X12_is
  simp only [Option.bind_some, Option.map_some, Option.join, cI_r, cL_r, cV_r, xI_r, xL_r, xV_r, xI_t, xL_t, xV_t, lt_r, rtZ_0, rtZ_1, rtZ_zb, gf163_0, ga137, ix_n hs (by decide), hn, wi_t, i64_l0, i64_le, bl_ref h4]
theorem f_isPlace {n : Nat} (hn : I 137 0 = nI n) (h4 : n < 2 ^ 30) : F_X12_isPlace E (rr w 163) x (Hw E w I L Q) = rtI (zb (bl x n)) (Hw E w I L Q) := by
  unfold F_X12_isPlace
  simp only [Option.bind_some, Option.map_some, Option.join, cI_r, cL_r, cV_r, xI_r, xL_r, xV_r, xI_t, xL_t, xV_t, lt_r, rtZ_0, rtZ_1, rtZ_zb, o163, n0, f_is (show 0 < 2988 by decide) hn h4]
theorem f_isWalker {n : Nat} (hn : I 137 4 = nI n) (h4 : n < 2 ^ 30) : F_X12_isWalker E (rr w 163) x (Hw E w I L Q) = rtI (zb (bl x n)) (Hw E w I L Q) := by
  unfold F_X12_isWalker
  simp only [Option.bind_some, Option.map_some, Option.join, cI_r, cL_r, cV_r, xI_r, xL_r, xV_r, xI_t, xL_t, xV_t, lt_r, rtZ_0, rtZ_1, rtZ_zb, o163, n4, f_is (show 4 < 2988 by decide) hn h4]
theorem f_isTelling {n : Nat} (hn : I 137 5 = nI n) (h4 : n < 2 ^ 30) : F_X12_isTelling E (rr w 163) x (Hw E w I L Q) = rtI (zb (bl x n)) (Hw E w I L Q) := by
  unfold F_X12_isTelling
  simp only [Option.bind_some, Option.map_some, Option.join, cI_r, cL_r, cV_r, xI_r, xL_r, xV_r, xI_t, xL_t, xV_t, lt_r, rtZ_0, rtZ_1, rtZ_zb, o163, n5, f_is (show 5 < 2988 by decide) hn h4]
theorem f_isState {n : Nat} (hn : I 137 1 = nI n) (h4 : n < 2 ^ 28) : F_X12_isState E (rr w 163) x (Hw E w I L Q) = rtI (zb (bl x (4 * n))) (Hw E w I L Q) := by
  unfold F_X12_isState
  simp only [Option.bind_some, Option.map_some, Option.join, cI_r, cL_r, cV_r, xI_r, xL_r, xV_r, xI_t, xL_t, xV_t, lt_r, rtZ_0, rtZ_1, rtZ_zb, gf163_0, ga137, show ix 1 2988 = some 1 from rfl, hn, wi_t, i64_l0, n4, pk_mul, i64_le, bl_ref (show 4 * n < 2 ^ 30 by omega)]
theorem f_isYear {h : Hp} : F_X12_isYear E x h = rtI (zb (bd x 0 200)) h := by
  unfold F_X12_isYear
  simp only [Option.bind_some, Option.map_some, Option.join, cI_r, cL_r, cV_r, xI_r, xL_r, xV_r, xI_t, xL_t, xV_t, lt_r, rtZ_0, rtZ_1, rtZ_zb, wi_t, i64_l0, i64_r 200 (show (200 : Int32).toInt64 = 200 by rfl), n200, bd_ref (show 200 < 2 ^ 31 by decide)]
theorem f_isName {h : Hp} : F_X12_isName E x h = rtI (zb (bl x 12)) h := by
  unfold F_X12_isName
  simp only [Option.bind_some, Option.map_some, Option.join, cI_r, cL_r, cV_r, xI_r, xL_r, xV_r, xI_t, xL_t, xV_t, lt_r, rtZ_0, rtZ_1, rtZ_zb, wi_t, i64_l0, i64_r 11 (show (11 : Int32).toInt64 = 11 by rfl), n11, bd_ref (show 11 < 2 ^ 31 by decide), bd_bl]
theorem f_isTray {h : Hp} : F_X12_isTray E x h = rtI (zb (bl x 4)) h := by
  unfold F_X12_isTray
  simp only [Option.bind_some, Option.map_some, Option.join, cI_r, cL_r, cV_r, xI_r, xL_r, xV_r, xI_t, xL_t, xV_t, lt_r, rtZ_0, rtZ_1, rtZ_zb, wi_t, i64_l0, i64_r 3 (show (3 : Int32).toInt64 = 3 by rfl), n3, bd_ref (show 3 < 2 ^ 31 by decide), bd_bl]
theorem f_wi {h : Hp} (n : Nat) {m : Int64} (hn : n < 2 ^ 31) (hm : (nI n).toInt64 = m) : F_X12_within E x.toInt64 0 m h = rtI (zb (bd x 0 n)) h := by
  rw [wi_t, i64_l0, i64_r (nI n) hm, bd_ref hn]
theorem f_areThere {a b d : Int32} (hC : Cts (I 137) c) : F_X12_areThere E (rr w 163) a b d (Hw E w I L Q) = rtI (zb (bl a (c 5) ∧ bl b (c 4) ∧ bl d (4 * c 1))) (Hw E w I L Q) := by
  have h5 := hC 5 (by decide)
  have h4 := hC 4 (by decide)
  have h1 := hC 1 (by decide)
  simp only [mx] at h5 h4 h1
  unfold F_X12_areThere
  simp only [Option.bind_some, Option.map_some, Option.join, cI_r, cL_r, cV_r, xI_r, xL_r, xV_r, xI_t, xL_t, xV_t, lt_r, rtZ_0, rtZ_1, rtZ_zb, o163, f_isTelling h5.1 (by omega), f_isWalker h4.1 (by omega), f_isState h1.1 (by omega)]
  by_cases p1 : bl a (c 5)
  · rw [zi_t p1]
    by_cases p2 : bl b (c 4)
    · rw [zi_t p2]
      by_cases p3 : bl d (4 * c 1)
      · rw [zi_t p3, zb_t ⟨p1, p2, p3⟩]
      · rw [zi_f p3, zb_f (fun e => p3 e.2.2)]
    · rw [zi_f p2, zb_f (fun e => p2 e.2.1)]
  · rw [zi_f p1, zb_f (fun e => p1 e.1)]
end
