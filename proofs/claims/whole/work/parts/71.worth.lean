/-! worth -/
def orK (T : Ro) (k : Nat) : Nat → Int32
  | 0 => 0
  | n + 1 => orK T k n ||| knd T k n
theorem b64_32 {x : Int32} {i : Nat} (hi : i < 32) : b64 x.toInt64 i ↔ b32 x i := by
  unfold b64 b32
  rw [Int32.toBitVec_toInt64, BitVec.getLsbD_signExtend]
  simp [hi, show i < 64 by omega]
theorem cnt_c {P R : Nat → Prop} {n : Nat} (h : ∀ i, i < n → (P i ↔ R i)) : cntP P n = cntP R n := by
  induction n with
  | zero => rfl
  | succ n ih =>
    have e := ih (fun i hi => h i (by omega))
    by_cases p : P n
    · rw [cntP_t p, cntP_t ((h n (by omega)).mp p), e]
    · rw [cntP_f p, cntP_f (fun r => p ((h n (by omega)).mpr r)), e]
theorem cnt_but {P : Nat → Prop} {n m : Nat} (hm : P m) : cntP P n = cntP (fun i => i ≠ m ∧ P i) n + if m < n then 1 else 0 := by
  induction n with
  | zero => rfl
  | succ n ih =>
    by_cases p : P n
    · rw [cntP_t p, ih]
      by_cases e : n = m
      · subst e
        rw [cntP_f (fun z => z.1 rfl), if_neg (by omega), if_pos (by omega)]
      · rw [cntP_t ⟨e, p⟩]
        by_cases l : m < n
        · rw [if_pos l, if_pos (by omega)]
        · rw [if_neg l, if_neg (by omega)]
    · rw [cntP_f p, ih, cntP_f (fun z => p z.2)]
      have e : n ≠ m := fun e => p (by rw [e]; exact hm)
      by_cases l : m < n
      · rw [if_pos l, if_pos (by omega)]
      · rw [if_neg l, if_neg (by omega)]
section
variable {E : Ev} {w : Wo} {I : Nat → Nat → Int32} {L : Nat → Nat → Int64} {Q : Nat → Nat → Option Nat} {c : Nat → Nat} {x y : Int32}
theorem f_orC {k : Nat} {K : Int32 → Hp → Rs} (hG : 100000 ≤ E.2.2.1) (q1 : WfT (I 137) c) (q3 : FolkR (fun j => I (15 + j)) (I 137) c) (hk : k < c 4) : L_X2_howManyKnow_20 E K (rr w 15) (nI k) E.2.2.1 0 0 (Hw E w I L Q) = K (orK (I 137) k 12) (Hw E w I L Q) := by
  refine lpI (σ := Int32) (Lp := fun g i s => L_X2_howManyKnow_20 E K (rr w 15) (nI k) g s (nI i) (Hw E w I L Q)) (Inv := fun i s => s = orK (I 137) k i) (N := 12) ?_ ?_ E.2.2.1 0 0 (by omega) (by omega) rfl
  · intro g i s hi hs
    subst hs
    refine ⟨orK (I 137) k (i + 1), rfl, ?_⟩
    show L_X2_howManyKnow_20 E K (rr w 15) (nI k) (g + 1) (orK (I 137) k i) (nI i) (Hw E w I L Q) = _
    rw [L_X2_howManyKnow_20, if_neg (show ¬ (12 : Int32) ≤ nI i from nI_ge hi (by decide))]
    simp only [Option.bind_some, Option.map_some, Option.join, cI_r, cL_r, cV_r, xI_r, xL_r, xV_r, xI_t, xL_t, xV_t, lt_r, rtZ_0, rtZ_1, rtZ_zb, o15, f_kindsOfC q1 q3 hk hi, nI_1]
    rfl
  · intro g s hs
    subst hs
    show L_X2_howManyKnow_20 E K (rr w 15) (nI k) (g + 1) _ (nI 12) _ = _
    rw [L_X2_howManyKnow_20, if_pos (show (12 : Int32) ≤ nI 12 from nI_le (Nat.le_refl 12) (by decide))]
theorem f_orM {k : Nat} {K : Int32 → Hp → Rs} (hG : 100000 ≤ E.2.2.1) (q1 : WfT (I 137) c) (hk : k < c 4) : L_X12_worth_187 E K (rr w 163) (nI k) E.2.2.1 0 0 (Hw E w I L Q) = K (orK (I 137) k 12) (Hw E w I L Q) := by
  refine lpI (σ := Int32) (Lp := fun g i s => L_X12_worth_187 E K (rr w 163) (nI k) g s (nI i) (Hw E w I L Q)) (Inv := fun i s => s = orK (I 137) k i) (N := 12) ?_ ?_ E.2.2.1 0 0 (by omega) (by omega) rfl
  · intro g i s hi hs
    subst hs
    refine ⟨orK (I 137) k (i + 1), rfl, ?_⟩
    show L_X12_worth_187 E K (rr w 163) (nI k) (g + 1) (orK (I 137) k i) (nI i) (Hw E w I L Q) = _
    rw [L_X12_worth_187, if_neg (show ¬ (12 : Int32) ≤ nI i from nI_ge hi (by decide))]
    simp only [Option.bind_some, Option.map_some, Option.join, cI_r, cL_r, cV_r, xI_r, xL_r, xV_r, xI_t, xL_t, xV_t, lt_r, rtZ_0, rtZ_1, rtZ_zb, o163, f_kindsOfM q1 hk hi, nI_1]
    rfl
  · intro g s hs
    subst hs
    show L_X12_worth_187 E K (rr w 163) (nI k) (g + 1) _ (nI 12) _ = _
    rw [L_X12_worth_187, if_pos (show (12 : Int32) ≤ nI 12 from nI_le (Nat.le_refl 12) (by decide))]
/-- a walker of a set who knows a kind -/
def knw (T : Ro) (x : Int32) (d : Nat) (k : Nat) : Prop := b32 x k ∧ b32 (orK T k 12) d
theorem f_howMany {d : Nat} (hG : 100000 ≤ E.2.2.1) (q1 : WfT (I 137) c) (q3 : FolkR (fun j => I (15 + j)) (I 137) c) (hd : d < 12) : F_X2_howManyKnow E (rr w 15) (nI d) x (Hw E w I L Q) = rtI (nI (cntP (knw (I 137) x d) (c 4))) (Hw E w I L Q) := by
  have k4 := q1.1 4 (by decide)
  simp only [mx] at k4
  have e4 : I 15 2 = nI (c 4) := q3.2.1.1.trans k4.1
  unfold F_X2_howManyKnow
  refine lpI (σ := Int32) (Lp := fun g i s => L_X2_howManyKnow_5 E (rr w 15) (nI d) x g s (nI i) (Hw E w I L Q)) (Inv := fun i s => s = nI (cntP (knw (I 137) x d) i)) (N := c 4) ?_ ?_ E.2.2.1 0 0 (by omega) (by omega) rfl
  · intro g i s hi hs
    subst hs
    refine ⟨nI (cntP (knw (I 137) x d) (i + 1)), rfl, ?_⟩
    show L_X2_howManyKnow_5 E (rr w 15) (nI d) x (g + 1) _ (nI i) (Hw E w I L Q) = _
    rw [L_X2_howManyKnow_5]
    simp only [Option.bind_some, Option.map_some, Option.join, cI_r, cL_r, cV_r, xI_r, xL_r, xV_r, xI_t, xL_t, xV_t, lt_r, rtZ_0, rtZ_1, rtZ_zb, gf15_2, e4, if_neg (nI_ge hi (show c 4 < 2 ^ 31 by omega))]
    rw [f_orC hG q1 q3 hi]
    simp only [Option.bind_some, Option.map_some, Option.join, cI_r, cL_r, cV_r, xI_r, xL_r, xV_r, xI_t, xL_t, xV_t, lt_r, rtZ_0, rtZ_1, rtZ_zb, f_isIn (show i < 64 by omega), f_isIn (show d < 64 by omega), nI_1]
    by_cases p1 : b64 x.toInt64 i
    · rw [zi_t p1]
      by_cases p2 : b64 (orK (I 137) i 12).toInt64 d
      · rw [zi_t p2, cntP_t ⟨(b64_32 (by omega)).mp p1, (b64_32 (by omega)).mp p2⟩]
      · rw [zi_f p2, cntP_f (fun e => p2 ((b64_32 (by omega)).mpr e.2))]
    · rw [zi_f p1, cntP_f (fun e => p1 ((b64_32 (by omega)).mpr e.1))]
  · intro g s hs
    subst hs
    show L_X2_howManyKnow_5 E (rr w 15) (nI d) x (g + 1) _ (nI (c 4)) _ = _
    rw [L_X2_howManyKnow_5]
    simp only [Option.bind_some, Option.map_some, Option.join, cI_r, cL_r, cV_r, xI_r, xL_r, xV_r, xI_t, xL_t, xV_t, lt_r, rtZ_0, rtZ_1, rtZ_zb, gf15_2, e4, if_pos (nI_le (Nat.le_refl (c 4)) (show c 4 < 2 ^ 31 by omega))]
end
