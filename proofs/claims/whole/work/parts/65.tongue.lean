/-! tongue -/
def pw1 (n : Nat) : Int32 := (1 : Int32) <<< (nI n &&& 31)
theorem pw1_b : ∀ n, n < 12 → pw1 n = nI (2 ^ n) ∧ 2 ^ n ≤ 4095 := by decide
section
variable {E : Ev} {w : Wo} {I : Nat → Nat → Int32} {L : Nat → Nat → Int64} {Q : Nat → Nat → Option Nat} {c : Nat → Nat} {x y : Int32}
theorem f_addTongueL {U : Nat} {K : Hp → Rs} (hG : 100000 ≤ E.2.2.1) (hU : U < 6) (e : I 15 0 = nI U) : L_X2_addTongue_13 E K (rr w 15) E.2.2.1 0 (Hw E w I L Q) = K (Hw E w (rs I 16 (12 * U) 12 pw1) L Q) := by
  refine lpI (σ := Nat → Nat → Int32) (Lp := fun g i s => L_X2_addTongue_13 E K (rr w 15) g (nI i) (Hw E w s L Q)) (Inv := fun i s => s = rs I 16 (12 * U) i pw1) (N := 12) ?_ ?_ E.2.2.1 0 I (by omega) (by omega) (rs_0 I 16 _ _).symm
  · intro g i s hi es
    subst es
    refine ⟨rs I 16 (12 * U) (i + 1) pw1, rfl, ?_⟩
    show L_X2_addTongue_13 E K (rr w 15) (g + 1) (nI i) (Hw E w (rs I 16 (12 * U) i pw1) L Q) = _
    have e0 : rs I 16 (12 * U) i pw1 15 0 = nI U := by rw [rs_row _ _ (by decide)]; exact e
    have ei : ix (nI U * (12 : Int32) + nI i) 72 = some (12 * U + i) := by rw [n12, pk_mul, nI_add, show U * 12 + i = 12 * U + i by omega]; exact ix_n (by omega) (by decide)
    rw [L_X2_addTongue_13, n12, if_neg (nI_ge hi (by decide)), ← n12]
    simp only [Option.bind_some, Option.map_some, Option.join, cI_r, cL_r, cV_r, xI_r, xL_r, xV_r, xI_t, xL_t, xV_t, lt_r, rtZ_0, rtZ_1, rtZ_zb, gf15_1, gf15_0, e0, pa16, ei, nI_1]
    rw [← rs_s I 16 (12 * U) i pw1]
    rfl
  · intro g s es
    subst es
    show L_X2_addTongue_13 E K (rr w 15) (g + 1) (nI 12) _ = _
    rw [L_X2_addTongue_13, n12, if_pos (nI_le (Nat.le_refl 12) (by decide))]
theorem m_tongueL {U : Nat} (hG : 100000 ≤ E.2.2.1) (hU : U < 6) : L_X12_tongue_26 E (rr w 163) (nI U) E.2.2.1 0 (Hw E w I L Q) = rtI (nI U) (Hw E w (rs I 137 (650 + 12 * U) 12 pw1) L Q) := by
  refine lpI (σ := Nat → Nat → Int32) (Lp := fun g i s => L_X12_tongue_26 E (rr w 163) (nI U) g (nI i) (Hw E w s L Q)) (Inv := fun i s => s = rs I 137 (650 + 12 * U) i pw1) (N := 12) ?_ ?_ E.2.2.1 0 I (by omega) (by omega) (rs_0 I 137 _ _).symm
  · intro g i s hi es
    subst es
    refine ⟨rs I 137 (650 + 12 * U) (i + 1) pw1, rfl, ?_⟩
    show L_X12_tongue_26 E (rr w 163) (nI U) (g + 1) (nI i) (Hw E w (rs I 137 (650 + 12 * U) i pw1) L Q) = _
    have ei : ix ((650 : Int32) + (12 : Int32) * nI U + nI i) 2988 = some (650 + 12 * U + i) := by rw [n650, n12, pk_mul, nI_add, nI_add]; exact ix_n (by omega) (by decide)
    rw [L_X12_tongue_26, n12, if_neg (nI_ge hi (by decide)), ← n12]
    simp only [Option.bind_some, Option.map_some, Option.join, cI_r, cL_r, cV_r, xI_r, xL_r, xV_r, xI_t, xL_t, xV_t, lt_r, rtZ_0, rtZ_1, rtZ_zb, gf163_0, pa137, ei, nI_1]
    rw [← rs_s I 137 (650 + 12 * U) i pw1]
    rfl
  · intro g s es
    subst es
    show L_X12_tongue_26 E (rr w 163) (nI U) (g + 1) (nI 12) _ = _
    rw [L_X12_tongue_26, n12, if_pos (nI_le (Nat.le_refl 12) (by decide))]
theorem inv_tongue (q0 : Inv w I L Q) (q1 : WfT (I 137) c) (q2 : LandR I (I 137) c) (q3 : FolkR (fun j => I (15 + j)) (I 137) c) (q4 : BookR (fun j => I (22 + j)) (I 137) c) (q5 : MapR I L (I 137) c) (hU : c 3 < 6) : Inv w (rs (up2 (up2 (up2 (up2 (rs I 16 (12 * c 3) 12 pw1) 15 0 (nI (c 3 + 1))) 163 3 0) 163 4 (-1)) 137 3 (nI (c 3 + 1))) 137 (650 + 12 * c 3) 12 pw1) L Q := by
  generalize e2 : rs (up2 (up2 (up2 (up2 (rs I 16 (12 * c 3) 12 pw1) 15 0 (nI (c 3 + 1))) 163 3 0) 163 4 (-1)) 137 3 (nI (c 3 + 1))) 137 (650 + 12 * c 3) 12 pw1 = I2
  have hrow : ∀ k, k ≠ 15 → k ≠ 16 → k ≠ 137 → k ≠ 163 → I2 k = I k := by
    intro k k1 k2 k3 k4; subst e2; rw [rs_row _ _ k3, up2_row _ _ k3, up2_row _ _ k4, up2_row _ _ k4, up2_row _ _ k1, rs_row _ _ k2]
  have r15 : ∀ i, I2 15 i = if i = 0 then nI (c 3 + 1) else I 15 i := by
    intro i; subst e2; rw [rs_row _ _ (by decide), up2_row _ _ (by decide), up2_row _ _ (by decide), up2_row _ _ (by decide), up2_lit, rs_row _ _ (by decide)]; simp only [true_and]
  have r16 : ∀ i, I2 16 i = if 12 * c 3 ≤ i ∧ i < 12 * c 3 + 12 then pw1 (i - 12 * c 3) else I 16 i := by
    intro i; subst e2; rw [rs_row _ _ (by decide), up2_row _ _ (by decide), up2_row _ _ (by decide), up2_row _ _ (by decide), up2_row _ _ (by decide)]; unfold rs; simp only [true_and]
  have r137 : ∀ i, I2 137 i = if 650 + 12 * c 3 ≤ i ∧ i < 650 + 12 * c 3 + 12 then pw1 (i - (650 + 12 * c 3)) else if i = 3 then nI (c 3 + 1) else I 137 i := by
    intro i; subst e2
    have : ∀ f : Nat → Nat → Int32, rs f 137 (650 + 12 * c 3) 12 pw1 137 i = if 650 + 12 * c 3 ≤ i ∧ i < 650 + 12 * c 3 + 12 then pw1 (i - (650 + 12 * c 3)) else f 137 i := fun f => by unfold rs; simp only [true_and]
    rw [this, up2_lit, up2_row _ _ (by decide), up2_row _ _ (by decide), up2_row _ _ (by decide), rs_row _ _ (by decide)]; simp only [true_and]
  have r163 : ∀ i, I2 163 i = if i = 4 then -1 else if i = 3 then 0 else I 163 i := by
    intro i; subst e2; rw [rs_row _ _ (by decide), up2_row _ _ (by decide), up2_lit, up2_lit, up2_row _ _ (by decide), rs_row _ _ (by decide)]; simp only [true_and]
  clear e2
  refine sec_3 (c2 := fun i => if i = 3 then c 3 + 1 else c i) q0 q1.1 q1 q2 q3 q4 q5 (fun k hk => hrow k (by omega) (by omega) (by omega) (by omega)) (fun i hi => by rw [r163]; (repeat rw [if_neg (by omega)])) (by rw [r163]; rfl) (fun k hk => rfl) (fun i h1 h2 => if_neg h2) (Nat.le_trans (Nat.le_succ _) (Nat.le_of_eq (if_pos rfl).symm)) (by show (if 3 = 3 then c 3 + 1 else c 3) ≤ mx 3; rw [if_pos rfl]; exact hU) (fun i h1 h2 => by rw [r137, if_neg (by omega), if_neg (by omega)]) (by rw [r137, if_neg (by omega), if_pos rfl]; rfl) (fun k h1 h2 h3 => hrow k h3 h2 (by omega) (by omega)) (fun f hf => by rw [r15, if_neg hf]) (by rw [r15, if_pos rfl]; rfl) ?_ ?_ (hrow 32 (by omega) (by omega) (by omega) (by omega)) (hrow 38 (by omega) (by omega) (by omega) (by omega)) (fun k h1 h2 => rfl)
  · intro j hj n hn
    have hj : j < c 3 + 1 := hj
    rw [r137]
    by_cases e : j = c 3
    · subst e
      rw [if_pos (by omega), show 650 + 12 * c 3 + n - (650 + 12 * c 3) = n by omega, (pw1_b n hn).1]
      exact ⟨_, rfl, Nat.zero_le _, (pw1_b n hn).2⟩
    · rw [if_neg (by omega), if_neg (by omega)]; exact q1.2.2.2.2.1 j (by omega) n hn
  · intro j hj n hn
    have hj : j < c 3 + 1 := hj
    rw [r137, r16]
    by_cases e : j = c 3
    · subst e
      rw [if_pos (by omega), if_pos (by omega)]; congr 1; omega
    · rw [if_neg (by omega), if_neg (by omega), if_neg (by omega)]; exact q3.1.2 j (by omega) n hn
theorem op_tongue (hG : 100000 ≤ E.2.2.1) (q : Inv w I L Q) : OpD E w (fun h => F_X11_tongue E (rr w 136) h) (fun h => F_X12_tongue E (rr w 163) h) I L Q := by
  have q0 := q
  obtain ⟨c, q1, q2, q3, q4, q5, -⟩ := q
  have k3 := q1.1 3 (by decide)
  simp only [mx] at k3
  have e3 : I 15 0 = nI (c 3) := q3.1.1.trans k3.1
  by_cases hf : c 3 = 6
  · refine ⟨-1, I, up2 I 163 3 0, L, L, Q, Q, ?_, ?_, Inv_t q0⟩
    · show F_X11_tongue E (rr w 136) (Hw E w I L Q) = _
      unfold F_X11_tongue F_X2_addTongue
      have e3' : I 15 0 = nI 6 := by rw [e3, hf]
      simp only [Option.bind_some, Option.map_some, Option.join, cI_r, cL_r, cV_r, xI_r, xL_r, xV_r, xI_t, xL_t, xV_t, lt_r, rtZ_0, rtZ_1, rtZ_zb, gf136_1, o15, gf15_0, e3', if_neg (show ¬ nI 6 < (6 : Int32) from nI_nlt (Nat.le_refl 6) (by decide))]
    · show F_X12_tongue E (rr w 163) (Hw E w I L Q) = _
      unfold F_X12_tongue
      have k3' : (up2 I 163 3 0) 137 3 = 6 := k3.1.trans (by rw [hf]; rfl)
      simp only [Option.bind_some, Option.map_some, Option.join, cI_r, cL_r, cV_r, xI_r, xL_r, xV_r, xI_t, xL_t, xV_t, lt_r, rtZ_0, rtZ_1, rtZ_zb, pf163_3, gf163_0, ga137, show ix 3 2988 = some 3 from rfl, k3', not_true_eq_false, if_false]
  · have hU : c 3 < 6 := by omega
    refine ⟨nI (c 3), up2 (rs I 16 (12 * c 3) 12 pw1) 15 0 (nI (c 3 + 1)), _, L, L, Q, Q, ?_, ?_, inv_tongue q0 q1 q2 q3 q4 q5 hU⟩
    · show F_X11_tongue E (rr w 136) (Hw E w I L Q) = _
      unfold F_X11_tongue F_X2_addTongue
      have e0 : rs I 16 (12 * c 3) 12 pw1 15 0 = nI (c 3) := by rw [rs_row _ _ (by decide)]; exact e3
      simp only [Option.bind_some, Option.map_some, Option.join, cI_r, cL_r, cV_r, xI_r, xL_r, xV_r, xI_t, xL_t, xV_t, lt_r, rtZ_0, rtZ_1, rtZ_zb, gf136_1, o15, gf15_0, e3, if_pos (show nI (c 3) < (6 : Int32) from nI_lt hU (by decide)), f_addTongueL hG hU e3, e0, pf15_0, nI_1]
    · show F_X12_tongue E (rr w 163) _ = _
      generalize ea : up2 (rs I 16 (12 * c 3) 12 pw1) 15 0 (nI (c 3 + 1)) = J
      have hJ : J 137 = I 137 := by subst ea; rw [up2_row _ _ (by decide), rs_row _ _ (by decide)]
      have k3' : (up2 J 163 3 0) 137 3 = nI (c 3) := by rw [up2_row J 0 (by decide), hJ]; exact k3.1
      have em : F_X12_more E (rr w 163) 3 (Hw E w (up2 J 163 3 0) L Q) = _ := f_more (s := 3) (by decide) k3'
      have nf : ¬ nI (c 3) = 6 := fun e => hf ((nI_eq (by omega) (by decide)).mp e)
      unfold F_X12_tongue
      simp only [Option.bind_some, Option.map_some, Option.join, cI_r, cL_r, cV_r, xI_r, xL_r, xV_r, xI_t, xL_t, xV_t, lt_r, rtZ_0, rtZ_1, rtZ_zb, pf163_3, gf163_0, ga137, show ix 3 2988 = some 3 from rfl, k3', if_pos nf, o163, em, m_tongueL hG hU]
end
