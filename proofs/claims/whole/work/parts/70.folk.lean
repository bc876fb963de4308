/-! kinds that a name means; marks; sets of walkers -/
section
variable {E : Ev} {w : Wo} {I : Nat → Nat → Int32} {L : Nat → Nat → Int64} {Q : Nat → Nat → Option Nat} {c : Nat → Nat} {x y : Int32}
theorem f_kindsOfM {k n : Nat} (q1 : WfT (I 137) c) (hk : k < c 4) (hn : n < 12) : F_X12_kindsOf E (rr w 163) (nI k) (nI n) (Hw E w I L Q) = rtI (knd (I 137) k n) (Hw E w I L Q) := by
  have k4 : c 4 ≤ 8 := (q1.1 4 (by decide)).2
  have k3 : c 3 ≤ 6 := (q1.1 3 (by decide)).2
  obtain ⟨t, et, ht⟩ := (q1.2.2.2.2.2.1 k hk).1
  have tt : tn (I 137 (722 + 5 * k)) = t := by rw [et]; exact nI_clamp (by omega)
  have i0 : ix ((722 : Int32) + (5 : Int32) * nI k) 2988 = some (722 + 5 * k) := by rw [n722, n5, pk_mul, nI_add]; exact ix_n (by omega) (by decide)
  have i1 : ix ((722 : Int32) + (5 : Int32) * nI k + 1) 2988 = some (723 + 5 * k) := by rw [n722, n5, pk_mul, nI_add, nI_1, show 722 + 5 * k + 1 = 723 + 5 * k by omega]; exact ix_n (by omega) (by decide)
  have j0 : ix ((650 : Int32) + (12 : Int32) * nI t + nI n) 2988 = some (650 + 12 * t + n) := by rw [n650, n12, pk_mul, nI_add, nI_add]; exact ix_n (by omega) (by decide)
  unfold F_X12_kindsOf
  simp only [Option.bind_some, Option.map_some, Option.join, cI_r, cL_r, cV_r, xI_r, xL_r, xV_r, xI_t, xL_t, xV_t, lt_r, rtZ_0, rtZ_1, rtZ_zb, gf163_0, ga137, i0, i1, et, j0]
  unfold knd
  rw [tt]
theorem f_kindsOfC {k n : Nat} (q1 : WfT (I 137) c) (q3 : FolkR (fun j => I (15 + j)) (I 137) c) (hk : k < c 4) (hn : n < 12) : F_X2_kindsOf E (rr w 15) (nI k) (nI n) (Hw E w I L Q) = rtI (knd (I 137) k n) (Hw E w I L Q) := by
  have k4 : c 4 ≤ 8 := (q1.1 4 (by decide)).2
  have k3 : c 3 ≤ 6 := (q1.1 3 (by decide)).2
  obtain ⟨t, et, ht⟩ := (q1.2.2.2.2.2.1 k hk).1
  have tt : tn (I 137 (722 + 5 * k)) = t := by rw [et]; exact nI_clamp (by omega)
  have z := q3.2.1.2 k hk
  have z1 : I 17 k = nI t := z.1.trans et
  have z2 : I 18 k = I 137 (723 + 5 * k) := z.2.1
  have z3 : I 16 (12 * t + n) = I 137 (650 + 12 * t + n) := q3.1.2 t ht n hn
  have j0 : ix (nI t * (12 : Int32) + nI n) 72 = some (12 * t + n) := by rw [n12, pk_mul, nI_add, show t * 12 + n = 12 * t + n by omega]; exact ix_n (by omega) (by decide)
  unfold F_X2_kindsOf
  simp only [Option.bind_some, Option.map_some, Option.join, cI_r, cL_r, cV_r, xI_r, xL_r, xV_r, xI_t, xL_t, xV_t, lt_r, rtZ_0, rtZ_1, rtZ_zb, gf15_1, gf15_3, gf15_4, ga17, ga16, ga18, ix_n (show k < 8 by omega) (show 8 < 2 ^ 31 by decide), z1, z2, z3, j0]
  unfold knd
  rw [tt]
/-- a mark that stands in a year, of one of some kinds -/
def isMk (T : Ro) (m : Nat) (ks : Int32) (yr : Int32) : Prop := b32 ks (tn (T (451 + 5 * m))) ∧ T (453 + 5 * m) ≤ yr ∧ yr ≤ T (454 + 5 * m)
theorem f_isMark {m : Nat} {ks yr : Int32} (q1 : WfT (I 137) c) (hm : m < c 2) : F_X12_isMark E (rr w 163) (nI m) ks yr (Hw E w I L Q) = rtI (zb (isMk (I 137) m ks yr)) (Hw E w I L Q) := by
  have k2 : c 2 ≤ 40 := (q1.1 2 (by decide)).2
  obtain ⟨d, ed, hd⟩ := (q1.2.2.2.1 m hm).2.1
  have td : tn (I 137 (451 + 5 * m)) = d := by rw [ed]; exact nI_clamp (by omega)
  have i1 : ix ((450 : Int32) + (5 : Int32) * nI m + 1) 2988 = some (451 + 5 * m) := by rw [n450, n5, pk_mul, nI_add, nI_1, show 450 + 5 * m + 1 = 451 + 5 * m by omega]; exact ix_n (by omega) (by decide)
  have i3 : ix ((450 : Int32) + (5 : Int32) * nI m + 3) 2988 = some (453 + 5 * m) := by rw [n450, n5, n3, pk_mul, nI_add, nI_add, show 450 + 5 * m + 3 = 453 + 5 * m by omega]; exact ix_n (by omega) (by decide)
  have i4 : ix ((450 : Int32) + (5 : Int32) * nI m + 4) 2988 = some (454 + 5 * m) := by rw [n450, n5, n4, pk_mul, nI_add, nI_add, show 450 + 5 * m + 4 = 454 + 5 * m by omega]; exact ix_n (by omega) (by decide)
  unfold F_X12_isMark isMk
  simp only [Option.bind_some, Option.map_some, Option.join, cI_r, cL_r, cV_r, xI_r, xL_r, xV_r, xI_t, xL_t, xV_t, lt_r, rtZ_0, rtZ_1, rtZ_zb, gf163_0, ga137, i1, i3, i4, ed, wi_t, i64_le]
  rw [show tn (nI d) = d from nI_clamp (by omega)]
  by_cases p1 : b32 ks d
  · rw [if_neg (not_not_intro ((bit32 (by omega)).mpr p1))]
    by_cases p2 : I 137 (453 + 5 * m) ≤ yr ∧ yr ≤ I 137 (454 + 5 * m)
    · rw [zi_t p2, zb_t ⟨p1, p2⟩]
    · rw [zi_f p2, zb_f (fun e => p2 e.2)]
  · rw [if_pos (fun e => p1 ((bit32 (by omega)).mp e)), zb_f (fun e => p1 e.1)]
theorem p2_8 : ∀ k, k ≤ 8 → (1 : Int32) <<< (nI k &&& 31) = nI (2 ^ k) ∧ 2 ^ k ≤ 256 ∧ ((nI k &&& 31).toBitVec.smod 32).toNat = k := by decide
theorem f_needWalkers {K : Nat} (hn : I 15 2 = nI K) (hK : K ≤ 8) : F_X11_needWalkers E (rr w 136) x (Hw E w I L Q) = nd (bl x (2 ^ K)) "java/lang/IllegalArgumentException" (Hw E w I L Q) := by
  have e := p2_8 K hK
  unfold F_X11_needWalkers
  by_cases c1 : x < 0
  · rw [if_pos c1, nd_f (fun z => ((bl_iff (by omega)).mp z).1 c1)]
  · rw [if_neg c1]
    obtain ⟨j, hj, rfl⟩ := nI_of c1
    simp only [Option.bind_some, Option.map_some, Option.join, cI_r, cL_r, cV_r, xI_r, xL_r, xV_r, xI_t, xL_t, xV_t, lt_r, rtZ_0, rtZ_1, rtZ_zb, gf136_1, gf15_2, hn, pk_shrN hj _ K e.2.2]
    have hd : j / 2 ^ K ≤ j := Nat.div_le_self _ _
    by_cases p : j < 2 ^ K
    · rw [Nat.div_eq_of_lt p, if_pos nI_0, nd_t ⟨j, rfl, p⟩]
    · have : 0 < j / 2 ^ K := Nat.div_pos (by omega) (Nat.two_pow_pos K)
      rw [if_neg (nI_ne0 this (by omega)), nd_f]
      rintro ⟨j', e', hj'⟩
      have := (nI_eq hj (by omega)).mp e'
      omega
theorem wkr_ref {K : Nat} (hK : K ≤ 8) (h0 : ¬ x < 0) : (1 : Int32) <<< (nI K &&& 31) ≤ x ↔ ¬ bl x (2 ^ K) := by
  have e := p2_8 K hK
  rw [e.1]
  obtain ⟨j, hj, rfl⟩ := nI_of h0
  rw [nI_leI (by omega) hj]
  constructor
  · rintro h ⟨j', e', hj'⟩
    have := (nI_eq hj (by omega)).mp e'
    omega
  · intro h
    rcases Nat.lt_or_ge j (2 ^ K) with p | p
    · exact absurd ⟨j, rfl, p⟩ h
    · exact p
end
