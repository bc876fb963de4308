/-! the last places of a saying -/
def lsP (T : Ro) (c : Nat → Nat) (y k z s0 m p : Nat) : Prop := ∃ s, s < 4 * c 1 ∧ endS T c y k z s0 m s ∧ spl T s = nI p
/-- one gets there: to the goal and nowhere else -/
def rgt (T : Ro) (c : Nat → Nat) (y k z s0 m g : Nat) : Prop := ∀ p, p < 64 → (lsP T c y k z s0 m p ↔ p = g)
theorem cnt_one {P : Nat → Prop} {n g : Nat} (hg : g < n) : (cntP P n = 1 ∧ P g) ↔ ∀ p, p < n → (P p ↔ p = g) := by
  constructor
  · rintro ⟨h1, h2⟩ p hp
    refine ⟨fun h => ?_, fun e => e ▸ h2⟩
    have a := cnt_lt h hp
    have b := cnt_lt h2 hg
    exact cnt_inj h h2 (by omega)
  · intro h
    have hg' : P g := (h g hg).mpr rfl
    refine ⟨?_, hg'⟩
    rw [cnt_but (n := n) hg', if_pos hg, cnt_0.mpr (fun j hj z => z.1 ((h j hj).mp z.2))]
section
variable {E : Ev} {w : Wo} {I I1 I2 : Nat → Nat → Int32} {L L1 L2 : Nat → Nat → Int64} {Q Q1 Q2 : Nat → Nat → Option Nat} {c : Nat → Nat} {T : Ro} {y : Nat}
theorem f_nthOf {x : Int64} {v : Int32} {h : Hp} (hG : 100000 ≤ E.2.2.1) : F_X11_nthOf E x v h = rtI (fstP (fun p => b64 x p ∧ nI (cntP (b64 x) p) = v) 64) h := by
  have le : cntP (b64 x) 64 ≤ 64 := cntP_le 64
  unfold F_X11_nthOf
  rw [f_bitCount, cI_r]
  by_cases c0 : v < 0
  · rw [if_pos c0, fstP_no (fun j hj z => ?_)]
    rw [← z.2] at c0
    exact nI_pos (by have := cntP_le (P := b64 x) j; omega) c0
  · rw [if_neg c0]
    obtain ⟨r, hr, rfl⟩ := nI_of c0
    by_cases c1 : r < cntP (b64 x) 64
    · rw [if_pos (nI_lt c1 (by omega))]
      refine lpE (σ := Int64) (Lp := fun g i s => L_X11_nthOf_22 E (nI r) g s (nI i) h) (Iv := fun i s => rem x i s) (Post := fun o => o = rtI (fstP (fun p => b64 x p ∧ nI (cntP (b64 x) p) = nI r) 64) h) (N := r) ?_ ?_ E.2.2.1 0 x (by omega) (by omega) (rem_0 x)
      · intro g i s hi hs
        obtain ⟨k, a1, a2, a3, a4, a5, a6, a7⟩ := rem_k hs (by omega)
        left
        refine ⟨s &&& (s - 1), a6, ?_⟩
        show L_X11_nthOf_22 E (nI r) (g + 1) s (nI i) h = _
        rw [L_X11_nthOf_22]
        simp (disch := omega) only [Option.bind_some, Option.map_some, Option.join, cI_r, cL_r, cV_r, xI_r, xL_r, xV_r, xI_t, xL_t, xV_t, lt_r, rtZ_0, rtZ_1, rtZ_zb, m2, m3, m4, m5, m6, m7, m8, m9, m10, m11, m12, m13, m14, m15, m16, m17, m18, m19, m20, m21, m22, m23, m24, m25, m26, m27, m28, m29, m30, m31, m32, m40, m41, m60, m63, m64, m90, m99, m100, m120, m127, m164, m173, m200, m240, m255, m450, m480, m650, m722, m762, m960, m1000000, m2838, m2988, m4095, pk_mul, nI_add, nI_1, nI_leI, nI_ltI, nI_eq, ix_n, if_neg]
      · intro g s hs
        obtain ⟨k, a1, a2, a3, a4, a5, a6, a7⟩ := rem_k hs c1
        show L_X11_nthOf_22 E (nI r) (g + 1) s (nI r) h = _
        rw [L_X11_nthOf_22, if_pos (nI_le (Nat.le_refl r) (by omega)), f_lowest a4 a5, cI_r]
        rw [fstP_at (s := k) a1 ⟨a2, by rw [a3]⟩ (fun j hj z => ?_)]
        have : cntP (b64 x) j = r := (nI_eq (by have := cntP_le (P := b64 x) j; omega) (by omega)).mp z.2
        have := cnt_inj z.1 a2 (by omega)
        omega
    · rw [if_neg (nI_nlt (by omega) (by omega)), fstP_no (fun j hj z => ?_)]
      have := (nI_eq (by have := cntP_le (P := b64 x) j; omega) (by omega)).mp z.2
      have := cnt_lt z.1 hj
      omega
theorem spl_w {s : Nat} (q1 : WfT T c) (hs : s < 4 * c 1) : ∃ p, spl T s = nI p ∧ p < c 0 := by
  have := ast_b q1.2.2.1 (show s / 2 / 2 < c 1 by omega)
  unfold spl
  split
  · exact this.2
  · exact this.1
theorem lsP_lt {k z s0 m p : Nat} (q1 : WfT T c) (hp : p < 2 ^ 31) (h : lsP T c y k z s0 m p) : p < c 0 := by
  have k0 : c 0 ≤ 40 := (q1.1 0 (by decide)).2
  obtain ⟨s, h1, _, h2⟩ := h
  obtain ⟨p', e, hp'⟩ := spl_w q1 h1
  have : p = p' := (nI_eq hp (by omega)).mp (by rw [← h2, e])
  omega
theorem rgt_40 {k z s0 m g : Nat} (q1 : WfT T c) (hg : g < 40) : rgt T c y k z s0 m g ↔ ∀ p, p < 40 → (lsP T c y k z s0 m p ↔ p = g) := by
  have k0 : c 0 ≤ 40 := (q1.1 0 (by decide)).2
  refine ⟨fun h p hp => h p (by omega), fun h p hp => ?_⟩
  by_cases e : p < 40
  · exact h p e
  · exact ⟨fun g => by have := lsP_lt q1 (by omega) g; omega, fun g => by omega⟩
theorem c_last {z k t s0 : Nat} (hG : 100000 ≤ E.2.2.1) (h : CW I L Q T c) (hw : WC I L Q T c y k) (hg : Gnd I L T c y k) (hz : z < c 5) (ht : T (764 + 173 * z) = nI t) (t10 : t ≤ 10) (hs : s0 < 4 * c 1) : ∃ I' L' Q' v a, CF I I' L L' Q Q' ∧ CW I' L' Q' T c ∧ WC I' L' Q' T c y k ∧ (∀ k', Gnd I L T c y k' → Gnd I' L' T c y k') ∧ (∀ p, p < 64 → (b64 v p ↔ lsP T c y k z s0 t p)) ∧ Q' 40 7 = some a ∧ (∃ r, F_X9_follow E (rr w 40) (nI z) (nI s0) (nI t) (Hw E w I L Q) = rtI (nI r) (Hw E w I' L' Q')) ∧ F_X10_placesOf E (rr w 32) (rr w a) (Hw E w I' L' Q') = rtL v (Hw E w I' L' Q') := by
  have k1 : c 1 ≤ 60 := (h.2.1.1 1 (by decide)).2
  obtain ⟨I2, L2, Q2, a, r, b1, b2, b3, b4, b5, b6, b7, b8, b9⟩ := c_fol (E := E) (w := w) (z := z) (m := t) (t := t) (s0 := s0) hG h hw hg hz ht t10 (Nat.le_refl t) hs
  have so : SO w a := by
    rcases b6 with rfl | rfl
    · exact so43
    · exact so45
  obtain ⟨v, v1, v2⟩ := c_placesOf (E := E) (w := w) (I := I2) (L := L2) (Q := Q2) (T := T) (c := c) hG h.2.1 b2.2.2.1 so (fun q hq g => endS_lt hs ((b8 q hq).mp g))
  refine ⟨I2, L2, Q2, v, a, b1, b2, b3, b4, fun p hp => (v1 p hp).trans (exists_congr fun s => and_congr_right fun hs' => and_congr_left fun _ => b8 s (by omega)), b5, ⟨r, b9⟩, v2⟩
theorem c_lastPlaces {z k t s0 : Nat} (hG : 100000 ≤ E.2.2.1) (h : CW I L Q T c) (hw : WC I L Q T c y k) (hg : Gnd I L T c y k) (hz : z < c 5) (ht : T (764 + 173 * z) = nI t) (t10 : t ≤ 10) (hs : s0 < 4 * c 1) : ∃ I' L' Q' v, CF I I' L L' Q Q' ∧ CW I' L' Q' T c ∧ WC I' L' Q' T c y k ∧ (∀ k', Gnd I L T c y k' → Gnd I' L' T c y k') ∧ (∀ p, p < 64 → (b64 v p ↔ lsP T c y k z s0 t p)) ∧ F_X9_lastPlaces E (rr w 40) (nI z) (nI s0) (Hw E w I L Q) = rtL v (Hw E w I' L' Q') := by
  have k5 : c 5 ≤ 12 := (h.2.1.1 5 (by decide)).2
  obtain ⟨I2, L2, Q2, v, a, b1, b2, b3, b4, b5, b6, ⟨r, b7⟩, b8⟩ := c_last (E := E) (w := w) (z := z) (t := t) (s0 := s0) hG h hw hg hz ht t10 hs
  have e25 : I 25 z = nI t := (h.2.2.2.2.1.1.2 z hz).2.2.1.trans ht
  refine ⟨I2, L2, Q2, v, b1, b2, b3, b4, b5, ?_⟩
  unfold F_X9_lastPlaces
  simp (disch := omega) only [Option.bind_some, Option.map_some, Option.join, cI_r, cL_r, cV_r, xI_r, xL_r, xV_r, xI_t, xL_t, xV_t, lt_r, rtZ_0, rtZ_1, rtZ_zb, gf40_2, gf22_3, ga25, ix_n, e25, o40, b7, gf40_0, gf40_7, b6, o32, b8]
theorem c_getsThere {z k t s0 g : Nat} (hG : 100000 ≤ E.2.2.1) (h : CW I L Q T c) (hw : WC I L Q T c y k) (hg : Gnd I L T c y k) (hz : z < c 5) (ht : T (764 + 173 * z) = nI t) (t10 : t ≤ 10) (eg : T (762 + 173 * z) = nI g) (g40 : g < 40) (hs : s0 < 4 * c 1) : ∃ I' L' Q', CF I I' L L' Q Q' ∧ CW I' L' Q' T c ∧ WC I' L' Q' T c y k ∧ (∀ k', Gnd I L T c y k' → Gnd I' L' T c y k') ∧ F_X9_getsThere E (rr w 40) (nI z) (nI s0) (Hw E w I L Q) = rtI (zb (rgt T c y k z s0 t g)) (Hw E w I' L' Q') := by
  have k5 : c 5 ≤ 12 := (h.2.1.1 5 (by decide)).2
  obtain ⟨I2, L2, Q2, v, a, b1, b2, b3, b4, b5, b6, ⟨r, b7⟩, b8⟩ := c_last (E := E) (w := w) (z := z) (t := t) (s0 := s0) hG h hw hg hz ht t10 hs
  have e25 : I 25 z = nI t := (h.2.2.2.2.1.1.2 z hz).2.2.1.trans ht
  have e23 : I2 23 z = nI g := (b2.2.2.2.2.1.1.2 z hz).1.trans eg
  refine ⟨I2, L2, Q2, b1, b2, b3, b4, ?_⟩
  have key : v = (1 : Int64) <<< ((nI g).toInt64 &&& 63) ↔ rgt T c y k z s0 t g := by
    constructor
    · intro e p hp
      rw [← b5 p hp, e, b64_one (by omega)]
    · intro e
      exact b64_ext fun p hp => by rw [b5 p hp, e p hp, b64_one (by omega)]
  unfold F_X9_getsThere
  simp (disch := omega) only [Option.bind_some, Option.map_some, Option.join, cI_r, cL_r, cV_r, xI_r, xL_r, xV_r, xI_t, xL_t, xV_t, lt_r, rtZ_0, rtZ_1, rtZ_zb, gf40_2, gf22_3, ga25, ix_n, e25, o40, b7, gf40_0, gf40_7, b6, o32, b8, gf22_1, ga23, e23]
  by_cases p : rgt T c y k z s0 t g
  · rw [if_neg (not_not_intro (key.mpr p)), zb_t p]
  · rw [if_pos (fun e => p (key.mp e)), zb_f p]
end
