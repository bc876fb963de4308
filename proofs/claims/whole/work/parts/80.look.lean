/-! the class' look: ways out of a state, by sides, and ON -/
section
variable {T : Ro} {c : Nat → Nat} {S : Nat → Prop} {s : Nat}
def rle (T : Ro) (s o b : Nat) : Prop := dts T s o * szs T b ≤ dts T s b * szs T o
theorem rle_rf (a : Nat) : rle T s a a := Int.le_refl _
theorem rle_tr {o m a : Nat} (ho : 0 < szs T o) (hm : 0 < szs T m) (ha : 0 < szs T a) (h1 : rle T s o m) (h2 : rle T s m a) : rle T s o a := by
  unfold rle at *
  have e1 := Int.mul_le_mul_of_nonneg_right h1 (Int.le_of_lt ha)
  have e2 := Int.mul_le_mul_of_nonneg_right h2 (Int.le_of_lt ho)
  refine Int.le_of_mul_le_mul_right (a := szs T m) ?_ hm
  have c1 : dts T s o * szs T m * szs T a = dts T s o * szs T a * szs T m := Int.mul_right_comm _ _ _
  have c2 : dts T s m * szs T o * szs T a = dts T s m * szs T a * szs T o := Int.mul_right_comm _ _ _
  have c3 : dts T s a * szs T m * szs T o = dts T s a * szs T o * szs T m := Int.mul_right_comm _ _ _
  rw [c1, c2] at e1
  rw [c3] at e2
  exact Int.le_trans e1 e2
theorem sq0 {a : Int} (h : a ≠ 0) : 0 < a * a := by
  rcases Int.lt_or_gt_of_ne h with h | h
  · exact Int.mul_pos_of_neg_of_neg h h
  · exact Int.mul_pos h h
theorem sqn (a : Int) : 0 ≤ a * a := by
  by_cases h : a = 0
  · rw [h]; decide
  · exact Int.le_of_lt (sq0 h)
theorem szs_pos {a : Nat} (q1 : WfT T c) (ha : a < 2 * c 1) : 0 < szs T a := by
  have k0 : c 0 ≤ 40 := (q1.1 0 (by decide)).2
  have wv := q1.2.2.1 (a / 2) (by omega)
  have b := ast_b q1.2.2.1 (show a / 2 < c 1 by omega)
  have b1 := bl_tn (by omega) b.1
  have b2 := bl_tn (by omega) b.2
  have ne : tn (ast T a) ≠ tn (aen T a) := fun e => by
    have : ast T a = aen T a := by rw [b1.2, b2.2, e]
    unfold ast aen at this
    split at this
    · exact wv.2.2.1 this
    · exact wv.2.2.1 this.symm
  obtain ⟨⟨x1, e1, -, h1⟩, ⟨y1, f1, -, g1⟩⟩ := q1.2.1.1 _ b1.1
  obtain ⟨⟨x2, e2, -, h2⟩, ⟨y2, f2, -, g2⟩⟩ := q1.2.1.1 _ b2.1
  have d : x1 ≠ x2 ∨ y1 ≠ y2 := by
    apply Classical.byContradiction
    intro z
    have z1 : x1 = x2 := by omega
    have z2 : y1 = y2 := by omega
    exact ne (q1.2.1.2 _ _ b1.1 b2.1 (by rw [e1, e2, z1]) (by rw [f1, f2, z2]))
  unfold szs aX aY
  rw [e1, e2, f1, f2, pk_sub_toInt (by omega) (by omega), pk_sub_toInt (by omega) (by omega)]
  rcases d with d | d
  · have := sq0 (a := (x2 : Int) - x1) (by omega)
    have := sqn ((y2 : Int) - y1)
    omega
  · have := sq0 (a := (y2 : Int) - y1) (by omega)
    have := sqn ((x2 : Int) - x1)
    omega
def onD (T : Ro) (s : Nat) (D : Nat → Prop) (a : Nat) : Prop := D a ∧ ∀ o, D o → rle T s o a
def LkI (T : Ro) (s : Nat) (D : Nat → Prop) (mo mb : Int64) (G : Nat → Int64) : Prop := (∀ hf, hf < 2 → ∀ j, j < 64 → (∀ sd, sd < 3 → (b64 (G (8 * s + 2 * sd + hf)) j ↔ D (64 * hf + j) ∧ sid T s (64 * hf + j) = sd)) ∧ (b64 (G (8 * s + 6 + hf)) j ↔ onD T s D (64 * hf + j))) ∧ ((mb = 0 ∧ mo = 0 ∧ ∀ a, ¬ D a) ∨ ∃ m, onD T s D m ∧ mo.toInt = dts T s m ∧ mb.toInt = szs T m)
/-- the change of rows for one more arrow -/
def lkL (L : Nat → Nat → Int64) (s sd a : Nat) (rst kp : Prop) [Decidable rst] [Decidable kp] : Nat → Nat → Int64 :=
  if kp then orb (if rst then up2 (up2 (orb L 39 (8 * s + 2 * sd + a / 64) (a % 64)) 39 (8 * s + 6) 0) 39 (8 * s + 6 + 1) 0 else orb L 39 (8 * s + 2 * sd + a / 64) (a % 64)) 39 (8 * s + 6 + a / 64) (a % 64) else (if rst then up2 (up2 (orb L 39 (8 * s + 2 * sd + a / 64) (a % 64)) 39 (8 * s + 6) 0) 39 (8 * s + 6 + 1) 0 else orb L 39 (8 * s + 2 * sd + a / 64) (a % 64))
theorem sid_3 (a : Nat) : sid T s a < 3 := by unfold sid; split <;> (try split) <;> omega
theorem lk_step {L : Nat → Nat → Int64} {D : Nat → Prop} {mo mb mo' mb' : Int64} {a : Nat} {rst kp : Prop} [Decidable rst] [Decidable kp] (q1 : WfT T c) (hD : ∀ o, D o → o < 2 * c 1) (ha : a < 2 * c 1) (hn : ¬ D a) (h : LkI T s D mo mb (L 39)) (hm : mo'.toInt = dts T s a ∧ mb'.toInt = szs T a) (hr : rst ↔ mb = 0 ∨ dts T s a * mb.toInt > mo.toInt * szs T a) (hk : kp ↔ mb = 0 ∨ dts T s a * mb.toInt ≥ mo.toInt * szs T a) : LkI T s (fun o => D o ∨ o = a) (if rst then mo' else mo) (if rst then mb' else mb) (lkL L s (sid T s a) a rst kp 39) ∧ ∀ k, k ≠ 39 → lkL L s (sid T s a) a rst kp k = L k := by
  have k1 : c 1 ≤ 60 := (q1.1 1 (by decide)).2
  have pa := szs_pos q1 ha
  have hsd := sid_3 (T := T) (s := s) a
  obtain ⟨h1, h2⟩ := h
  -- the set of the least turned
  have hon : ∀ b, onD T s (fun o => D o ∨ o = a) b ↔ (kp ∧ b = a) ∨ (¬ rst ∧ onD T s D b) := by
    intro b
    rcases h2 with ⟨e1, e2, e3⟩ | ⟨m, e1, e2, e3⟩
    · have r1 : rst := hr.mpr (Or.inl e1)
      have r2 : kp := hk.mpr (Or.inl e1)
      constructor
      · rintro ⟨z1 | z1, z2⟩
        · exact absurd z1 (e3 b)
        · exact Or.inl ⟨r2, z1⟩
      · rintro (⟨_, z⟩ | ⟨z, _⟩)
        · subst z; exact ⟨Or.inr rfl, fun o ho => ho.elim (fun z => absurd z (e3 o)) (fun z => by rw [z]; exact rle_rf _)⟩
        · exact absurd r1 z
    · have pm := szs_pos q1 (hD m e1.1)
      have mb0 : ¬ mb = 0 := fun z => by rw [z] at e3; have : (0 : Int64).toInt = 0 := rfl; omega
      have hr' : rst ↔ ¬ rle T s a m := by
        rw [hr, e2, e3]; unfold rle
        exact ⟨fun z => z.elim (fun z => absurd z mb0) (fun z => by omega), fun z => Or.inr (by omega)⟩
      have hk' : kp ↔ rle T s m a := by
        rw [hk, e2, e3]; unfold rle
        exact ⟨fun z => z.elim (fun z => absurd z mb0) (fun z => by omega), fun z => Or.inr (by omega)⟩
      have tot : rle T s a m ∨ rle T s m a := by unfold rle; omega
      constructor
      · rintro ⟨z1 | z1, z2⟩
        · have pb := szs_pos q1 (hD b z1)
          refine Or.inr ⟨fun r => hr'.mp r (rle_tr pa pb pm (z2 a (Or.inr rfl)) (e1.2 b z1)), z1, fun o ho => z2 o (Or.inl ho)⟩
        · subst z1; exact Or.inl ⟨hk'.mpr (z2 m (Or.inl e1.1)), rfl⟩
      · rintro (⟨z1, z2⟩ | ⟨z1, z2⟩)
        · subst z2
          refine ⟨Or.inr rfl, fun o ho => ho.elim (fun z => ?_) (fun z => by rw [z]; exact rle_rf _)⟩
          exact rle_tr (szs_pos q1 (hD o z)) pm pa (e1.2 o z) (hk'.mp z1)
        · have am : rle T s a m := Classical.not_not.mp (fun z => z1 (hr'.mpr z))
          refine ⟨Or.inl z2.1, fun o ho => ho.elim (fun z => z2.2 o z) (fun z => ?_)⟩
          rw [z]; exact rle_tr pa pm (szs_pos q1 (hD b z2.1)) am (z2.2 m e1.1)
  refine ⟨⟨fun hf hh j hj => ⟨fun sd h3 => ?_, ?_⟩, ?_⟩, ?_⟩
  · have e : b64 (lkL L s (sid T s a) a rst kp 39 (8 * s + 2 * sd + hf)) j ↔ b64 (L 39 (8 * s + 2 * sd + hf)) j ∨ (8 * s + 2 * sd + hf = 8 * s + 2 * sid T s a + a / 64 ∧ j = a % 64) := by
      unfold lkL
      have e2 : b64 ((if rst then up2 (up2 (orb L 39 (8 * s + 2 * sid T s a + a / 64) (a % 64)) 39 (8 * s + 6) 0) 39 (8 * s + 6 + 1) 0 else orb L 39 (8 * s + 2 * sid T s a + a / 64) (a % 64)) 39 (8 * s + 2 * sd + hf)) j ↔ b64 (orb L 39 (8 * s + 2 * sid T s a + a / 64) (a % 64) 39 (8 * s + 2 * sd + hf)) j := by
        split
        · rw [up2_i _ _ _ (by omega), up2_i _ _ _ (by omega)]
        · exact Iff.rfl
      rw [← orb_b (by omega), ← e2]
      by_cases p : kp
      · rw [if_pos p, orb_b (by omega)]
        exact ⟨fun z => z.elim id (fun z => absurd z.1 (by omega)), Or.inl⟩
      · rw [if_neg p]
    rw [e, ((h1 hf hh j hj).1 sd h3)]
    constructor
    · rintro (⟨z1, z2⟩ | ⟨z1, z2⟩)
      · exact ⟨Or.inl z1, z2⟩
      · have e3 : 64 * hf + j = a := by omega
        have e4 : sd = sid T s a := by omega
        exact ⟨Or.inr e3, by rw [e3, e4]⟩
    · rintro ⟨z1 | z1, z2⟩
      · exact Or.inl ⟨z1, z2⟩
      · exact Or.inr (by rw [z1] at z2; omega)
  · have e : b64 (lkL L s (sid T s a) a rst kp 39 (8 * s + 6 + hf)) j ↔ (¬ rst ∧ b64 (L 39 (8 * s + 6 + hf)) j) ∨ (kp ∧ hf = a / 64 ∧ j = a % 64) := by
      unfold lkL
      have e2 : b64 ((if rst then up2 (up2 (orb L 39 (8 * s + 2 * sid T s a + a / 64) (a % 64)) 39 (8 * s + 6) 0) 39 (8 * s + 6 + 1) 0 else orb L 39 (8 * s + 2 * sid T s a + a / 64) (a % 64)) 39 (8 * s + 6 + hf)) j ↔ ¬ rst ∧ b64 (L 39 (8 * s + 6 + hf)) j := by
        by_cases p : rst
        · rw [if_pos p]
          have : up2 (up2 (orb L 39 (8 * s + 2 * sid T s a + a / 64) (a % 64)) 39 (8 * s + 6) 0) 39 (8 * s + 6 + 1) 0 39 (8 * s + 6 + hf) = 0 := by
            rcases (show hf = 0 ∨ hf = 1 by omega) with rfl | rfl
            · rw [up2_i _ _ _ (by omega), Nat.add_zero, up2_s]
            · rw [up2_s]
          rw [this]
          exact ⟨fun z => absurd z b64_0, fun z => absurd p z.1⟩
        · rw [if_neg p, orb_b (by omega)]
          exact ⟨fun z => z.elim (fun z => ⟨p, z⟩) (fun z => absurd z.1 (by omega)), fun z => Or.inl z.2⟩
      by_cases p : kp
      · rw [if_pos p, orb_b (by omega), e2]
        exact or_congr_right ⟨fun z => ⟨p, by omega, z.2⟩, fun z => ⟨by omega, z.2.2⟩⟩
      · rw [if_neg p, e2]
        exact ⟨Or.inl, fun z => z.elim id (fun z => absurd z.1 p)⟩
    rw [e, (h1 hf hh j hj).2, hon, or_comm]
    exact or_congr_left ⟨fun z => ⟨z.1, by omega⟩, fun z => ⟨z.1, by omega, by omega⟩⟩
  · right
    by_cases p : rst
    · have hk2 : kp := hk.mpr (by
        rcases hr.mp p with z | z
        · exact Or.inl z
        · exact Or.inr (by omega))
      exact ⟨a, (hon a).mpr (Or.inl ⟨hk2, rfl⟩), by rw [if_pos p]; exact hm.1, by rw [if_pos p]; exact hm.2⟩
    · rcases h2 with ⟨e1, e2, e3⟩ | ⟨m, e1, e2, e3⟩
      · exact absurd (hr.mpr (Or.inl e1)) p
      · exact ⟨m, (hon m).mpr (Or.inr ⟨p, e1⟩), by rw [if_neg p]; exact e2, by rw [if_neg p]; exact e3⟩
  · intro k hk
    unfold lkL
    have e1 : (if rst then up2 (up2 (orb L 39 (8 * s + 2 * sid T s a + a / 64) (a % 64)) 39 (8 * s + 6) 0) 39 (8 * s + 6 + 1) 0 else orb L 39 (8 * s + 2 * sid T s a + a / 64) (a % 64)) k = L k := by
      split
      · rw [up2_row _ _ hk, up2_row _ _ hk, orb_row hk]
      · exact orb_row hk
    split
    · rw [orb_row hk]; exact e1
    · exact e1
end
section
variable {E : Ev} {w : Wo} {I : Nat → Nat → Int32} {L : Nat → Nat → Int64} {Q : Nat → Nat → Option Nat} {c : Nat → Nat} {T : Ro} {x : Int32}
theorem dxy {a : Nat} (q2 : LandR I T c) (ha : a < 2 * c 1) : I 8 a = aX T a ∧ I 9 a = aY T a := by
  obtain ⟨-, -, -, -, -, -, -, -, d1, d2, d3, d4⟩ := q2.2.1.2 (a / 2) (by omega)
  unfold aX aY ast aen
  by_cases p : a % 2 = 0
  · rw [if_pos p, if_pos p]
    rw [show 2 * (a / 2) = a by omega] at d1 d3
    exact ⟨d1, d3⟩
  · rw [if_neg p, if_neg p]
    rw [show 2 * (a / 2) + 1 = a by omega] at d2 d4
    exact ⟨d2, d4⟩
theorem sqd {T : Ro} {s a : Nat} (q1 : WfT T c) (hs : s < 4 * c 1) (ha : a < 2 * c 1) : ((dtI T s a).toInt64 * (if 0 < (dtI T s a).toInt64 then (dtI T s a).toInt64 else -(dtI T s a).toInt64)).toInt = dts T s a := by
  have h := dtI_v q1 hs ha
  have e : (dtI T s a).toInt64.toInt = dt T s a := by rw [Int32.toInt_toInt64, h.1]
  have hb : (dtI T s a).toInt64.toInt.natAbs ≤ 19602 := by rw [e]; exact h.2
  have z0 : (0 : Int64).toInt = 0 := rfl
  unfold dts
  by_cases p : 0 < dt T s a
  · rw [if_pos (show (0 : Int64) < (dtI T s a).toInt64 by rw [Int64.lt_iff_toInt_lt, e, z0]; exact p), if_neg (show ¬ dt T s a < 0 by omega), i64mul hb hb (by decide), e]
  · rw [if_neg (show ¬ (0 : Int64) < (dtI T s a).toInt64 from fun z => by rw [Int64.lt_iff_toInt_lt, e, z0] at z; exact p z)]
    have e2 : (-(dtI T s a).toInt64).toInt = - dt T s a := by rw [i64neg hb (by decide), e]
    rw [i64mul (m := 19602) (n := 19602) hb (by rw [e2]; omega) (by decide), e2, e]
    by_cases p2 : dt T s a < 0
    · rw [if_pos p2, Int.mul_neg]
    · rw [if_neg p2, show dt T s a = 0 by omega]; rfl
theorem c_look221 {s a sd : Nat} {D : Nat → Prop} {y4 y14 : Int32} {mo mb u1 : Int64} {K : Int64 → Int64 → Int64 → Int32 → Hp → Rs} (q1 : WfT T c) (hs : s < 4 * c 1) (hD : ∀ o, D o → o < 2 * c 1) (ha : a < 2 * c 1) (hn : ¬ D a) (h : LkI T s D mo mb (L 39)) (hsd : sid T s a = sd) : ∃ mo' mb' L', LkI T s (fun o => D o ∨ o = a) mo' mb' (L' 39) ∧ (∀ k, k ≠ 39 → L' k = L k) ∧ (∀ i, i < 8 * s ∨ 8 * s + 8 ≤ i → L' 39 i = L 39 i) ∧ J_X10_look_221 E K (rr w 32) (nI (8 * s)) y4 (aX T (s / 2)) (aY T (s / 2)) mo mb (nI (a / 64)) u1 y14 (bs (a % 64)) (aX T a) (aY T a) (nI sd) (Hw E w I L Q) = K mo' mb' u1 (y14 + -1) (Hw E w I L' Q) := by
  have k1 : c 1 ≤ 60 := (q1.1 1 (by decide)).2
  have hsd3 := sid_3 (T := T) (s := s) a
  rw [hsd] at hsd3
  have d1 := dtI_v q1 hs ha
  have d2 := szI_v q1 ha
  have d3 := sqd q1 hs ha
  have d4 := dsL_v q1 hs ha
  generalize eu2 : (dtI T s a).toInt64 * (if 0 < (dtI T s a).toInt64 then (dtI T s a).toInt64 else -(dtI T s a).toInt64) = u2 at d3
  generalize eu3 : (szI T a).toInt64 = u3
  have e3 : u3.toInt = szs T a := by rw [← eu3, Int32.toInt_toInt64, d2.1]
  have bmo : mo.toInt.natAbs ≤ 384238404 ∧ mb.toInt.natAbs ≤ 19602 := by
    rcases h.2 with ⟨e1, e2, -⟩ | ⟨m, e1, e2, e4⟩
    · rw [e1, e2]; decide
    · rw [e2, e4]; exact ⟨(dsL_v q1 hs (hD m e1.1)).2, (szI_v q1 (hD m e1.1)).2⟩
  have mm1 : (u2 * mb).toInt = dts T s a * mb.toInt := by rw [i64mul (m := 384238404) (n := 19602) (by rw [d3]; exact d4.2) bmo.2 (by decide), d3]
  have mm2 : (mo * u3).toInt = mo.toInt * szs T a := by rw [i64mul (m := 384238404) (n := 19602) bmo.1 (by rw [e3]; exact d2.2) (by decide), e3]
  have mm3 : (u2 * mb - mo * u3).toInt = dts T s a * mb.toInt - mo.toInt * szs T a := by
    rw [i64sub (m := 384238404 * 19602) (n := 384238404 * 19602) (by rw [mm1]; exact mulB d4.2 bmo.2) (by rw [mm2]; exact mulB bmo.1 d2.2) (by decide), mm1, mm2]
  have z0 : (0 : Int64).toInt = 0 := rfl
  have t1 : (u2 * mb - mo * u3 ≤ 0) ↔ ¬ dts T s a * mb.toInt > mo.toInt * szs T a := by rw [Int64.le_iff_toInt_le, mm3, z0]; omega
  have t2 : (u2 * mb - mo * u3 < 0) ↔ ¬ dts T s a * mb.toInt ≥ mo.toInt * szs T a := by rw [Int64.lt_iff_toInt_lt, mm3, z0]; omega
  have lk := lk_step (L := L) (mo' := u2) (mb' := u3) (rst := mb = 0 ∨ dts T s a * mb.toInt > mo.toInt * szs T a) (kp := mb = 0 ∨ dts T s a * mb.toInt ≥ mo.toInt * szs T a) q1 hD ha hn h ⟨d3, e3⟩ Iff.rfl Iff.rfl
  rw [hsd] at lk
  refine ⟨_, _, _, lk.1, lk.2, ?_, ?_⟩
  · intro i hi
    unfold lkL
    have o1 : ∀ L1 : Nat → Nat → Int64, ∀ p v, 8 * s ≤ p → p < 8 * s + 8 → orb L1 39 p v 39 i = L1 39 i := fun L1 p v h1 h2 => up2_i _ _ _ (by omega)
    have e1 : (if mb = 0 ∨ dts T s a * mb.toInt > mo.toInt * szs T a then up2 (up2 (orb L 39 (8 * s + 2 * sd + a / 64) (a % 64)) 39 (8 * s + 6) 0) 39 (8 * s + 6 + 1) 0 else orb L 39 (8 * s + 2 * sd + a / 64) (a % 64)) 39 i = L 39 i := by
      split
      · rw [up2_i _ _ _ (by omega), up2_i _ _ _ (by omega), o1 _ _ _ (by omega) (by omega)]
      · exact o1 _ _ _ (by omega) (by omega)
    split
    · rw [o1 _ _ _ (by omega) (by omega)]; exact e1
    · exact e1
  · have f337 : ∀ (L2 : Nat → Nat → Int64) (mo2 mb2 : Int64), J_X10_look_337 E K (rr w 32) (nI (8 * s)) y4 (aX T (s / 2)) (aY T (s / 2)) mo2 mb2 (nI (a / 64)) u1 y14 (bs (a % 64)) (u2 * mb - mo * u3) (Hw E w I L2 Q) = K mo2 mb2 u1 (y14 + -1) (Hw E w I (if dts T s a * mb.toInt ≥ mo.toInt * szs T a then orb L2 39 (8 * s + 6 + a / 64) (a % 64) else L2) Q) := by
      intro L2 mo2 mb2
      unfold J_X10_look_337
      by_cases p : dts T s a * mb.toInt ≥ mo.toInt * szs T a
      · rw [if_neg (fun z => t2.mp z p), if_pos p]
        simp (disch := omega) only [Option.bind_some, Option.map_some, Option.join, cI_r, cL_r, cV_r, xI_r, xL_r, xV_r, xI_t, xL_t, xV_t, lt_r, rtZ_0, rtZ_1, rtZ_zb, m2, m3, m4, m5, m6, m7, m8, m9, m10, m11, m12, m13, m14, m15, m16, m17, m18, m19, m20, m21, m22, m23, m24, m25, m26, m27, m28, m29, m30, m31, m32, m40, m41, m60, m63, m64, m90, m99, m100, m120, m127, m164, m173, m200, m240, m255, m450, m480, m650, m722, m762, m960, m1000000, m2838, m2988, m4095, pk_mul, nI_add, nI_1, nI_leI, nI_ltI, nI_eq, ix_n, gf32_11, ga39, pa39]
        rfl
      · rw [if_pos (t2.mpr p), if_neg p]
    have f307 : ∀ (L2 : Nat → Nat → Int64), J_X10_look_307 E K (rr w 32) (nI (8 * s)) y4 (aX T (s / 2)) (aY T (s / 2)) (nI (a / 64)) u1 y14 (bs (a % 64)) u2 u3 (u2 * mb - mo * u3) (Hw E w I L2 Q) = K u2 u3 u1 (y14 + -1) (Hw E w I (if dts T s a * mb.toInt ≥ mo.toInt * szs T a then orb (up2 (up2 L2 39 (8 * s + 6) 0) 39 (8 * s + 6 + 1) 0) 39 (8 * s + 6 + a / 64) (a % 64) else (up2 (up2 L2 39 (8 * s + 6) 0) 39 (8 * s + 6 + 1) 0)) Q) := by
      intro L2
      unfold J_X10_look_307
      simp (disch := omega) only [Option.bind_some, Option.map_some, Option.join, cI_r, cL_r, cV_r, xI_r, xL_r, xV_r, xI_t, xL_t, xV_t, lt_r, rtZ_0, rtZ_1, rtZ_zb, m2, m3, m4, m5, m6, m7, m8, m9, m10, m11, m12, m13, m14, m15, m16, m17, m18, m19, m20, m21, m22, m23, m24, m25, m26, m27, m28, m29, m30, m31, m32, m40, m41, m60, m63, m64, m90, m99, m100, m120, m127, m164, m173, m200, m240, m255, m450, m480, m650, m722, m762, m960, m1000000, m2838, m2988, m4095, pk_mul, nI_add, nI_1, nI_leI, nI_ltI, nI_eq, ix_n, gf32_11, pa39]
      exact f337 _ _ _
    unfold J_X10_look_221
    simp (disch := omega) only [Option.bind_some, Option.map_some, Option.join, cI_r, cL_r, cV_r, xI_r, xL_r, xV_r, xI_t, xL_t, xV_t, lt_r, rtZ_0, rtZ_1, rtZ_zb, m2, m3, m4, m5, m6, m7, m8, m9, m10, m11, m12, m13, m14, m15, m16, m17, m18, m19, m20, m21, m22, m23, m24, m25, m26, m27, m28, m29, m30, m31, m32, m40, m41, m60, m63, m64, m90, m99, m100, m120, m127, m164, m173, m200, m240, m255, m450, m480, m650, m722, m762, m960, m1000000, m2838, m2988, m4095, pk_mul, nI_add, nI_1, nI_leI, nI_ltI, nI_eq, ix_n, gf32_11, ga39, pa39]
    have eL1 : up2 L 39 (8 * s + 2 * sd + a / 64) (L 39 (8 * s + 2 * sd + a / 64) ||| bs (a % 64)) = orb L 39 (8 * s + 2 * sd + a / 64) (a % 64) := rfl
    have eA : (aX T (s / 2) * aX T a + aY T (s / 2) * aY T a).toInt64 = (dtI T s a).toInt64 := rfl
    have eB : (aX T a * aX T a + aY T a * aY T a).toInt64 = u3 := eu3
    rw [eL1, eA, eB, eu2]
    unfold lkL
    by_cases p0 : mb = 0
    · rw [if_pos p0, f307]
      have p1 : dts T s a * mb.toInt ≥ mo.toInt * szs T a := by
        rcases h.2 with ⟨e1, e2, -⟩ | ⟨m, e1, e2, e4⟩
        · rw [e1, e2, z0]; simp
        · have := szs_pos q1 (hD m e1.1); rw [p0, z0] at e4; omega
      rw [if_pos p1, if_pos (Or.inl p0), if_pos (Or.inl p0), if_pos (Or.inl p0), if_pos (Or.inl p0)]
    · rw [if_neg p0]
      by_cases p1 : dts T s a * mb.toInt > mo.toInt * szs T a
      · rw [if_neg (fun z => t1.mp z p1), f307, if_pos (by omega), if_pos (Or.inr p1), if_pos (Or.inr p1), if_pos (Or.inr p1), if_pos (Or.inr (by omega))]
      · have p1' : ¬ (mb = 0 ∨ dts T s a * mb.toInt > mo.toInt * szs T a) := fun z => z.elim p0 p1
        rw [if_pos (t1.mpr p1), f337, if_neg p1', if_neg p1', if_neg p1']
        by_cases p2 : dts T s a * mb.toInt ≥ mo.toInt * szs T a
        · rw [if_pos p2, if_pos (Or.inr p2)]
        · rw [if_neg p2, if_neg (fun z => z.elim p0 p2)]
end
