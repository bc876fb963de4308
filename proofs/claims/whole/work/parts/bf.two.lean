/-! two -/
noncomputable def mtP (A B : Nat → Int32) : Nat → Int64
  | 0 => 0
  | n + 1 => mtP A B n + (A n).toInt64 * (B n).toInt64 / 1000000
section
variable {E : Ev} {w : Wo} {I I1 I2 : Nat → Nat → Int32} {L L1 L2 : Nat → Nat → Int64} {Q Q1 Q2 : Nat → Nat → Option Nat} {c : Nat → Nat} {T : Ro} {y : Nat}
theorem dvL_6 {x : Int64} : dvL x 1000000 = some (x / 1000000) := by unfold dvL; rw [if_neg (by decide)]
theorem c_sumUp {a f : Nat} {R : Nat → Int32} (hG : 100000 ≤ E.2.2.1) (q1 : WfT T c) (q2 : LandR I T c) (ha : a = 55 ∨ a = 56) (hq : Q 54 1 = some a) (hf : f = 61 ∨ f = 62) (hR : ∀ s, s < 240 → I a s = R s) : ∃ I', (∀ k, k ≠ f → I' k = I k) ∧ (∀ p, p < 40 → I' f p = smP R (fun s => spl T s = nI p) (4 * c 1)) ∧ F_X4_sumUp E (rr w 54) (rr w f) (Hw E w I L Q) = rtV (Hw E w I' L Q) := by
  have k1 : c 1 ≤ 60 := (q1.1 1 (by decide)).2
  have k0 : c 0 ≤ 40 := (q1.1 0 (by decide)).2
  have e1 : I 0 3 = nI (c 1) := q2.2.1.1.trans (q1.1 1 (by decide)).1
  have ia : IA w a 240 := by
    rcases ha with e | e
    · rw [e]; exact ia55
    · rw [e]; exact ia56
  have jf : IA w f 40 := by
    rcases hf with e | e
    · rw [e]; exact ⟨lv_of (by decide), rfl, by decide⟩
    · rw [e]; exact ⟨lv_of (by decide), rfl, by decide⟩
  have fl := f_fillI (E := E) (w := w) (I := I) (L := L) (Q := Q) (v := 0) hG jf
  have oi : ∀ k, k ≠ f → rs I f 0 40 (fun _ => 0) k = I k := fun k hk => rs_row _ _ hk
  have ob : ∀ s, s < 40 → rs I f 0 40 (fun _ => 0) f s = 0 := fun s hs => rs_in _ _ (by omega) (by omega)
  unfold F_X4_sumUp
  rw [fl, cV_r]
  generalize rs I f 0 40 (fun _ => 0) = I1 at *
  refine lpK2 (σ := Nat → Nat → Int32) (Lp := fun g i s => L_X4_sumUp_7 E (rr w 54) (rr w f) g (nI i) (Hw E w s L Q)) (K := fun s => rtV (Hw E w s L Q)) (Iv := fun i s => (∀ k, k ≠ f → s k = I k) ∧ ∀ p, p < 40 → s f p = smP R (fun s => spl T s = nI p) i) (N := 4 * c 1) (g := E.2.2.1) (i := 0) (s := I1) ?_ ?_ ?_ (by omega) (by omega) ⟨oi, ob⟩
  · rintro I2 ⟨z1, z2⟩ ee
    exact ⟨I2, z1, z2, ee⟩
  · rintro g i I2 hi ⟨z1, z2⟩
    obtain ⟨p0, ep, hp0, e7⟩ := spl_n q1 q2 hi
    have e7' : I2 7 i = nI p0 := by rw [z1 7 (by omega)]; exact e7
    have e1' : I2 0 3 = nI (c 1) := by rw [z1 0 (by omega)]; exact e1
    have ea : I2 a i = R i := by rw [z1 a (by omega)]; exact hR i (by omega)
    refine ⟨up2 I2 f p0 (I2 f p0 + R i), ⟨fun k hk => by rw [up2_row _ _ hk]; exact z1 k hk, fun p hp => ?_⟩, ?_⟩
    · by_cases e : p = p0
      · subst e
        rw [up2_s, z2 p hp, smP_t ep]
      · rw [up2_i _ _ _ e, z2 p hp, smP_f (fun z => e ((nI_eq (by omega) (by omega)).mp (by rw [← z, ep])))]
    · show L_X4_sumUp_7 E (rr w 54) (rr w f) (g + 1) (nI i) (Hw E w I2 L Q) = _
      rw [L_X4_sumUp_7]
      simp (disch := omega) only [Option.bind_some, Option.map_some, Option.join, cI_r, cL_r, cV_r, xI_r, xL_r, xV_r, xI_t, xL_t, xV_t, lt_r, rtZ_0, rtZ_1, rtZ_zb, m4, pk_mul, nI_leI, nI_1, if_neg, gf54_0, gf40_0, gf32_0, gf0_3, e1', gf0_8, ga7, ix_n, e7', jf.ga, gf54_1, hq, ia.ga, ea, jf.pa]
  · rintro g I2 ⟨z1, z2⟩
    have e1' : I2 0 3 = nI (c 1) := by rw [z1 0 (by omega)]; exact e1
    show L_X4_sumUp_7 E (rr w 54) (rr w f) (g + 1) (nI (4 * c 1)) (Hw E w I2 L Q) = _
    rw [L_X4_sumUp_7]
    simp (disch := omega) only [Option.bind_some, Option.map_some, Option.join, cI_r, cL_r, cV_r, xI_r, xL_r, xV_r, xI_t, xL_t, xV_t, lt_r, rtZ_0, rtZ_1, rtZ_zb, m4, pk_mul, nI_leI, if_pos, gf54_0, gf40_0, gf32_0, gf0_3, e1']
theorem c_meet45 {A B : Nat → Int32} (hG : 100000 ≤ E.2.2.1) (hA : ∀ p, p < 40 → I 61 p = A p) (hB : ∀ p, p < 40 → I 62 p = B p) : L_X4_meet_45 E (rr w 54) E.2.2.1 0 0 (Hw E w I L Q) = rtI (mtP A B 40).toInt32 (Hw E w I L Q) := by
  refine lpI (σ := Unit) (Lp := fun g i _ => L_X4_meet_45 E (rr w 54) g (mtP A B i) (nI i) (Hw E w I L Q)) (Inv := fun _ _ => True) (N := 40) ?_ ?_ E.2.2.1 0 () (by omega) (by omega) trivial
  · intro g i _ hi _
    refine ⟨(), trivial, ?_⟩
    show L_X4_meet_45 E (rr w 54) (g + 1) (mtP A B i) (nI i) (Hw E w I L Q) = L_X4_meet_45 E (rr w 54) g (mtP A B (i + 1)) (nI (i + 1)) (Hw E w I L Q)
    rw [L_X4_meet_45]
    simp (disch := omega) only [Option.bind_some, Option.map_some, Option.join, cI_r, cL_r, cV_r, xI_r, xL_r, xV_r, xI_t, xL_t, xV_t, lt_r, rtZ_0, rtZ_1, rtZ_zb, m40, nI_leI, nI_1, if_neg, gf54_6, gf54_7, ga61, ga62, ix_n, hA, hB, dvL_6]
    rfl
  · intro g _ _
    show L_X4_meet_45 E (rr w 54) (g + 1) (mtP A B 40) (nI 40) (Hw E w I L Q) = _
    rw [L_X4_meet_45]
    simp (disch := omega) only [m40, nI_leI, if_pos]
theorem m_two184 {R : Nat → Int32} (hG : 100000 ≤ E.2.2.1) (q1 : WfT (I 137) c) (hR : ∀ s, s < 240 → I 155 s = R s) : ∃ I', (∀ k, k ≠ 157 → I' k = I k) ∧ (∀ p, p < 40 → I' 157 p = smP R (fun s => spl (I 137) s = nI p) (4 * c 1)) ∧ ∀ K, L_X12_two_184 E K (rr w 163) E.2.2.1 0 (Hw E w I L Q) = K (Hw E w I' L Q) := by
  refine lpK2 (ρ := (Hp → Rs) → Rs) (σ := Nat → Nat → Int32) (Lp := fun g i s => fun K => L_X12_two_184 E K (rr w 163) g (nI i) (Hw E w s L Q)) (K := fun s => fun K => K (Hw E w s L Q)) (Iv := fun i s => (∀ k, k ≠ 157 → s k = I k) ∧ ∀ p, p < i → s 157 p = smP R (fun s => spl (I 137) s = nI p) (4 * c 1)) (N := 40) (g := E.2.2.1) (i := 0) (s := I) ?_ ?_ ?_ (by omega) (by omega) ⟨fun _ _ => rfl, fun p hp => absurd hp (by omega)⟩
  · rintro I1 ⟨z1, z2⟩ ee
    exact ⟨I1, z1, z2, fun K => congrFun ee K⟩
  · rintro g i I1 hi ⟨z1, z2⟩
    have i137 : I1 137 = I 137 := z1 137 (by decide)
    have sh' := m_shareAt (E := E) (w := w) (I := I1) (L := L) (Q := Q) (p := i) (c := c) (R := R) hG (by rw [i137]; exact q1) (fun s hs => by rw [z1 155 (by decide)]; exact hR s hs)
    rw [i137] at sh'
    refine ⟨up2 I1 157 i (smP R (fun s => spl (I 137) s = nI i) (4 * c 1)), ⟨fun k hk => by rw [up2_row _ _ hk]; exact z1 k hk, fun p hp => ?_⟩, ?_⟩
    · by_cases e : p = i
      · subst e; rw [up2_s]
      · rw [up2_i _ _ _ e]; exact z2 p (by omega)
    · funext K
      show L_X12_two_184 E K (rr w 163) (g + 1) (nI i) (Hw E w I1 L Q) = _
      rw [L_X12_two_184]
      simp (disch := omega) only [Option.bind_some, Option.map_some, Option.join, cI_r, cL_r, cV_r, xI_r, xL_r, xV_r, xI_t, xL_t, xV_t, lt_r, rtZ_0, rtZ_1, rtZ_zb, m40, nI_leI, nI_1, if_neg, gf163_32, o163, sh', pa157, ix_n]
  · rintro g I1 _
    funext K
    show L_X12_two_184 E K (rr w 163) (g + 1) (nI 40) (Hw E w I1 L Q) = _
    rw [L_X12_two_184]
    simp (disch := omega) only [m40, nI_leI, if_pos]
theorem m_two224 {A R : Nat → Int32} (hG : 100000 ≤ E.2.2.1) (q1 : WfT (I 137) c) (hA : ∀ p, p < 40 → I 157 p = A p) (hR : ∀ s, s < 240 → I 155 s = R s) : L_X12_two_224 E (rr w 163) E.2.2.1 0 0 (Hw E w I L Q) = rtI (mtP A (fun p => smP R (fun s => spl (I 137) s = nI p) (4 * c 1)) 40).toInt32 (Hw E w I L Q) := by
  refine lpI (σ := Unit) (Lp := fun g i _ => L_X12_two_224 E (rr w 163) g (mtP A (fun p => smP R (fun s => spl (I 137) s = nI p) (4 * c 1)) i).toInt32 (nI i) (Hw E w I L Q)) (Inv := fun _ _ => True) (N := 40) ?_ ?_ E.2.2.1 0 () (by omega) (by omega) trivial
  · intro g i _ hi _
    refine ⟨(), trivial, ?_⟩
    have sh' := m_shareAt (E := E) (w := w) (I := I) (L := L) (Q := Q) (p := i) (c := c) (R := R) hG q1 hR
    show L_X12_two_224 E (rr w 163) (g + 1) (mtP A (fun p => smP R (fun s => spl (I 137) s = nI p) (4 * c 1)) i).toInt32 (nI i) (Hw E w I L Q) = L_X12_two_224 E (rr w 163) g (mtP A (fun p => smP R (fun s => spl (I 137) s = nI p) (4 * c 1)) (i + 1)).toInt32 (nI (i + 1)) (Hw E w I L Q)
    rw [L_X12_two_224]
    simp (disch := omega) only [Option.bind_some, Option.map_some, Option.join, cI_r, cL_r, cV_r, xI_r, xL_r, xV_r, xI_t, xL_t, xV_t, lt_r, rtZ_0, rtZ_1, rtZ_zb, m40, nI_leI, nI_1, if_neg, gf163_32, o163, sh', ga157, ix_n, hA, dvL_6]
    rw [← Int64.toInt32_add]
    rfl
  · intro g _ _
    show L_X12_two_224 E (rr w 163) (g + 1) _ (nI 40) (Hw E w I L Q) = _
    rw [L_X12_two_224]
    simp (disch := omega) only [m40, nI_leI, if_pos]
theorem m_two125 {A B : Nat → Prop} (hG : 100000 ≤ E.2.2.1) (hA : ∀ p, p < 40 → I 153 p = zb (A p)) (hB : ∀ p, p < 40 → I 154 p = zb (B p)) : L_X12_two_125 E (rr w 163) E.2.2.1 0 0 (Hw E w I L Q) = rtI (nI (cntP (fun p => A p ∧ B p) 40)) (Hw E w I L Q) := by
  generalize hP : (fun p => A p ∧ B p) = P
  refine lpI (σ := Unit) (Lp := fun g i _ => L_X12_two_125 E (rr w 163) g (nI (cntP P i)) (nI i) (Hw E w I L Q)) (Inv := fun _ _ => True) (N := 40) ?_ ?_ E.2.2.1 0 () (by omega) (by omega) trivial
  · intro g i _ hi _
    refine ⟨(), trivial, ?_⟩
    have hPi : P i ↔ A i ∧ B i := by rw [← hP]
    show L_X12_two_125 E (rr w 163) (g + 1) (nI (cntP P i)) (nI i) (Hw E w I L Q) = L_X12_two_125 E (rr w 163) g (nI (cntP P (i + 1))) (nI (i + 1)) (Hw E w I L Q)
    rw [L_X12_two_125]
    simp (disch := omega) only [Option.bind_some, Option.map_some, Option.join, cI_r, cL_r, cV_r, xI_r, xL_r, xV_r, xI_t, xL_t, xV_t, lt_r, rtZ_0, rtZ_1, rtZ_zb, m40, nI_leI, nI_1, if_neg, gf163_28, gf163_29, ga153, ga154, ix_n, hA, hB, Int32.add_zero]
    by_cases p1 : A i
    · rw [zi_t p1]
      by_cases p2 : B i
      · rw [zi_t p2, cntP_t (hPi.mpr ⟨p1, p2⟩)]
      · rw [zi_f p2, cntP_f (fun z => p2 (hPi.mp z).2)]
    · rw [zi_f p1, cntP_f (fun z => p1 (hPi.mp z).1)]
  · intro g _ _
    show L_X12_two_125 E (rr w 163) (g + 1) (nI (cntP P 40)) (nI 40) (Hw E w I L Q) = _
    rw [L_X12_two_125]
    simp (disch := omega) only [m40, nI_leI, if_pos]
/-- what two comes to, the second kind: how often they meet -/
noncomputable def meP (T : Ro) (c : Nat → Nat) (y k z t s p : Nat) : Int32 := smP (oSeq T c y k z 0 (stR s) t) (fun s => spl T s = nI p) (4 * c 1)
theorem c_meet {z z2 k t t2 s s2 : Nat} (hG : 100000 ≤ E.2.2.1) (h : CW I L Q T c) (hw : WC I L Q T c y k) (hg : Gnd I L T c y k) (hz : z < c 5) (ht : T (764 + 173 * z) = nI t) (t10 : t ≤ 10) (hs : s < 4 * c 1) (hz2 : z2 < c 5) (ht2 : T (764 + 173 * z2) = nI t2) (t102 : t2 ≤ 10) (hs2 : s2 < 4 * c 1) : ∃ I' L' Q', CF I I' L L' Q Q' ∧ CW I' L' Q' T c ∧ F_X4_meet E (rr w 54) (nI z) (nI s) (nI z2) (nI s2) (Hw E w I L Q) = rtI (mtP (meP T c y k z t s) (meP T c y k z2 t2 s2) 40).toInt32 (Hw E w I' L' Q') := by
  obtain ⟨I1', I2, L2, Q2, a, b1, b2, b3, b4, b5, b6, b7, -, b9, b10⟩ := c_run (E := E) (w := w) (z := z) (t := t) (s0 := s) hG h hw hg hz ht t10 hs
  obtain ⟨I3, d1, d2, d3⟩ := c_sumUp (E := E) (w := w) (I := I2) (L := L2) (Q := Q2) (f := 61) hG b2.2.1 b2.2.2.1 b5 b6 (Or.inl rfl) b7
  have cf3 : CF I2 I3 L2 L2 Q2 Q2 := ⟨fun k hk => d1 k (by omega), fun _ _ => rfl, fun _ _ _ _ => rfl⟩
  have mp3 : MapY I3 L2 T c y := ⟨MapR_c (d1 32 (by decide)) (d1 38 (by decide)) (fun _ _ _ => rfl) b3.2.2.1.1, by rw [d1 32 (by decide)]; exact b3.2.2.1.2⟩
  have s3 : StepsR I3 L2 Q2 := StepsR_c (d1 48 (by decide)) (d1 49 (by decide)) (d1 51 (by decide)) rfl rfl b3.2.2.2.2.1
  have cw3 : CW I3 L2 Q2 T c := b2.set cf3 mp3.1 s3 b2.2.2.2.2.2.2.2.1 b2.2.2.2.2.2.2.2.2
  have wc3 : WC I3 L2 Q2 T c y k := by
    obtain ⟨h1, h2, h3, h4, h5, h6, h7, h8, h9, h10⟩ := b3
    exact ⟨h1, cw3.2.2.1, mp3, h4, s3, h6, by rw [d1 40 (by decide)]; exact h7, by rw [d1 19 (by decide)]; exact h8, by rw [d1 20 (by decide)]; exact h9, by rw [d1 21 (by decide)]; exact h10⟩
  have g3 : Gnd I3 L2 T c y k := fun n hn => by rw [d1 41 (by decide)]; exact b4 k hg n hn
  obtain ⟨I4', I5, L5, Q5, a5, f1, f2, f3, f4, f5, f6, f7, f8, f9, f10⟩ := c_run (E := E) (w := w) (z := z2) (t := t2) (s0 := s2) hG cw3 wc3 g3 hz2 ht2 t102 hs2
  obtain ⟨I6, g1, g2, g3'⟩ := c_sumUp (E := E) (w := w) (I := I5) (L := L5) (Q := Q5) (f := 62) hG f2.2.1 f2.2.2.1 f5 f6 (Or.inr rfl) f7
  have cf6 : CF I5 I6 L5 L5 Q5 Q5 := ⟨fun k hk => g1 k (by omega), fun _ _ => rfl, fun _ _ _ _ => rfl⟩
  have mt := c_meet45 (E := E) (w := w) (I := I6) (L := L5) (Q := Q5) (A := meP T c y k z t s) (B := meP T c y k z2 t2 s2) hG (fun p hp => by rw [g1 61 (by decide), f8]; exact d2 p hp) g2
  refine ⟨I6, L5, Q5, ((b1.tr cf3).tr f1).tr cf6, f2.set cf6 (MapR_c (g1 32 (by decide)) (g1 38 (by decide)) (fun _ _ _ => rfl) f2.2.2.2.2.2.1) (StepsR_c (g1 48 (by decide)) (g1 49 (by decide)) (g1 51 (by decide)) rfl rfl f2.2.2.2.2.2.2.1) f2.2.2.2.2.2.2.2.1 f2.2.2.2.2.2.2.2.2, ?_⟩
  unfold F_X4_meet
  rw [o54, Option.bind_some, b9, cV_r, o54, Option.bind_some, b10, cV_r, gf54_6, Option.bind_some, o54, Option.bind_some, d3, cV_r, o54, Option.bind_some, f9, cV_r, o54, Option.bind_some, f10, cV_r, gf54_7, Option.bind_some, o54, Option.bind_some, g3', cV_r, mt]
theorem m_meet {z z2 k t t2 s s2 : Nat} (hG : 100000 ≤ E.2.2.1) (h : MW I L T c) (hy : y ≤ 200) (hk : k < c 4) (hz : z < c 5) (ht : T (764 + 173 * z) = nI t) (t10 : t ≤ 10) (hs : s < 4 * c 1) (hz2 : z2 < c 5) (ht2 : T (764 + 173 * z2) = nI t2) (t102 : t2 ≤ 10) (hs2 : s2 < 4 * c 1) : ∃ I1 L1 I2 I3 L3, MF I I3 L L3 ∧ MW I3 L3 T c ∧ F_X12_oddsFrom E (rr w 163) (nI z) (nI k) (nI s) (nI y) (Hw E w I L Q) = rtV (Hw E w I1 L1 Q) ∧ (∀ K, L_X12_two_184 E K (rr w 163) E.2.2.1 0 (Hw E w I1 L1 Q) = K (Hw E w I2 L1 Q)) ∧ F_X12_oddsFrom E (rr w 163) (nI z2) (nI k) (nI s2) (nI y) (Hw E w I2 L1 Q) = rtV (Hw E w I3 L3 Q) ∧ L_X12_two_224 E (rr w 163) E.2.2.1 0 0 (Hw E w I3 L3 Q) = rtI (mtP (meP T c y k z t s) (meP T c y k z2 t2 s2) 40).toInt32 (Hw E w I3 L3 Q) := by
  obtain ⟨I1, L1, d1, d2, d3, -, d5, d6⟩ := m_oddsFrom (E := E) (w := w) (Q := Q) (y := y) (k := k) (z := z) (t := t) (s0 := s) hG h hy hk hz ht t10 hs
  obtain ⟨I2, e1, e2, e3⟩ := m_two184 (E := E) (w := w) (I := I1) (L := L1) (Q := Q) (c := c) hG (by rw [d2.1]; exact d2.2.1) d5
  have mf2 : MF I1 I2 L1 L1 := ⟨fun k hk => e1 k (by omega), fun i _ => by rw [e1 163 (by decide)], fun _ _ => rfl⟩
  have mw2 : MW I2 L1 T c := d2.i (fun k hk => e1 k (by omega))
  obtain ⟨I3, L3, f1, f2, f3, f4, f5, f6⟩ := m_oddsFrom (E := E) (w := w) (Q := Q) (y := y) (k := k) (z := z2) (t := t2) (s0 := s2) hG mw2 hy hk hz2 ht2 t102 hs2
  rw [d2.1] at e2
  have tw := m_two224 (E := E) (w := w) (I := I3) (L := L3) (Q := Q) (c := c) (A := meP T c y k z t s) hG (by rw [f2.1]; exact f2.2.1) (fun p hp => by rw [f4]; exact e2 p hp) f5
  rw [f2.1] at tw
  exact ⟨I1, L1, I2, I3, L3, (d1.tr mf2).tr f1, f2, d6, e3, f6, tw⟩
theorem op_two (hG : 100000 ≤ E.2.2.1) (q : Inv w I L Q) (x1 x2 x3 x4 x5 x6 x7 : Int32) : OpI E w (fun h => F_L_two E (rr w 136) x1 x2 x3 x4 x5 x6 x7 (rr w 164) h) (fun h => F_X12_two E (rr w 163) x1 x2 x3 x4 x5 x6 x7 h) I L Q := by
  have q0 := q
  obtain ⟨c, qc⟩ := q
  have qc' : InvC w I L Q c := qc
  obtain ⟨q1, q2, q3, q4, q5, q6, q7, q8, q9, q10, q11, q12, q13⟩ := qc
  have hC := q1.1
  have hC' : Cts ((up2 I 163 3 0) 137) c := hC
  have k0 := hC 0 (by decide)
  have k1 := hC 1 (by decide)
  have k5 := hC 5 (by decide)
  simp only [mx] at k0 k1 k5
  have e1 : I 0 3 = nI (c 1) := q2.2.1.1.trans k1.1
  have e5 : I 22 0 = nI (c 5) := q4.1.1.trans k5.1
  have c1' : c 1 < 2 ^ 28 := by omega
  have c5' : c 5 < 2 ^ 31 := by omega
  by_cases pt : bl x3 (c 5) ∧ bl x5 (c 4) ∧ bl x4 (4 * c 1)
  · by_cases p1 : bl x1 (c 5)
    · by_cases p2 : bl x2 (4 * c 1)
      · have nt := fun e => f_needTold2 (E := E) (w := w) (I := I) (L := L) (Q := Q) (e := e) hC q4.1.1 q3.2.1.1 q2.2.1.1 pt
        have pp : bl x1 (c 5) ∧ bl x5 (c 4) ∧ bl x2 (4 * c 1) := ⟨p1, pt.2.1, p2⟩
        by_cases p6 : bd x6 0 200
        · by_cases p7 : bd x7 0 1
          · have z7 := (bd_iff (by decide)).mp p7
            have z77 : x7 ≤ 1 := Int32.not_lt.mp z7.2
            have p1' := p1
            have p2' := p2
            have pt' := pt
            have p6' := p6
            obtain ⟨z, rfl, hz⟩ := p1'
            obtain ⟨s, rfl, hs⟩ := p2'
            obtain ⟨⟨z2, rfl, hz2⟩, ⟨k, rfl, hk⟩, ⟨s2, rfl, hs2⟩⟩ := pt'
            obtain ⟨y, rfl, -, hy⟩ := p6'
            obtain ⟨t, et, ht⟩ := say_n q1 hz
            obtain ⟨t2, et2, ht2⟩ := say_n q1 hz2
            obtain ⟨I1, L1, a1, a2, a3, a4, -, a6⟩ := c_set (E := E) (w := w) (y := y) hG qc'.cw hy hk
            by_cases p0 : x7 = 0
            · obtain ⟨I2, L2, Q2, v, b1, b2, b3, b4, b5, b6⟩ := c_lastPlaces (E := E) (w := w) (z := z) (t := t) (s0 := s) hG a2 a3 a4 hz et ht hs
              obtain ⟨I3, L3, Q3, v2, d1, d2, d3, d4, d5, d6⟩ := c_lastPlaces (E := E) (w := w) (z := z2) (t := t2) (s0 := s2) hG b2 b3 (b4 k a4) hz2 et2 ht2 hs2
              have cf := (a1.tr b1).tr d1
              have ec : cntP (b64 (v &&& v2)) 64 = cntP (fun p => lsP (I 137) c y k z s t p ∧ lsP (I 137) c y k z2 s2 t2 p) 40 := by
                rw [cnt_c (n := 64) (R := fun p => lsP (I 137) c y k z s t p ∧ lsP (I 137) c y k z2 s2 t2 p) (fun j hj => by rw [b64_and, b5 j hj, d5 j hj])]
                exact cnt_gap (by omega) (fun j g1 g2 z => by have := lsP_lt q1 (by omega) z.1; omega)
              generalize ev : nI (cntP (fun p => lsP (I 137) c y k z s t p ∧ lsP (I 137) c y k z2 s2 t2 p) 40) = r at *
              have hc : F_X11_two E (rr w 136) (nI z) (nI s) (nI z2) (nI s2) (nI k) (nI y) x7 (Hw E w I L Q) = rtI r (Hw E w I3 L3 Q3) := by
                unfold F_X11_two
                simp (disch := omega) only [Option.bind_some, Option.map_some, Option.join, cI_r, cL_r, cV_r, xI_r, xL_r, xV_r, xI_t, xL_t, xV_t, lt_r, rtZ_0, rtZ_1, rtZ_zb, o136, f_needTelling e5 c5', nd_t p1, f_needState e1 c1', nd_t p2, nt, nd_t p6, if_neg z7.1, if_pos z77, a6, if_neg (not_not_intro p0), gf136_4, o40, b6, d6, f_bitCount, ec, ev]
              have mw := MW.of qc' (v := r.toInt64) cf
              obtain ⟨I4, L4, r4, I5, f1, f2, f3, f4, -, -, -, f7, f8, f9⟩ := m_last (E := E) (w := w) (Q := Q3) (y := y) (k := k) (z := z) (t := t) (s0 := s) hG mw hy hk hz et ht hs (Or.inl rfl)
              obtain ⟨I6, L6, r6, I7, g1, g2, g3, g4, -, g6, -, g7, g8, g9⟩ := m_last (E := E) (w := w) (Q := Q3) (y := y) (k := k) (z := z2) (t := t2) (s0 := s2) hG f4 hy hk hz2 et2 ht2 hs2 (Or.inr rfl)
              have tw := m_two125 (E := E) (w := w) (I := I7) (L := L6) (Q := Q3) (A := lsP (I 137) c y k z s t) (B := lsP (I 137) c y k z2 s2 t2) hG (fun p hp => by rw [g6 153 (by decide) (by decide) (by decide)]; exact f7 p hp) g7
              rw [ev] at tw
              refine OpI_ok qc' cf d2 (f3.tr g3) g4 ?_ ?_
              · show F_L_two E (rr w 136) (nI z) (nI s) (nI z2) (nI s2) (nI k) (nI y) x7 (rr w 164) (Hw E w I L Q) = _
                unfold F_L_two
                simp only [Option.bind_some, Option.map_some, Option.join, cI_r, cL_r, cV_r, xI_r, xL_r, xV_r, xI_t, xL_t, xV_t, lt_r, rtZ_0, rtZ_1, rtZ_zb, o136, hc, pa164, ix01]
              · show F_X12_two E (rr w 163) (nI z) (nI s) (nI z2) (nI s2) (nI k) (nI y) x7 _ = _
                unfold F_X12_two
                have hC2 : Cts ((up2 I3 163 3 0) 137) c := by rw [mw.1]; exact hC
                have es1 : (up2 I3 163 3 0) 137 (764 + 173 * z) = nI t := by rw [mw.1]; exact et
                have es2 : I5 137 (764 + 173 * z2) = nI t2 := by rw [f4.1]; exact et2
                simp (disch := omega) only [Option.bind_some, Option.map_some, Option.join, cI_r, cL_r, cV_r, xI_r, xL_r, xV_r, xI_t, xL_t, xV_t, lt_r, rtZ_0, rtZ_1, rtZ_zb, pf163_3, o163, f_areThere hC2, zi_t pp, zn_t pt, f_isYear, zi_t p6, f_wi 1 (by decide) (show (nI 1).toInt64 = 1 by rfl), zn_t p7, if_neg (not_not_intro p0), f_sayingsOf, es1, f8, gf163_28, f9, es2, g8, gf163_29, g9, tw]
            · obtain ⟨I2, L2, Q2, b1, b2, b3⟩ := c_meet (E := E) (w := w) (z := z) (t := t) (s := s) (z2 := z2) (t2 := t2) (s2 := s2) hG a2 a3 a4 hz et ht hs hz2 et2 ht2 hs2
              have cf := a1.tr b1
              generalize ev : (mtP (meP (I 137) c y k z t s) (meP (I 137) c y k z2 t2 s2) 40).toInt32 = r at *
              have hc : F_X11_two E (rr w 136) (nI z) (nI s) (nI z2) (nI s2) (nI k) (nI y) x7 (Hw E w I L Q) = rtI r (Hw E w I2 L2 Q2) := by
                unfold F_X11_two
                simp (disch := omega) only [Option.bind_some, Option.map_some, Option.join, cI_r, cL_r, cV_r, xI_r, xL_r, xV_r, xI_t, xL_t, xV_t, lt_r, rtZ_0, rtZ_1, rtZ_zb, o136, f_needTelling e5 c5', nd_t p1, f_needState e1 c1', nd_t p2, nt, nd_t p6, if_neg z7.1, if_pos z77, a6, if_pos p0, gf136_5, o54, b3]
              have mw := MW.of qc' (v := r.toInt64) cf
              obtain ⟨I4, L4, I5, I6, L6, f1, f2, f3, f4, f5, f6⟩ := m_meet (E := E) (w := w) (Q := Q2) (y := y) (k := k) (z := z) (t := t) (s := s) (z2 := z2) (t2 := t2) (s2 := s2) hG mw hy hk hz et ht hs hz2 et2 ht2 hs2
              rw [ev] at f6
              refine OpI_ok qc' cf b2 f1 f2 ?_ ?_
              · show F_L_two E (rr w 136) (nI z) (nI s) (nI z2) (nI s2) (nI k) (nI y) x7 (rr w 164) (Hw E w I L Q) = _
                unfold F_L_two
                simp only [Option.bind_some, Option.map_some, Option.join, cI_r, cL_r, cV_r, xI_r, xL_r, xV_r, xI_t, xL_t, xV_t, lt_r, rtZ_0, rtZ_1, rtZ_zb, o136, hc, pa164, ix01]
              · show F_X12_two E (rr w 163) (nI z) (nI s) (nI z2) (nI s2) (nI k) (nI y) x7 _ = _
                unfold F_X12_two
                have hC2 : Cts ((up2 I2 163 3 0) 137) c := by rw [mw.1]; exact hC
                simp (disch := omega) only [Option.bind_some, Option.map_some, Option.join, cI_r, cL_r, cV_r, xI_r, xL_r, xV_r, xI_t, xL_t, xV_t, lt_r, rtZ_0, rtZ_1, rtZ_zb, pf163_3, o163, f_areThere hC2, zi_t pp, zn_t pt, f_isYear, zi_t p6, f_wi 1 (by decide) (show (nI 1).toInt64 = 1 by rfl), zn_t p7, if_pos p0, f3, f4, f5, f6]
          · refine OpI_no (k := 2) (b := 0) q0 (by decide) ?_ ?_
            · show F_L_two E (rr w 136) x1 x2 x3 x4 x5 x6 x7 (rr w 164) (Hw E w I L Q) = _
              unfold F_L_two F_X11_two
              by_cases c1 : x7 < 0
              · simp only [Option.bind_some, Option.map_some, Option.join, cI_r, cL_r, cV_r, xI_r, xL_r, xV_r, xI_t, xL_t, xV_t, lt_r, rtZ_0, rtZ_1, rtZ_zb, o136, f_needTelling e5 c5', nd_t p1, f_needState e1 c1', nd_t p2, nt, nd_t p6, if_pos c1, if_true]
              · have c2 : ¬ x7 ≤ 1 := fun z => p7 ((bd_iff (by decide)).mpr ⟨c1, Int32.not_lt.mpr z⟩)
                simp only [Option.bind_some, Option.map_some, Option.join, cI_r, cL_r, cV_r, xI_r, xL_r, xV_r, xI_t, xL_t, xV_t, lt_r, rtZ_0, rtZ_1, rtZ_zb, o136, f_needTelling e5 c5', nd_t p1, f_needState e1 c1', nd_t p2, nt, nd_t p6, if_neg c1, if_neg c2, if_true]
            · show F_X12_two E (rr w 163) x1 x2 x3 x4 x5 x6 x7 _ = _
              unfold F_X12_two
              simp only [Option.bind_some, Option.map_some, Option.join, cI_r, cL_r, cV_r, xI_r, xL_r, xV_r, xI_t, xL_t, xV_t, lt_r, rtZ_0, rtZ_1, rtZ_zb, pf163_3, o163, f_areThere hC', zi_t pp, zn_t pt, f_isYear, zi_t p6, f_wi 1 (by decide) (show (nI 1).toInt64 = 1 by rfl), zn_f p7, f_fails]
        · refine OpI_no (k := 2) (b := 0) q0 (by decide) ?_ ?_
          · show F_L_two E (rr w 136) x1 x2 x3 x4 x5 x6 x7 (rr w 164) (Hw E w I L Q) = _
            unfold F_L_two F_X11_two
            simp only [Option.bind_some, Option.map_some, Option.join, cI_r, cL_r, cV_r, xI_r, xL_r, xV_r, xI_t, xL_t, xV_t, lt_r, rtZ_0, rtZ_1, rtZ_zb, o136, f_needTelling e5 c5', nd_t p1, f_needState e1 c1', nd_t p2, nt, nd_f p6, if_true]
          · show F_X12_two E (rr w 163) x1 x2 x3 x4 x5 x6 x7 _ = _
            unfold F_X12_two
            simp only [Option.bind_some, Option.map_some, Option.join, cI_r, cL_r, cV_r, xI_r, xL_r, xV_r, xI_t, xL_t, xV_t, lt_r, rtZ_0, rtZ_1, rtZ_zb, pf163_3, o163, f_areThere hC', zi_t pp, zn_t pt, f_isYear, zi_f p6, f_fails]
      · refine OpI_no (k := 1) (b := 0) q0 (by decide) ?_ ?_
        · show F_L_two E (rr w 136) x1 x2 x3 x4 x5 x6 x7 (rr w 164) (Hw E w I L Q) = _
          unfold F_L_two F_X11_two
          simp only [Option.bind_some, Option.map_some, Option.join, cI_r, cL_r, cV_r, xI_r, xL_r, xV_r, xI_t, xL_t, xV_t, lt_r, rtZ_0, rtZ_1, rtZ_zb, o136, f_needTelling e5 c5', nd_t p1, f_needState e1 c1', nd_f p2, String.reduceEq, if_false, if_true]
        · show F_X12_two E (rr w 163) x1 x2 x3 x4 x5 x6 x7 _ = _
          unfold F_X12_two
          simp only [Option.bind_some, Option.map_some, Option.join, cI_r, cL_r, cV_r, xI_r, xL_r, xV_r, xI_t, xL_t, xV_t, lt_r, rtZ_0, rtZ_1, rtZ_zb, pf163_3, o163, f_areThere hC', zi_f (fun z : bl x1 (c 5) ∧ bl x5 (c 4) ∧ bl x2 (4 * c 1) => p2 z.2.2), f_fails]
    · refine OpI_no (k := 1) (b := 0) q0 (by decide) ?_ ?_
      · show F_L_two E (rr w 136) x1 x2 x3 x4 x5 x6 x7 (rr w 164) (Hw E w I L Q) = _
        unfold F_L_two F_X11_two
        simp only [Option.bind_some, Option.map_some, Option.join, cI_r, cL_r, cV_r, xI_r, xL_r, xV_r, xI_t, xL_t, xV_t, lt_r, rtZ_0, rtZ_1, rtZ_zb, o136, f_needTelling e5 c5', nd_f p1, String.reduceEq, if_false, if_true]
      · show F_X12_two E (rr w 163) x1 x2 x3 x4 x5 x6 x7 _ = _
        unfold F_X12_two
        simp only [Option.bind_some, Option.map_some, Option.join, cI_r, cL_r, cV_r, xI_r, xL_r, xV_r, xI_t, xL_t, xV_t, lt_r, rtZ_0, rtZ_1, rtZ_zb, pf163_3, o163, f_areThere hC', zi_f (fun z : bl x1 (c 5) ∧ bl x5 (c 4) ∧ bl x2 (4 * c 1) => p1 z.1), f_fails]
  · refine OpI_no (k := 1) (b := 0) q0 (by decide) ?_ ?_
    · show F_L_two E (rr w 136) x1 x2 x3 x4 x5 x6 x7 (rr w 164) (Hw E w I L Q) = _
      unfold F_L_two F_X11_two
      by_cases p1 : bl x1 (c 5)
      · by_cases p2 : bl x2 (4 * c 1)
        · simp only [Option.bind_some, Option.map_some, Option.join, cI_r, cL_r, cV_r, xI_r, xL_r, xV_r, xI_t, xL_t, xV_t, lt_r, rtZ_0, rtZ_1, rtZ_zb, o136, f_needTelling e5 c5', nd_t p1, f_needState e1 c1', nd_t p2, f_needTold1 hC q4.1.1 q3.2.1.1 q2.2.1.1 pt, String.reduceEq, if_false, if_true]
        · simp only [Option.bind_some, Option.map_some, Option.join, cI_r, cL_r, cV_r, xI_r, xL_r, xV_r, xI_t, xL_t, xV_t, lt_r, rtZ_0, rtZ_1, rtZ_zb, o136, f_needTelling e5 c5', nd_t p1, f_needState e1 c1', nd_f p2, String.reduceEq, if_false, if_true]
      · simp only [Option.bind_some, Option.map_some, Option.join, cI_r, cL_r, cV_r, xI_r, xL_r, xV_r, xI_t, xL_t, xV_t, lt_r, rtZ_0, rtZ_1, rtZ_zb, o136, f_needTelling e5 c5', nd_f p1, String.reduceEq, if_false, if_true]
    · show F_X12_two E (rr w 163) x1 x2 x3 x4 x5 x6 x7 _ = _
      unfold F_X12_two
      by_cases p1 : bl x1 (c 5) ∧ bl x5 (c 4) ∧ bl x2 (4 * c 1)
      · simp only [Option.bind_some, Option.map_some, Option.join, cI_r, cL_r, cV_r, xI_r, xL_r, xV_r, xI_t, xL_t, xV_t, lt_r, rtZ_0, rtZ_1, rtZ_zb, pf163_3, o163, f_areThere hC', zi_t p1, zn_f pt, f_fails]
      · simp only [Option.bind_some, Option.map_some, Option.join, cI_r, cL_r, cV_r, xI_r, xL_r, xV_r, xI_t, xL_t, xV_t, lt_r, rtZ_0, rtZ_1, rtZ_zb, pf163_3, o163, f_areThere hC', zi_f p1, f_fails]
end
