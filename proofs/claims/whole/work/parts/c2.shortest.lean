/-! shortest -/
def MF2 (I I' : Nat → Nat → Int32) (L L' : Nat → Nat → Int64) : Prop := (∀ k, k < 140 ∨ k = 144 ∨ k = 160 ∨ k = 161 ∨ 165 ≤ k → I' k = I k) ∧ (∀ i, i ≠ 4 → i ≠ 35 → i ≠ 36 → I' 163 i = I 163 i) ∧ ∀ k, k < 140 ∨ k = 162 ∨ k = 164 → L' k = L k
/-- the shortest of at most D words -/
def isSh (T : Ro) (c : Nat → Nat) (y : Nat) (W : Int32) (g D s0 d : Nat) (f : Nat → Nat) : Prop := 1 ≤ d ∧ d ≤ D ∧ okS T c y W g d (fun _ => sg s0) ∧ (∀ d', 1 ≤ d' → d' < d → ¬ okS T c y W g d' (fun _ => sg s0)) ∧ isF T c y W g d (fun _ => sg s0) f
def noSh (T : Ro) (c : Nat → Nat) (y : Nat) (W : Int32) (g D s0 : Nat) : Prop := ∀ d, 1 ≤ d → d ≤ D → ¬ okS T c y W g d (fun _ => sg s0)
theorem isSh_uq {T : Ro} {c : Nat → Nat} {y : Nat} {W : Int32} {g D s0 d d' : Nat} {f f' : Nat → Nat} (h : isSh T c y W g D s0 d f) (h' : isSh T c y W g D s0 d' f') : d = d' ∧ ∀ i, i < d → f i = f' i := by
  have e : d = d' := by
    rcases Nat.lt_trichotomy d d' with x | x | x
    · exact absurd h.2.2.1 (h'.2.2.2.1 d h.1 x)
    · exact x
    · exact absurd h'.2.2.1 (h.2.2.2.1 d' h'.1 x)
  subst e
  exact ⟨rfl, isF_uq d _ f f' h.2.2.2.2 h'.2.2.2.2⟩
section
variable {E : Ev} {w : Wo} {I I1 I2 : Nat → Nat → Int32} {L L1 L2 : Nat → Nat → Int64} {Q Q1 Q2 : Nat → Nat → Option Nat} {c : Nat → Nat} {T : Ro} {y : Nat} {W : Int32} {g0 : Nat}
theorem Laid_k2 (h1 : I1 163 4 = I 163 4) (h2 : I1 142 = I 142) (h3 : L1 140 = L 140) (h4 : L1 141 = L 141) (h : Laid I L T c y) : Laid I1 L1 T c y := by
  obtain ⟨a, b, d⟩ := h
  refine ⟨by rw [h1]; exact a, by rw [h3]; exact b, ?_⟩
  unfold StdOk at *
  rw [h2, h4]; exact d
theorem OpI_ok2 {FL FM : Hp → Rs} {v : Int32} (q : InvC w I L Q c) (cf : CF I I1 L L1 Q Q1) (cw : CW I1 L1 Q1 (I 137) c) (mf : MF2 (up2 I1 163 3 0) I2 (up2 L1 164 0 v.toInt64) L2) (mw : MW I2 L2 (I 137) c) (h1 : FL (Hw E w I L Q) = rtI 0 (Hw E w I1 (up2 L1 164 0 v.toInt64) Q1)) (h2 : FM (Hw E w I1 (up2 L1 164 0 v.toInt64) Q1) = rtI v (Hw E w I2 L2 Q1)) : OpI E w FL FM I L Q := by
  refine ⟨0, v, I1, I2, up2 L1 164 0 v.toInt64, L2, Q1, Q1, h1, h2, Inv_re q (fun k i h => ?_) (fun k h => ?_) (fun k h1 h2 => cf.2.2 k (by omega) (by omega) (by omega)) ?_ mw.2.2 ?_ cw.2.2.2.2.2.2.2.1 cw.2.2.2.2.2.2.2.2 ?_, ?_, fun _ => ?_⟩
  · unfold kpI at h
    by_cases e : k = 163
    · subst e
      rw [mf.2.1 i (by omega) (by omega) (by omega), up2_i _ _ _ (by omega), cf.1 163 (by omega)]
    · rw [mf.1 k (by omega), up2_row _ _ e, cf.1 k (by omega)]
  · unfold kpL at h
    rw [mf.2.2 k (by omega), up2_row _ _ (by omega), cf.2.1 k (by omega)]
  · exact MapR_c (I := I1) (L := L1) (by rw [mf.1 32 (by omega), up2_row _ _ (by decide)]) (by rw [mf.1 38 (by omega), up2_row _ _ (by decide)]) (fun k g1 g2 => by rw [mf.2.2 k (by omega), up2_row _ _ (by omega)]) cw.2.2.2.2.2.1
  · exact StepsR_k (I := I1) (L := L1) (fun k g1 g2 => by rw [mf.1 k (by omega), up2_row _ _ (by omega)]) (fun k g1 g2 => by rw [mf.2.2 k (by omega), up2_row _ _ (by omega)]) cw.2.2.2.2.2.2.1
  · obtain ⟨-, -, -, -, -, -, -, -, -, rf, -⟩ := q
    unfold RefsR at *
    rw [cf.2.2 65 (by decide) (by decide) (by decide), cf.2.2 124 (by decide) (by decide) (by decide)]
    exact rf
  · rw [mf.2.1 3 (by decide) (by decide) (by decide), up2_s]
  · rw [mf.2.2 164 (by omega), up2_s]
theorem m_sh89 {s0 : Nat} (hG : 100000 ≤ E.2.2.1) (hs : s0 < 256) : ∃ L', (∀ k, k ≠ 158 → L' k = L k) ∧ (∀ k, k < 8 → mSt L' 0 k = sg s0) ∧ ∀ K, L_X12_shortest_89 E K (rr w 163) (nI s0) E.2.2.1 0 (Hw E w I L Q) = K (Hw E w I L' Q) := by
  refine lpK2 (ρ := (Hp → Rs) → Rs) (σ := Nat → Nat → Int64) (Lp := fun g i s K => L_X12_shortest_89 E K (rr w 163) (nI s0) g (nI i) (Hw E w I s Q)) (K := fun s K => K (Hw E w I s Q)) (Iv := fun i s => (∀ k, k ≠ 158 → s k = L k) ∧ ∀ k, k < i → mSt s 0 k = sg s0) (N := 8) (g := E.2.2.1) (i := 0) (s := L) ?_ ?_ ?_ (by omega) (by omega) ⟨fun _ _ => rfl, fun k hk => absurd hk (by omega)⟩
  · rintro L' ⟨z1, z2⟩ ee
    exact ⟨L', z1, z2, fun K => congrFun ee K⟩
  · rintro g i L1 hi ⟨z1, z2⟩
    have em := f_empty (E := E) (w := w) (I := I) (L := L1) (Q := Q) (k := 158) (a := 4 * i) hG la158 (by omega)
    have o1 : ∀ k, k ≠ 158 → rs L1 158 (4 * i) 4 (fun _ => 0) k = L1 k := fun k hk => rs_row _ _ hk
    have o2 : ∀ j, ¬ (4 * i ≤ j ∧ j < 4 * i + 4) → rs L1 158 (4 * i) 4 (fun _ => 0) 158 j = L1 158 j := fun j hj => rs_out _ _ hj
    have o3 : ∀ q, q < 256 → ¬ b256 (rs L1 158 (4 * i) 4 (fun _ => 0) 158) (4 * i) q := fun q hq z => bg_0 ((rs_b hq).mp z)
    generalize rs L1 158 (4 * i) 4 (fun _ => 0) = L2 at *
    have pu := f_put (E := E) (w := w) (I := I) (L := L2) (Q := Q) (k := 158) (a := 4 * i) (s := s0) la158 (by omega) hs
    have p1 : ∀ k, k ≠ 158 → pt L2 158 (4 * i) s0 k = L2 k := fun k hk => pt_row hk
    have p2 : ∀ j, ¬ (4 * i ≤ j ∧ j < 4 * i + 4) → pt L2 158 (4 * i) s0 158 j = L2 158 j := fun j hj => pt_out hs (by omega)
    have p3 : ∀ q, q < 256 → (b256 (pt L2 158 (4 * i) s0 158) (4 * i) q ↔ q = s0) := fun q hq => by
      rw [pt_b hs hq]
      exact ⟨fun z => z.elim id (fun z => absurd z (o3 q hq)), Or.inl⟩
    generalize pt L2 158 (4 * i) s0 = L3 at *
    refine ⟨L3, ⟨fun k hk => by rw [p1 k hk, o1 k hk, z1 k hk], fun k hk => ?_⟩, ?_⟩
    · by_cases e : k = i
      · subst e
        funext q
        show (q < 256 ∧ b256 (L3 158) (32 * 0 + 4 * k) q) = (q = s0)
        rw [show 32 * 0 + 4 * k = 4 * k by omega]
        exact propext ⟨fun z => (p3 q z.1).mp z.2, fun z => ⟨by omega, (p3 q (by omega)).mpr z⟩⟩
      · rw [← z2 k (by omega)]
        exact mX_c (fun j h1 h2 => by rw [p2 j (by omega), o2 j (by omega)])
    · funext K
      show L_X12_shortest_89 E K (rr w 163) (nI s0) (g + 1) (nI i) (Hw E w I L1 Q) = L_X12_shortest_89 E K (rr w 163) (nI s0) g (nI (i + 1)) (Hw E w I L3 Q)
      rw [L_X12_shortest_89]
      simp (disch := omega) only [Option.bind_some, Option.map_some, Option.join, cI_r, cL_r, cV_r, xI_r, xL_r, xV_r, xI_t, xL_t, xV_t, lt_r, rtZ_0, rtZ_1, rtZ_zb, m8, nI_leI, if_neg, gf163_33, m4, pk_mul, em, pu, nI_1]
  · rintro g L1 _
    funext K
    show L_X12_shortest_89 E K (rr w 163) (nI s0) (g + 1) (nI 8) (Hw E w I L1 Q) = _
    rw [L_X12_shortest_89, m8, if_pos (nI_le (Nat.le_refl 8) (by decide))]
theorem m_sh128 {D s0 : Nat} (hG : 100000 ≤ E.2.2.1) (q1 : WfT T c) (hy : y ≤ 200) (hT : I 137 = T) (hl : Laid I L T c y) (h36 : I 163 36 = W) (h35 : I 163 35 = nI g0) (hD : D ≤ 3) (hs : s0 < 4 * c 1) (hX : ∀ k, k < 8 → mSt L 0 k = sg s0) : ∃ I' L', (∀ k, k ≠ 142 → k ≠ 159 → I' k = I k) ∧ (∀ k, ¬ Tmp k → k ≠ 158 → L' k = L k) ∧ Laid I' L' T c y ∧ ((∃ d f, isSh T c y W g0 D s0 d f ∧ (∀ i, i < d → I' 159 i = nI (f i)) ∧ ∀ K, L_X12_shortest_128 E K (rr w 163) (nI D) E.2.2.1 1 (Hw E w I L Q) = K (nI d) (Hw E w I' L' Q)) ∨ (noSh T c y W g0 D s0 ∧ ∀ K, L_X12_shortest_128 E K (rr w 163) (nI D) E.2.2.1 1 (Hw E w I L Q) = rtI (-1) (Hw E w I' L' Q))) := by
  have k4 : c 4 ≤ 8 := (q1.1 4 (by decide)).2
  refine lpE (ρ := (Int32 → Hp → Rs) → Rs) (σ := (Nat → Nat → Int32) × (Nat → Nat → Int64)) (Lp := fun g i s K => L_X12_shortest_128 E K (rr w 163) (nI D) g (nI (i + 1)) (Hw E w s.1 s.2 Q)) (Iv := fun i s => (∀ k, k ≠ 142 → k ≠ 159 → s.1 k = I k) ∧ (∀ k, ¬ Tmp k → k ≠ 158 → s.2 k = L k) ∧ (∀ k, k < 8 → mSt s.2 0 k = sg s0) ∧ Laid s.1 s.2 T c y ∧ ∀ d, 1 ≤ d → d < i + 1 → ¬ okS T c y W g0 d (fun _ => sg s0)) (Post := fun o => ∃ I' L', (∀ k, k ≠ 142 → k ≠ 159 → I' k = I k) ∧ (∀ k, ¬ Tmp k → k ≠ 158 → L' k = L k) ∧ Laid I' L' T c y ∧ ((∃ d f, isSh T c y W g0 D s0 d f ∧ (∀ i, i < d → I' 159 i = nI (f i)) ∧ ∀ K, o K = K (nI d) (Hw E w I' L' Q)) ∨ (noSh T c y W g0 D s0 ∧ ∀ K, o K = rtI (-1) (Hw E w I' L' Q)))) (N := D) ?_ ?_ E.2.2.1 0 (I, L) (by omega) (by omega) ⟨fun _ _ _ => rfl, fun _ _ _ => rfl, hX, hl, fun d h1 h2 => absurd h1 (by omega)⟩
  · rintro g i ⟨I1, L1⟩ hi ⟨z1, z2, z3, z4, z5⟩
    dsimp only at *
    have eS : ∀ k, k < c 4 → b32 W k → (fun k => mSt L1 0 k) k = (fun _ => sg s0) k := fun k hk _ => z3 k (by omega)
    obtain ⟨I2, L2, f, a1, a2, a3, a4, a5, a6, a7⟩ := m_seek (E := E) (w := w) (Q := Q) (T := T) (c := c) (y := y) (W := W) (g0 := g0) hG q1 hy (i + 1) 4 0 I1 L1 (by omega) (by omega) (by rw [z1 137 (by decide) (by decide)]; exact hT) z4 (by rw [z1 163 (by decide) (by decide)]; exact h36) (by rw [z1 163 (by decide) (by decide)]; exact h35) (fun k hk hw q hq => by rw [z3 k (by omega)] at hq; rw [show q = s0 from hq]; exact hs)
    rw [Nat.zero_add, zb_c (okS_c (i + 1) _ _ eS)] at a7
    have w1 : ∀ k, k ≠ 142 → k ≠ 159 → I2 k = I k := fun k h1 h2 => (a1 k h1 h2).trans (z1 k h1 h2)
    have w2 : ∀ k, ¬ Tmp k → k ≠ 158 → L2 k = L k := fun k h1 h2 => (a3 k h1 h2).trans (z2 k h1 h2)
    have st : ∀ K, L_X12_shortest_128 E K (rr w 163) (nI D) (g + 1) (nI (i + 1)) (Hw E w I1 L1 Q) = if ¬ zb (okS T c y W g0 (i + 1) (fun _ => sg s0)) = 0 then K (nI (i + 1)) (Hw E w I2 L2 Q) else L_X12_shortest_128 E K (rr w 163) (nI D) g (nI (i + 1 + 1)) (Hw E w I2 L2 Q) := fun K => by
      rw [L_X12_shortest_128, if_neg (by rw [nI_ltI (by omega) (by omega)]; omega), o163, Option.bind_some, show (0 : Int32) = nI 0 from rfl, a7, cI_r, nI_1]
    by_cases p : okS T c y W g0 (i + 1) (fun _ => sg s0)
    · right
      have a6' := a6 ((okS_c (i + 1) _ _ eS).mpr p)
      refine ⟨I2, L2, w1, w2, a5, Or.inl ⟨i + 1, f, ⟨by omega, by omega, p, z5, isF_c (i + 1) _ _ _ eS a6'.1⟩, fun j hj => ?_, fun K => ?_⟩⟩
      · have := a6'.2 j hj
        rw [Nat.zero_add] at this; exact this
      · show L_X12_shortest_128 E K (rr w 163) (nI D) (g + 1) (nI (i + 1)) (Hw E w I1 L1 Q) = _
        rw [st, zn_t p]
    · left
      refine ⟨(I2, L2), ⟨w1, w2, fun k hk => ?_, a5, fun d h1 h2 => ?_⟩, ?_⟩
      · rw [← z3 k hk]
        exact mX_c (fun j h1 h2 => a4 j (by omega))
      · by_cases e : d = i + 1
        · rw [e]; exact p
        · exact z5 d h1 (by omega)
      · funext K
        show L_X12_shortest_128 E K (rr w 163) (nI D) (g + 1) (nI (i + 1)) (Hw E w I1 L1 Q) = _
        rw [st, zn_f p]
  · rintro g ⟨I1, L1⟩ ⟨z1, z2, z3, z4, z5⟩
    dsimp only at *
    refine ⟨I1, L1, z1, z2, z4, Or.inr ⟨fun d h1 h2 => z5 d h1 (by omega), fun K => ?_⟩⟩
    show L_X12_shortest_128 E K (rr w 163) (nI D) (g + 1) (nI (D + 1)) (Hw E w I1 L1 Q) = _
    rw [L_X12_shortest_128, if_pos (by rw [nI_ltI (by omega) (by omega)]; omega)]
theorem c_sh97 {D s0 : Nat} (hG : 100000 ≤ E.2.2.1) (hg : g0 < c 0) (hW : ∀ k, b32 W k → k < c 4) (h : FW I L Q T c y W g0) (hm : Mem I T c y W g0) (hD : D ≤ 3) (hs : s0 < 4 * c 1) (hX : ∀ k, k < c 4 → b32 W k → cSt L 0 k = sg s0) : ∃ I' L' Q', FW I' L' Q' T c y W g0 ∧ FiF I I' L L' Q Q' ∧ ((∃ d f, isSh T c y W g0 D s0 d f ∧ (∀ i, i < d → I' 64 i = nI (f i)) ∧ ∀ K, L_X11_shortest_97 E K (rr w 136) (nI D) E.2.2.1 1 (Hw E w I L Q) = K (nI d) (Hw E w I' L' Q')) ∨ (noSh T c y W g0 D s0 ∧ ∀ K, L_X11_shortest_97 E K (rr w 136) (nI D) E.2.2.1 1 (Hw E w I L Q) = rtI (-1) (Hw E w I' L' Q'))) := by
  refine lpE (ρ := (Int32 → Hp → Rs) → Rs) (σ := (Nat → Nat → Int32) × (Nat → Nat → Int64) × (Nat → Nat → Option Nat)) (Lp := fun g i s K => L_X11_shortest_97 E K (rr w 136) (nI D) g (nI (i + 1)) (Hw E w s.1 s.2.1 s.2.2)) (Iv := fun i s => FW s.1 s.2.1 s.2.2 T c y W g0 ∧ FiF I s.1 L s.2.1 Q s.2.2 ∧ Mem s.1 T c y W g0 ∧ (∀ k, k < c 4 → b32 W k → cSt s.2.1 0 k = sg s0) ∧ ∀ d, 1 ≤ d → d < i + 1 → ¬ okS T c y W g0 d (fun _ => sg s0)) (Post := fun o => ∃ I' L' Q', FW I' L' Q' T c y W g0 ∧ FiF I I' L L' Q Q' ∧ ((∃ d f, isSh T c y W g0 D s0 d f ∧ (∀ i, i < d → I' 64 i = nI (f i)) ∧ ∀ K, o K = K (nI d) (Hw E w I' L' Q')) ∨ (noSh T c y W g0 D s0 ∧ ∀ K, o K = rtI (-1) (Hw E w I' L' Q')))) (N := D) ?_ ?_ E.2.2.1 0 (I, L, Q) (by omega) (by omega) ⟨h, FiF.rf, hm, hX, fun d h1 h2 => absurd h1 (by omega)⟩
  · rintro g i ⟨I1, L1, Q1⟩ hi ⟨z1, z2, z3, z4, z5⟩
    dsimp only at *
    have k4 : c 4 ≤ 8 := (z1.1.2.1.1 4 (by decide)).2
    have eS : ∀ k, k < c 4 → b32 W k → (fun k => cSt L1 0 k) k = (fun _ => sg s0) k := fun k hk hb => z4 k hk hb
    obtain ⟨I2, L2, Q2, f, a1, a2, a3, a4, a5, a6, a7⟩ := c_search (E := E) (w := w) (T := T) (c := c) (y := y) (W := W) (g0 := g0) hG hg hW i 4 0 I1 L1 Q1 (by omega) (by omega) z1 z3 (fun k hk hw q hq => by rw [z4 k hk hw] at hq; rw [show q = s0 from hq]; exact hs)
    rw [zb_c (okS_c (i + 1) _ _ eS)] at a7
    have st : ∀ K, L_X11_shortest_97 E K (rr w 136) (nI D) (g + 1) (nI (i + 1)) (Hw E w I1 L1 Q1) = if zb (okS T c y W g0 (i + 1) (fun _ => sg s0)) = 0 then L_X11_shortest_97 E K (rr w 136) (nI D) g (nI (i + 1 + 1)) (Hw E w I2 L2 Q2) else K (nI (i + 1)) (Hw E w I2 L2 Q2) := fun K => by
      rw [L_X11_shortest_97, if_neg (by rw [nI_ltI (by omega) (by omega)]; omega), gf136_6, Option.bind_some, o63, Option.bind_some, show (0 : Int32) = nI 0 from rfl, a7, cI_r, nI_1]
    by_cases p : okS T c y W g0 (i + 1) (fun _ => sg s0)
    · right
      have a6' := a6 ((okS_c (i + 1) _ _ eS).mpr p)
      refine ⟨I2, L2, Q2, a1, z2.tr a3, Or.inl ⟨i + 1, f, ⟨by omega, by omega, p, z5, isF_c (i + 1) _ _ _ eS a6'.1⟩, fun j hj => ?_, fun K => ?_⟩⟩
      · have := a6'.2 j hj
        rw [Nat.zero_add] at this; exact this
      · show L_X11_shortest_97 E K (rr w 136) (nI D) (g + 1) (nI (i + 1)) (Hw E w I1 L1 Q1) = _
        rw [st, zi_t p]
    · left
      refine ⟨(I2, L2, Q2), ⟨a1, z2.tr a3, a2, fun k hk hb => ?_, fun d h1 h2 => ?_⟩, ?_⟩
      · show cSt L2 0 k = _
        rw [← z4 k hk hb]
        unfold cSt; rw [a5 _ (by omega)]
      · by_cases e : d = i + 1
        · rw [e]; exact p
        · exact z5 d h1 (by omega)
      · funext K
        show L_X11_shortest_97 E K (rr w 136) (nI D) (g + 1) (nI (i + 1)) (Hw E w I1 L1 Q1) = _
        rw [st, zi_f p]
  · rintro g ⟨I1, L1, Q1⟩ ⟨z1, z2, z3, z4, z5⟩
    dsimp only at *
    refine ⟨I1, L1, Q1, z1, z2, Or.inr ⟨fun d h1 h2 => z5 d h1 (by omega), fun K => ?_⟩⟩
    show L_X11_shortest_97 E K (rr w 136) (nI D) (g + 1) (nI (D + 1)) (Hw E w I1 L1 Q1) = _
    rw [L_X11_shortest_97, if_pos (by rw [nI_ltI (by omega) (by omega)]; omega)]
theorem op_shortest (hG : 100000 ≤ E.2.2.1) (q : Inv w I L Q) (x1 x2 x3 x4 x5 x6 : Int32) : OpI E w (fun h => F_L_shortest E (rr w 136) x1 x2 x3 x4 x5 x6 (rr w 164) h) (fun h => F_X12_shortest E (rr w 163) x1 x2 x3 x4 x5 x6 h) I L Q := by
  have q0 := q
  obtain ⟨c, qc⟩ := q
  have qc' : InvC w I L Q c := qc
  obtain ⟨q1, q2, q3, q4, q5, q6, q7, q8, q9, q10, q11, q12, q13⟩ := qc
  have hC := q1.1
  have k0 := hC 0 (by decide)
  have k1 := hC 1 (by decide)
  have k4 := hC 4 (by decide)
  simp only [mx] at k0 k1 k4
  have e0 : I 0 0 = nI (c 0) := q2.1.1.trans k0.1
  have e3 : I 0 3 = nI (c 1) := q2.2.1.1.trans k1.1
  have e4 : I 15 2 = nI (c 4) := q3.2.1.1.trans k4.1
  have c0' : c 0 < 2 ^ 31 := by omega
  have c0'' : c 0 < 2 ^ 30 := by omega
  have c1' : c 1 < 2 ^ 28 := by omega
  have U0 : (up2 I 163 3 0) 137 0 = nI (c 0) := k0.1
  have U1 : (up2 I 163 3 0) 137 1 = nI (c 1) := k1.1
  have U4 : (up2 I 163 3 0) 137 4 = nI (c 4) := k4.1
  have i1 : (1 : Int32) = nI 1 := rfl
  by_cases p2 : bl x2 (4 * c 1)
  · by_cases p3 : bl x3 (c 0)
    · by_cases p4 : bd x4 0 200
      · by_cases p1 : bl x1 (2 ^ c 4)
        · by_cases p10 : x1 = 0
          · refine OpI_no (k := 2) (b := 0) q0 (by decide) ?_ ?_
            · show F_L_shortest E (rr w 136) x1 x2 x3 x4 x5 x6 (rr w 164) (Hw E w I L Q) = _
              unfold F_L_shortest F_X11_shortest
              simp only [Option.bind_some, Option.map_some, Option.join, cI_r, cL_r, cV_r, xI_r, xL_r, xV_r, xI_t, xL_t, xV_t, lt_r, rtZ_0, rtZ_1, rtZ_zb, o136, f_needState e3 c1', nd_t p2, f_needPlace e0 c0', nd_t p3, f_needYear, nd_t p4, f_needWalkers e4 k4.2, nd_t p1, if_pos p10, if_true]
            · show F_X12_shortest E (rr w 163) x1 x2 x3 x4 x5 x6 _ = _
              unfold F_X12_shortest
              simp only [Option.bind_some, Option.map_some, Option.join, cI_r, cL_r, cV_r, xI_r, xL_r, xV_r, xI_t, xL_t, xV_t, lt_r, rtZ_0, rtZ_1, rtZ_zb, pf163_3, o163, f_isState U1 c1', zi_t p2, f_isPlace U0 c0'', zn_t p3, f_isYear, zi_t p4, if_pos (show x1 ≤ 0 by rw [p10]; decide), f_fails]
          · have p1' := p1
            obtain ⟨j, ej, hj⟩ := p1'
            have le8 : 2 ^ c 4 ≤ 256 := (p2_8 (c 4) k4.2).2.1
            have j0 : 0 < j := by
              rcases Nat.eq_zero_or_pos j with e | e
              · rw [e] at ej; exact absurd ej p10
              · exact e
            have x1p : ¬ x1 ≤ 0 := by rw [ej]; exact nI_nle j0 (by omega)
            have x1n : ¬ x1 < 0 := by rw [ej]; exact nI_pos (by omega)
            have wr : ¬ (1 : Int32) <<< (nI (c 4) &&& 31) ≤ x1 := fun z => (wkr_ref k4.2 x1n).mp z p1
            by_cases p5 : bd x5 1 3
            · have p2' := p2
              have p3' := p3
              have p4' := p4
              have p5' := p5
              obtain ⟨s0, rfl, hs0⟩ := p2'
              obtain ⟨g, rfl, hg⟩ := p3'
              obtain ⟨y, rfl, -, hy⟩ := p4'
              obtain ⟨D, rfl, hD1, hD⟩ := p5'
              have hW : ∀ k, b32 x1 k → k < c 4 := fun k hk => by
                have k32 := b32_lt hk
                rw [ej, b32_nI k32] at hk
                rcases Nat.lt_or_ge k (c 4) with z | z
                · exact z
                · rw [Nat.testBit_lt_two_pow (Nat.lt_of_lt_of_le hj (Nat.pow_le_pow_right (by decide) z))] at hk
                  cases hk
              have hW0 : ∃ k, k < c 4 ∧ b32 x1 k := Classical.not_not.mp (fun z => p10 (z32.mpr (fun k hk hb => z ⟨k, hW k hb, hb⟩)))
              obtain ⟨I1, L1, a1, a2, a3, a4, a5⟩ := c_sets48 (E := E) (w := w) (W := x1) (y := y) hG qc'.cw hy hW0
              obtain ⟨I2, L2, b1, b2, b3, b4, b5⟩ := c_beginF (E := E) (w := w) (W := x1) (s0 := s0) (g := g) hG a2 hy a3 a4 hW q10.1 hg hs0
              obtain ⟨I3, L3, Q3, d1, d2, d3⟩ := c_sh97 (E := E) (w := w) (D := D) (s0 := s0) hG hg hW b2 b3 hD hs0 b4
              have cf := (a1.tr b1).tr d2.cf
              have zD1 : ¬ nI D < 1 := by rw [i1, nI_ltI (by omega) (by decide)]; omega
              have zD3 : nI D ≤ 3 := by rw [m3]; exact nI_le hD (by decide)
              have hc : ∀ K6 : Int32 → Hp → Rs, K6 = (fun w3 h4 => if ¬ x6 = (-1 : Int32) then if x6 < 0 then rtI (-1 : Int32) h4 else if w3 ≤ x6 then rtI (-1 : Int32) h4 else (gfR h4 (rr w 136) 11 6).bind fun v141 => (gfR h4 v141 1 3).bind fun v144 => (gaI E 0 h4 v144 x6).bind fun v149 => rtI v149 h4 else rtI w3 h4) → F_X11_shortest E (rr w 136) x1 (nI s0) (nI g) (nI y) (nI D) x6 (Hw E w I L Q) = L_X11_shortest_97 E K6 (rr w 136) (nI D) E.2.2.1 1 (Hw E w I2 L2 Q) := fun K6 eK => by
                unfold F_X11_shortest
                simp only [Option.bind_some, Option.map_some, Option.join, cI_r, cL_r, cV_r, xI_r, xL_r, xV_r, xI_t, xL_t, xV_t, lt_r, rtZ_0, rtZ_1, rtZ_zb, o136, f_needState e3 c1', nd_t p2, f_needPlace e0 c0', nd_t p3, f_needYear, nd_t p4, f_needWalkers e4 k4.2, nd_t p1, if_neg p10, if_neg zD1, if_pos zD3, a5, gf136_6, o63, b5, eK]
              -- the class' answer
              obtain ⟨r, hr, hrA⟩ : ∃ r, F_X11_shortest E (rr w 136) x1 (nI s0) (nI g) (nI y) (nI D) x6 (Hw E w I L Q) = rtI r (Hw E w I3 L3 Q3) ∧ ((∃ d f, isSh (I 137) c y x1 g D s0 d f ∧ ((x6 = -1 ∧ r = nI d) ∨ (¬ x6 = -1 ∧ (∃ i, x6 = nI i ∧ i < d ∧ r = nI (f i))) ∨ (¬ x6 = -1 ∧ ¬ bl x6 d ∧ r = -1))) ∨ (noSh (I 137) c y x1 g D s0 ∧ r = -1)) := by
                rw [hc _ rfl]
                rcases d3 with ⟨d, f, s1, s2, s3⟩ | ⟨s1, s3⟩
                · rw [s3]
                  have hd3 : d ≤ 3 := Nat.le_trans s1.2.1 hD
                  by_cases c6 : x6 = -1
                  · exact ⟨nI d, by rw [if_neg (not_not_intro c6)], Or.inl ⟨d, f, s1, Or.inl ⟨c6, rfl⟩⟩⟩
                  · rw [if_pos c6]
                    by_cases c7 : bl x6 d
                    · have c7' := c7
                      obtain ⟨i, rfl, hi⟩ := c7'
                      refine ⟨nI (f i), ?_, Or.inl ⟨d, f, s1, Or.inr (Or.inl ⟨c6, i, rfl, hi, rfl⟩)⟩⟩
                      rw [if_neg (nI_pos (by omega)), if_neg (nI_ge hi (by omega))]
                      simp (disch := omega) only [Option.bind_some, Option.map_some, Option.join, cI_r, cL_r, cV_r, xI_r, xL_r, xV_r, xI_t, xL_t, xV_t, lt_r, rtZ_0, rtZ_1, rtZ_zb, gf136_6, gf63_3, ga64, ix_n, s2 i hi]
                    · refine ⟨-1, ?_, Or.inl ⟨d, f, s1, Or.inr (Or.inr ⟨c6, c7, rfl⟩)⟩⟩
                      by_cases c8 : x6 < 0
                      · rw [if_pos c8]
                      · rw [if_neg c8]
                        obtain ⟨i, hi, rfl⟩ := nI_of c8
                        rw [if_pos (nI_le (Nat.le_of_not_lt (fun z => c7 ⟨i, rfl, z⟩)) hi)]
                · exact ⟨-1, by rw [s3], Or.inr ⟨s1, rfl⟩⟩
              have mw := MW.of qc' (v := r.toInt64) cf
              obtain ⟨t1, t2, t3⟩ := mw
              have t2' : WfT ((up2 I3 163 3 0) 137) c := by rw [t1]; exact t2
              obtain ⟨I4, L4, h1, h2, h3, h4, h5⟩ := m_lay (E := E) (w := w) (I := up2 I3 163 3 0) (L := up2 L3 164 0 r.toInt64) (Q := Q3) (c := c) (y := y) hG t2' (by rw [t1]; exact t3) hy
              rw [t1] at h4
              generalize eA : up2 (up2 I4 163 35 (nI g)) 163 36 x1 = A
              have A1 : ∀ k, k ≠ 163 → A k = I4 k := fun k hk => by rw [← eA, up2_row _ _ hk, up2_row _ _ hk]
              have A2 : A 163 36 = x1 := by rw [← eA, up2_s]
              have A3 : A 163 35 = nI g := by rw [← eA, up2_i _ _ _ (by decide), up2_s]
              have A4 : ∀ i, i ≠ 35 → i ≠ 36 → A 163 i = I4 163 i := fun i g1 g2 => by rw [← eA, up2_i _ _ _ g2, up2_i _ _ _ g1]
              have lA : Laid A L4 (I 137) c y := Laid_k2 (A4 4 (by decide) (by decide)) (A1 142 (by decide)) rfl rfl h4
              obtain ⟨L5, u1, u2, u3⟩ := m_sh89 (E := E) (w := w) (I := A) (L := L4) (Q := Q3) (s0 := s0) hG (by omega)
              have T4 : I4 137 = I 137 := by rw [h1 137 (by decide) (by decide) (by decide)]; exact t1
              obtain ⟨I6, L6, v1, v2, v3, v4⟩ := m_sh128 (E := E) (w := w) (I := A) (L := L5) (Q := Q3) (T := I 137) (c := c) (y := y) (W := x1) (g0 := g) (D := D) (s0 := s0) hG q1 hy (by rw [A1 137 (by decide)]; exact T4) (Laid_k rfl rfl (u1 140 (by decide)) (u1 141 (by decide)) lA) A2 A3 hD hs0 u2
              have mf : MF2 (up2 I3 163 3 0) I6 (up2 L3 164 0 r.toInt64) L6 := ⟨fun k hk => by rw [v1 k (by omega) (by omega), A1 k (by omega), h1 k (by omega) (by omega) (by omega)], fun i g1 g2 g3 => by rw [v1 163 (by decide) (by decide), A4 i g2 g3, h2 i g1], fun k hk => by rw [v2 k (by unfold Tmp; omega) (by omega), u1 k (by omega), h3 k (by omega)]⟩
              have hm : ∀ K6 : Int32 → Hp → Rs, K6 = (fun w3 h4 => if ¬ x6 = (-1 : Int32) then cI (F_X12_within E ((x6).toInt64) (0 : Int64) (((w3 - (1 : Int32))).toInt64) h4) fun v168 h168 => if v168 = 0 then rtI (-1 : Int32) h168 else (gfR h168 (rr w 163) 12 34).bind fun v175 => (gaI E 0 h168 v175 x6).bind fun v180 => rtI v180 h168 else rtI w3 h4) → F_X12_shortest E (rr w 163) x1 (nI s0) (nI g) (nI y) (nI D) x6 (Hw E w I3 (up2 L3 164 0 r.toInt64) Q3) = L_X12_shortest_128 E K6 (rr w 163) (nI D) E.2.2.1 1 (Hw E w A L5 Q3) := fun K6 eK => by
                have W0 : (up2 I3 163 3 0) 137 0 = nI (c 0) := by rw [t1]; exact k0.1
                have W1 : (up2 I3 163 3 0) 137 1 = nI (c 1) := by rw [t1]; exact k1.1
                have W4 : (up2 I3 163 3 0) 137 4 = nI (c 4) := by rw [t1]; exact k4.1
                unfold F_X12_shortest
                simp only [Option.bind_some, Option.map_some, Option.join, cI_r, cL_r, cV_r, xI_r, xL_r, xV_r, xI_t, xL_t, xV_t, lt_r, rtZ_0, rtZ_1, rtZ_zb, pf163_3, o163, f_isState W1 c1', zi_t p2, f_isPlace W0 c0'', zn_t p3, f_isYear, zi_t p4, if_neg x1p, gf163_0, ga137, show ix 4 2988 = some 4 from rfl, W4, if_neg wr, f_wi2 1 3 (by decide) (by decide) (show (nI 1).toInt64 = 1 by rfl) (show (nI 3).toInt64 = 3 by rfl), zn_t p5, h5, pf163_35, pf163_36, eA, u3, eK]
              have hmr : F_X12_shortest E (rr w 163) x1 (nI s0) (nI g) (nI y) (nI D) x6 (Hw E w I3 (up2 L3 164 0 r.toInt64) Q3) = rtI r (Hw E w I6 L6 Q3) := by
                rw [hm _ rfl]
                rcases v4 with ⟨d, f, s1, s2, s3⟩ | ⟨s1, s3⟩
                · rw [s3]
                  have hd3 : d ≤ 3 := Nat.le_trans s1.2.1 hD
                  have hd1 := s1.1
                  rcases hrA with ⟨d', f', s1', s2'⟩ | ⟨s1', -⟩
                  · obtain ⟨e1, e2⟩ := isSh_uq s1 s1'
                    subst e1
                    have wi : F_X12_within E x6.toInt64 0 (nI d - 1).toInt64 (Hw E w I6 L6 Q3) = rtI (zb (bl x6 d)) (Hw E w I6 L6 Q3) := by
                      rw [i1, nI_sub' hd1, f_wi (d - 1) (by omega) rfl]
                      congr 1
                      refine zb_c ⟨?_, ?_⟩
                      · rintro ⟨n, e, -, h⟩; exact ⟨n, e, by omega⟩
                      · rintro ⟨n, e, h⟩; exact ⟨n, e, by omega, by omega⟩
                    rcases s2' with ⟨c6, er⟩ | ⟨c6, i, ei, hi, er⟩ | ⟨c6, c7, er⟩
                    · rw [if_neg (not_not_intro c6), er]
                    · rw [if_pos c6, wi, cI_r, zi_t ⟨i, ei, hi⟩, er, ei]
                      simp (disch := omega) only [Option.bind_some, Option.map_some, Option.join, cI_r, cL_r, cV_r, xI_r, xL_r, xV_r, xI_t, xL_t, xV_t, lt_r, rtZ_0, rtZ_1, rtZ_zb, gf163_34, ga159, ix_n, s2 i hi, e2 i hi]
                    · rw [if_pos c6, wi, cI_r, zi_f c7, er]
                  · exact absurd s1.2.2.1 (s1' d s1.1 s1.2.1)
                · rw [s3]
                  rcases hrA with ⟨d', f', s1', -⟩ | ⟨-, er⟩
                  · exact absurd s1'.2.2.1 (s1 d' s1'.1 s1'.2.1)
                  · rw [er]
              refine OpI_ok2 (v := r) qc' cf d1.1 mf ⟨by rw [v1 137 (by decide) (by decide), A1 137 (by decide)]; exact T4, q1, Or.inr ⟨y, hy, v3⟩⟩ ?_ hmr
              show F_L_shortest E (rr w 136) x1 (nI s0) (nI g) (nI y) (nI D) x6 (rr w 164) (Hw E w I L Q) = _
              unfold F_L_shortest
              simp only [Option.bind_some, Option.map_some, Option.join, cI_r, cL_r, cV_r, xI_r, xL_r, xV_r, xI_t, xL_t, xV_t, lt_r, rtZ_0, rtZ_1, rtZ_zb, o136, hr, pa164, ix01]
            · refine OpI_no (k := 2) (b := 0) q0 (by decide) ?_ ?_
              · show F_L_shortest E (rr w 136) x1 x2 x3 x4 x5 x6 (rr w 164) (Hw E w I L Q) = _
                unfold F_L_shortest F_X11_shortest
                by_cases c1 : x5 < 1
                · simp only [Option.bind_some, Option.map_some, Option.join, cI_r, cL_r, cV_r, xI_r, xL_r, xV_r, xI_t, xL_t, xV_t, lt_r, rtZ_0, rtZ_1, rtZ_zb, o136, f_needState e3 c1', nd_t p2, f_needPlace e0 c0', nd_t p3, f_needYear, nd_t p4, f_needWalkers e4 k4.2, nd_t p1, if_neg p10, if_pos c1, if_true]
                · have c2 : ¬ x5 ≤ 3 := fun z => by
                    have n0 : ¬ x5 < 0 := fun z' => c1 (Int32.lt_trans z' (by decide))
                    obtain ⟨n, hn, rfl⟩ := nI_of n0
                    rw [i1, nI_ltI hn (by decide)] at c1
                    rw [m3, nI_leI hn (by decide)] at z
                    exact p5 ⟨n, rfl, by omega, z⟩
                  simp only [Option.bind_some, Option.map_some, Option.join, cI_r, cL_r, cV_r, xI_r, xL_r, xV_r, xI_t, xL_t, xV_t, lt_r, rtZ_0, rtZ_1, rtZ_zb, o136, f_needState e3 c1', nd_t p2, f_needPlace e0 c0', nd_t p3, f_needYear, nd_t p4, f_needWalkers e4 k4.2, nd_t p1, if_neg p10, if_neg c1, if_neg c2, if_true]
              · show F_X12_shortest E (rr w 163) x1 x2 x3 x4 x5 x6 _ = _
                unfold F_X12_shortest
                simp only [Option.bind_some, Option.map_some, Option.join, cI_r, cL_r, cV_r, xI_r, xL_r, xV_r, xI_t, xL_t, xV_t, lt_r, rtZ_0, rtZ_1, rtZ_zb, pf163_3, o163, f_isState U1 c1', zi_t p2, f_isPlace U0 c0'', zn_t p3, f_isYear, zi_t p4, if_neg x1p, gf163_0, ga137, show ix 4 2988 = some 4 from rfl, U4, if_neg wr, f_wi2 1 3 (by decide) (by decide) (show (nI 1).toInt64 = 1 by rfl) (show (nI 3).toInt64 = 3 by rfl), zn_f p5, f_fails]
        · refine OpI_no (k := 2) (b := 0) q0 (by decide) ?_ ?_
          · show F_L_shortest E (rr w 136) x1 x2 x3 x4 x5 x6 (rr w 164) (Hw E w I L Q) = _
            unfold F_L_shortest F_X11_shortest
            simp only [Option.bind_some, Option.map_some, Option.join, cI_r, cL_r, cV_r, xI_r, xL_r, xV_r, xI_t, xL_t, xV_t, lt_r, rtZ_0, rtZ_1, rtZ_zb, o136, f_needState e3 c1', nd_t p2, f_needPlace e0 c0', nd_t p3, f_needYear, nd_t p4, f_needWalkers e4 k4.2, nd_f p1, if_true]
          · show F_X12_shortest E (rr w 163) x1 x2 x3 x4 x5 x6 _ = _
            unfold F_X12_shortest
            by_cases c1 : x1 ≤ 0
            · simp only [Option.bind_some, Option.map_some, Option.join, cI_r, cL_r, cV_r, xI_r, xL_r, xV_r, xI_t, xL_t, xV_t, lt_r, rtZ_0, rtZ_1, rtZ_zb, pf163_3, o163, f_isState U1 c1', zi_t p2, f_isPlace U0 c0'', zn_t p3, f_isYear, zi_t p4, if_pos c1, f_fails]
            · have n0 : ¬ x1 < 0 := fun z => c1 (Int32.le_of_lt z)
              simp only [Option.bind_some, Option.map_some, Option.join, cI_r, cL_r, cV_r, xI_r, xL_r, xV_r, xI_t, xL_t, xV_t, lt_r, rtZ_0, rtZ_1, rtZ_zb, pf163_3, o163, f_isState U1 c1', zi_t p2, f_isPlace U0 c0'', zn_t p3, f_isYear, zi_t p4, if_neg c1, gf163_0, ga137, show ix 4 2988 = some 4 from rfl, U4, if_pos ((wkr_ref k4.2 n0).mpr p1), f_fails]
      · refine OpI_no (k := 2) (b := 0) q0 (by decide) ?_ ?_
        · show F_L_shortest E (rr w 136) x1 x2 x3 x4 x5 x6 (rr w 164) (Hw E w I L Q) = _
          unfold F_L_shortest F_X11_shortest
          simp only [Option.bind_some, Option.map_some, Option.join, cI_r, cL_r, cV_r, xI_r, xL_r, xV_r, xI_t, xL_t, xV_t, lt_r, rtZ_0, rtZ_1, rtZ_zb, o136, f_needState e3 c1', nd_t p2, f_needPlace e0 c0', nd_t p3, f_needYear, nd_f p4, if_true]
        · show F_X12_shortest E (rr w 163) x1 x2 x3 x4 x5 x6 _ = _
          unfold F_X12_shortest
          simp only [Option.bind_some, Option.map_some, Option.join, cI_r, cL_r, cV_r, xI_r, xL_r, xV_r, xI_t, xL_t, xV_t, lt_r, rtZ_0, rtZ_1, rtZ_zb, pf163_3, o163, f_isState U1 c1', zi_t p2, f_isPlace U0 c0'', zn_t p3, f_isYear, zi_f p4, f_fails]
    · refine OpI_no (k := 1) (b := 0) q0 (by decide) ?_ ?_
      · show F_L_shortest E (rr w 136) x1 x2 x3 x4 x5 x6 (rr w 164) (Hw E w I L Q) = _
        unfold F_L_shortest F_X11_shortest
        simp only [Option.bind_some, Option.map_some, Option.join, cI_r, cL_r, cV_r, xI_r, xL_r, xV_r, xI_t, xL_t, xV_t, lt_r, rtZ_0, rtZ_1, rtZ_zb, o136, f_needState e3 c1', nd_t p2, f_needPlace e0 c0', nd_f p3, String.reduceEq, if_false, if_true]
      · show F_X12_shortest E (rr w 163) x1 x2 x3 x4 x5 x6 _ = _
        unfold F_X12_shortest
        simp only [Option.bind_some, Option.map_some, Option.join, cI_r, cL_r, cV_r, xI_r, xL_r, xV_r, xI_t, xL_t, xV_t, lt_r, rtZ_0, rtZ_1, rtZ_zb, pf163_3, o163, f_isState U1 c1', zi_t p2, f_isPlace U0 c0'', zn_f p3, f_fails]
  · refine OpI_no (k := 1) (b := 0) q0 (by decide) ?_ ?_
    · show F_L_shortest E (rr w 136) x1 x2 x3 x4 x5 x6 (rr w 164) (Hw E w I L Q) = _
      unfold F_L_shortest F_X11_shortest
      simp only [Option.bind_some, Option.map_some, Option.join, cI_r, cL_r, cV_r, xI_r, xL_r, xV_r, xI_t, xL_t, xV_t, lt_r, rtZ_0, rtZ_1, rtZ_zb, o136, f_needState e3 c1', nd_f p2, String.reduceEq, if_false, if_true]
    · show F_X12_shortest E (rr w 163) x1 x2 x3 x4 x5 x6 _ = _
      unfold F_X12_shortest
      simp only [Option.bind_some, Option.map_some, Option.join, cI_r, cL_r, cV_r, xI_r, xL_r, xV_r, xI_t, xL_t, xV_t, lt_r, rtZ_0, rtZ_1, rtZ_zb, pf163_3, o163, f_isState U1 c1', zi_f p2, f_fails]
end
