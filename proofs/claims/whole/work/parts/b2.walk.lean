/-! calls over the walk: what the class, what the reference may change -/
def CF (I I' : Nat → Nat → Int32) (L L' : Nat → Nat → Int64) (Q Q' : Nat → Nat → Option Nat) : Prop := (∀ k, k < 32 ∨ 121 ≤ k → I' k = I k) ∧ (∀ k, k < 32 ∨ 121 ≤ k → L' k = L k) ∧ ∀ k, k ≠ 40 → k ≠ 48 → k ≠ 54 → Q' k = Q k
def CW (I : Nat → Ro) (L : Nat → Nat → Int64) (Q : Nat → Nat → Option Nat) (T : Ro) (c : Nat → Nat) : Prop := I 137 = T ∧ WfT T c ∧ LandR I T c ∧ FolkR (fun j => I (15 + j)) T c ∧ BookR (fun j => I (22 + j)) T c ∧ MapR I L T c ∧ StepsR I L Q ∧ WalkR Q ∧ OddsR Q
def MF (I I' : Nat → Nat → Int32) (L L' : Nat → Nat → Int64) : Prop := (∀ k, k < 140 ∨ k = 144 ∨ k = 160 ∨ k = 161 ∨ 165 ≤ k → I' k = I k) ∧ (∀ i, i ≠ 4 → I' 163 i = I 163 i) ∧ ∀ k, k < 140 ∨ k = 162 ∨ k = 164 → L' k = L k
def MW (I : Nat → Ro) (L : Nat → Nat → Int64) (T : Ro) (c : Nat → Nat) : Prop := I 137 = T ∧ WfT T c ∧ RefR I L T c
/-- how far a saying leads; the states after it -/
def Gon (T : Ro) (c : Nat → Nat) (y k z s0 m r : Nat) : Prop := r ≤ m ∧ (∀ j, j < r → ∃ q, seqW T c y k z s0 (j + 1) q) ∧ (r < m → ∀ q, ¬ seqW T c y k z s0 (r + 1) q)
def endS (T : Ro) (c : Nat → Nat) (y k z s0 m q : Nat) : Prop := (∀ j, j < m → ∃ q, seqW T c y k z s0 (j + 1) q) ∧ seqW T c y k z s0 m q
section
variable {E : Ev} {w : Wo} {I I1 I2 : Nat → Nat → Int32} {L L1 L2 : Nat → Nat → Int64} {Q Q1 Q2 : Nat → Nat → Option Nat} {c : Nat → Nat} {T : Ro} {y : Nat}
theorem CF.tr (h : CF I I1 L L1 Q Q1) (g : CF I1 I2 L1 L2 Q1 Q2) : CF I I2 L L2 Q Q2 := ⟨fun k hk => (g.1 k hk).trans (h.1 k hk), fun k hk => (g.2.1 k hk).trans (h.2.1 k hk), fun k a b d => (g.2.2 k a b d).trans (h.2.2 k a b d)⟩
theorem CF.rf : CF I I L L Q Q := ⟨fun _ _ => rfl, fun _ _ => rfl, fun _ _ _ _ => rfl⟩
theorem MF.tr (h : MF I I1 L L1) (g : MF I1 I2 L1 L2) : MF I I2 L L2 := ⟨fun k hk => (g.1 k hk).trans (h.1 k hk), fun k hk => (g.2.1 k hk).trans (h.2.1 k hk), fun k a => (g.2.2 k a).trans (h.2.2 k a)⟩
theorem MF.rf : MF I I L L := ⟨fun _ _ => rfl, fun _ _ => rfl, fun _ _ => rfl⟩
theorem InvC.cw (q : InvC w I L Q c) : CW I L Q (I 137) c := ⟨rfl, q.1, q.2.1, q.2.2.1, q.2.2.2.1, q.2.2.2.2.1, q.2.2.2.2.2.2.1, q.2.2.2.2.2.2.2.1, q.2.2.2.2.2.2.2.2.1⟩
theorem Gon.uq {k z s0 m r r' : Nat} (h : Gon T c y k z s0 m r) (g : Gon T c y k z s0 m r') : r = r' := gone_uq h.1 h.2.1 h.2.2 g.1 g.2.1 g.2.2
theorem Gon.e {k z s0 m r : Nat} (h : Gon T c y k z s0 m r) {q : Nat} : (r = m ∧ seqW T c y k z s0 m q) ↔ endS T c y k z s0 m q := by
  refine ⟨fun ⟨e, z⟩ => ⟨by rw [← e]; exact h.2.1, z⟩, fun ⟨e, z⟩ => ⟨?_, z⟩⟩
  rcases Nat.lt_or_ge r m with g | g
  · obtain ⟨q, hq⟩ := e r g
    exact absurd hq (h.2.2 g q)
  · have := h.1; omega
theorem endS_lt {k z s0 m q : Nat} (hs : s0 < 4 * c 1) (h : endS T c y k z s0 m q) : q < 4 * c 1 := seqW_lt hs m q h.2
theorem say_n {z : Nat} (q1 : WfT T c) (hz : z < c 5) : ∃ t, T (764 + 173 * z) = nI t ∧ t ≤ 10 := by
  obtain ⟨t, e, -, g⟩ := (q1.2.2.2.2.2.2.1 z hz).2.2.1
  exact ⟨t, e, g⟩
/-- a call that both answer -/
theorem OpI_ok {FL FM : Hp → Rs} {v : Int32} (q : InvC w I L Q c) (cf : CF I I1 L L1 Q Q1) (cw : CW I1 L1 Q1 (I 137) c) (mf : MF (up2 I1 163 3 0) I2 (up2 L1 164 0 v.toInt64) L2) (mw : MW I2 L2 (I 137) c) (h1 : FL (Hw E w I L Q) = rtI 0 (Hw E w I1 (up2 L1 164 0 v.toInt64) Q1)) (h2 : FM (Hw E w I1 (up2 L1 164 0 v.toInt64) Q1) = rtI v (Hw E w I2 L2 Q1)) : OpI E w FL FM I L Q := by
  refine ⟨0, v, I1, I2, up2 L1 164 0 v.toInt64, L2, Q1, Q1, h1, h2, Inv_re q (fun k i h => ?_) (fun k h => ?_) (fun k h1 h2 => cf.2.2 k (by omega) (by omega) (by omega)) ?_ mw.2.2 ?_ cw.2.2.2.2.2.2.2.1 cw.2.2.2.2.2.2.2.2 ?_, ?_, fun _ => ?_⟩
  · unfold kpI at h
    by_cases e : k = 163
    · subst e
      rw [mf.2.1 i (by omega), up2_i _ _ _ (by omega), cf.1 163 (by omega)]
    · rw [mf.1 k (by omega), up2_row _ _ e, cf.1 k (by omega)]
  · unfold kpL at h
    rw [mf.2.2 k (by omega), up2_row _ _ (by omega), cf.2.1 k (by omega)]
  · exact MapR_c (I := I1) (L := L1) (by rw [mf.1 32 (by omega), up2_row _ _ (by decide)]) (by rw [mf.1 38 (by omega), up2_row _ _ (by decide)]) (fun k g1 g2 => by rw [mf.2.2 k (by omega), up2_row _ _ (by omega)]) cw.2.2.2.2.2.1
  · exact StepsR_k (I := I1) (L := L1) (fun k g1 g2 => by rw [mf.1 k (by omega), up2_row _ _ (by omega)]) (fun k g1 g2 => by rw [mf.2.2 k (by omega), up2_row _ _ (by omega)]) cw.2.2.2.2.2.2.1
  · obtain ⟨-, -, -, -, -, -, -, -, -, rf, -⟩ := q
    unfold RefsR at *
    rw [cf.2.2 65 (by decide) (by decide) (by decide), cf.2.2 124 (by decide) (by decide) (by decide)]
    exact rf
  · rw [mf.2.1 3 (by decide), up2_s]
  · rw [mf.2.2 164 (by omega), up2_s]
theorem OpI_no {FL FM : Hp → Rs} {k b : Int32} (q : Inv w I L Q) (hk : k ≠ 0) (h1 : FL (Hw E w I L Q) = rtI k (Hw E w I L Q)) (h2 : FM (Hw E w I L Q) = rtI b (Hw E w (up2 (up2 I 163 3 0) 163 3 k) L Q)) : OpI E w FL FM I L Q :=
  ⟨k, b, I, up2 (up2 I 163 3 0) 163 3 k, L, L, Q, Q, h1, h2, Inv_t (Inv_t q), up2_s _ _ _ _, fun e => absurd e hk⟩
theorem CW.set {I' : Nat → Nat → Int32} {L' : Nat → Nat → Int64} {Q' : Nat → Nat → Option Nat} (h : CW I L Q T c) (cf : CF I I' L L' Q Q') (hm : MapR I' L' T c) (hs : StepsR I' L' Q') (hw : WalkR Q') (ho : OddsR Q') : CW I' L' Q' T c := by
  obtain ⟨h1, h2, h3, h4, h5, -, -, -, -⟩ := h
  exact ⟨(cf.1 137 (by omega)).trans h1, h2, LandR_c (fun j hj => cf.1 j (by omega)) h3, FolkR_c (fun j hj => cf.1 (15 + j) (by omega)) h4, BookR_c (fun j hj => cf.1 (22 + j) (by omega)) h5, hm, hs, hw, ho⟩
theorem c_set {k : Nat} (hG : 100000 ≤ E.2.2.1) (h : CW I L Q T c) (hy : y ≤ 200) (hk : k < c 4) : ∃ I' L', CF I I' L L' Q Q ∧ CW I' L' Q T c ∧ WC I' L' Q T c y k ∧ Gnd I' L' T c y k ∧ (∀ k', k' ≠ k → Gnd I L T c y k' → Gnd I' L' T c y k') ∧ F_X11_setOut E (rr w 136) (nI k) (nI y) (Hw E w I L Q) = rtV (Hw E w I' L' Q) := by
  have h0 := h
  obtain ⟨h1, h2, h3, h4, h5, h6, h7, h8, h9⟩ := h
  subst h1
  obtain ⟨I1, L1, a1, a2, a3, a4, a5, a6, a7, a8⟩ := c_setOut (E := E) (w := w) (I := I) (L := L) (Q := Q) (y := y) (c := c) (k := k) hG h2 h3 h4 h6 hy hk
  have cf : CF I I1 L L1 Q Q := ⟨fun k hk => a1 k (by omega) (by omega) (by omega) (by omega), fun k hk => a4 k (by omega) (by omega), fun _ _ _ _ => rfl⟩
  have st : StepsR I1 L1 Q := StepsR_k (fun k g1 g2 => a1 k (by omega) (by omega) (by omega) (by omega)) (fun k g1 g2 => a4 k (by omega) (by omega)) h7
  have cw := h0.set cf a6.1 st h8 h9
  have f := cw.2.2.2.1.2.1.2 k hk
  refine ⟨I1, L1, cf, cw, ⟨h2, cw.2.2.1, a6, hy, st, hk, a3, f.2.2.1, f.2.2.2.1, f.2.2.2.2⟩, a7, fun k' hk' g n hn => ?_, a8⟩
  have e := a5 (12 * k' + n) (by omega)
  rw [e.1, e.2]
  exact g n hn
theorem c_fol {z k m t s0 : Nat} (hG : 100000 ≤ E.2.2.1) (h : CW I L Q T c) (hw : WC I L Q T c y k) (hg : Gnd I L T c y k) (hz : z < c 5) (ht : T (764 + 173 * z) = nI t) (t10 : t ≤ 10) (hm : m ≤ t) (hs : s0 < 4 * c 1) : ∃ I' L' Q' a r, CF I I' L L' Q Q' ∧ CW I' L' Q' T c ∧ WC I' L' Q' T c y k ∧ (∀ k', Gnd I L T c y k' → Gnd I' L' T c y k') ∧ Q' 40 7 = some a ∧ (a = 43 ∨ a = 45) ∧ Gon T c y k z s0 m r ∧ (∀ q, q < 256 → (bq (L' (a + 1)) q ↔ endS T c y k z s0 m q)) ∧ F_X9_follow E (rr w 40) (nI z) (nI s0) (nI m) (Hw E w I L Q) = rtI (nI r) (Hw E w I' L' Q') := by
  have h0 := h
  obtain ⟨h1, h2, h3, h4, h5, h6, h7, h8, h9⟩ := h
  have k5 : c 5 ≤ 12 := (h2.1 5 (by decide)).2
  obtain ⟨I1, L1, Q1, a, r, ⟨v1, v2, v3, ⟨v4, v5⟩, v6, v7, v8, v9⟩, v10⟩ := c_follow (E := E) (w := w) (I := I) (L := L) (Q := Q) (z := z) (k := k) (m := m) (t := t) (s0 := s0) hG hw hg (h5.1.2 z hz) h8 hz ht t10 hm hs
  have cf : CF I I1 L L1 Q Q1 := ⟨fun k hk => v1.1 k (by omega) (by omega) (by omega) (by omega) (by omega), fun k hk => v1.2.1 k (by omega) (by omega) (by omega) (by omega) (by omega) (by omega), fun k g1 g2 _ => v1.2.2.1 k g1 g2⟩
  have gn : Gon T c y k z s0 m r := ⟨v6, v7, v8⟩
  refine ⟨I1, L1, Q1, a, r, cf, h0.set cf v2.1 v3 v5 ?_, v1.wc hw v2 v3, fun k' g => v1.gnd g, v4, ?_, gn, fun q hq => (v9 q hq).trans gn.e, v10⟩
  · unfold OddsR at *
    rw [v1.2.2.1 54 (by decide) (by decide)]; exact h9
  · rcases v5 with ⟨e, -⟩ | ⟨e, -⟩
    · exact Or.inl (Option.some.inj (v4.symm.trans e))
    · exact Or.inr (Option.some.inj (v4.symm.trans e))
theorem m_go {z k m t s0 : Nat} (hG : 100000 ≤ E.2.2.1) (h : MW I L T c) (hy : y ≤ 200) (hk : k < c 4) (hz : z < c 5) (ht : T (764 + 173 * z) = nI t) (t10 : t ≤ 10) (hm : m ≤ t) (hs : s0 < 4 * c 1) : ∃ I' L' r, MF I I' L L' ∧ MW I' L' T c ∧ Laid I' L' T c y ∧ (∀ k, 153 ≤ k → k < 160 → I' k = I k ∧ L' k = L k) ∧ Gon T c y k z s0 m r ∧ (∀ q, q < 256 → (b256 (L' 151) 0 q ↔ endS T c y k z s0 m q)) ∧ F_X12_goes E (rr w 163) (nI z) (nI k) (nI s0) (nI y) (nI m) (Hw E w I L Q) = rtI (nI r) (Hw E w I' L' Q) := by
  obtain ⟨h1, h2, h3⟩ := h
  subst h1
  have k5 : c 5 ≤ 12 := (h2.1 5 (by decide)).2
  obtain ⟨I1, L1, r, v1, v2, v3, v4, v5, v6, v7, v8, v9⟩ := m_goes (E := E) (w := w) (I := I) (L := L) (Q := Q) (c := c) (y := y) (z := z) (k := k) (m := m) (t := t) (s0 := s0) hG h2 h3 hy hk hz ht t10 hm hs
  have gn : Gon (I 137) c y k z s0 m r := ⟨v5, v6, v7⟩
  exact ⟨I1, L1, r, ⟨fun k hk => v1 k (by omega) (by omega) (by omega), v2, fun k hk => v3 k (by unfold Tmp; omega) (by omega) (by omega) (by omega)⟩, ⟨v1 137 (by decide) (by decide) (by decide), h2, Or.inr ⟨y, hy, v4⟩⟩, v4, fun k g1 g2 => ⟨v1 k (by omega) (by omega) (by omega), v3 k (by unfold Tmp; omega) (by omega) (by omega) (by omega)⟩, gn, fun q hq => (v8 q hq).trans gn.e, v9⟩
end
