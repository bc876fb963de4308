/-! telling: the reference reads a word -/
theorem en_on : ∀ v, v < 21 → enc 0 (nI v) (-1) = wOf 1 v 15 := by decide +kernel
theorem en_far : ∀ v, v < 21 → enc 3 (nI v) (-1) = wOf 4 v 15 := by decide +kernel
theorem en_nm : ∀ a, a < 12 → enc 1 0 (nI a) = wOf 2 0 a ∧ enc 2 0 (nI a) = wOf 3 0 a ∧ enc 4 0 (nI a) = wOf 5 0 a ∧ enc 5 0 (nI a) = wOf 6 0 a := by decide +kernel
theorem en_1 : enc 6 0 (-1) = wOf 7 0 15 ∧ enc 7 0 (-1) = wOf 8 0 15 ∧ enc 8 0 (-1) = wOf 9 0 15 ∧ enc 8 1 (-1) = wOf 10 0 15 := by decide +kernel
theorem en_nth : ∀ s, s < 2 → ∀ v, v < 21 → enc 9 (nI (2 * v + s)) (-1) = wOf (11 + s) v 15 := by decide +kernel
theorem en_nthA : ∀ s, s < 2 → ∀ v, v < 21 → ∀ a, a < 12 → enc 9 (nI (2 * v + s)) (nI a) = wOf (11 + s) v a := by decide +kernel
def RW (E : Ev) (w : Wo) (L : Nat → Nat → Int64) (Q : Nat → Nat → Option Nat) (B : Nat → Nat) (n : Nat) (I : Nat → Nat → Int32) (res : Nat × Nat × Nat × (Nat → Int32)) (x k : Nat) (R : Nat → Int32) (r : Rs) : Prop := (∃ I' f pos, (f ≠ 0 ∧ f ≤ 4) ∧ res = (f, pos, 0, fun _ => 0) ∧ FL I I' f pos ∧ r = rtV (Hw E w I' L Q)) ∨ (∃ I' p' md' pd' am' R', res = rn B n p' (md', pd', am', x, k, R') ∧ (md' = 6 ∨ (md' = 7 ∧ tkn B n p' ≠ 23)) ∧ TR B n I' p' ∧ GW I I' x k R R' ∧ r = rtV (Hw E w I' L Q))
section
variable {E : Ev} {w : Wo} {I I1 I2 : Nat → Nat → Int32} {L : Nat → Nat → Int64} {Q : Nat → Nat → Option Nat} {B : Nat → Nat} {n : Nat} {S : TSt}
theorem flt_4 {κ x : Nat} (h : x ≠ 0 ∧ x ≤ 4) : flt κ x ≠ 0 ∧ flt κ x ≤ 4 := by unfold flt; split <;> omega
theorem rn_fl {p f : Nat} (hp : p ≤ n) (h0 : ¬ (tkn B n p = 26 ∧ S.1 = 0)) (hf : tkn B n p ≠ 28 → (stp (tkn B n p) (tvl B n p) S).1 = f) (f0 : f ≠ 0) : rn B n p S = (flt (tkn B n p) f, spn B n p, 0, fun _ => 0) := by
  by_cases c : tkn B n p = 28
  · rw [rn_bad hp c]; unfold flt; rw [if_pos c]
  · rw [rn_flt hp c h0 (hf c) f0]; unfold flt; rw [if_neg c]
theorem kpR {x' : Int32} {m pd am x k j : Nat} {R : Nat → Int32} (hj : j < 40) : (kpS x' m pd am x k R).2.2.2.2.2 j = if j = 4 * x + k then x' else R j := by
  show (if j = 4 * x + k ∧ j < 40 then x' else R j) = _
  by_cases e : j = 4 * x + k
  · rw [if_pos ⟨e, hj⟩, if_pos e]
  · rw [if_neg (fun z => e z.1), if_neg e]
theorem GW_R {x k : Nat} {R R1 R' : Nat → Int32} (h : ∀ j, j < 40 → j ≠ 4 * x + k → R1 j = R j) (g : GW I I1 x k R1 R') : GW I I1 x k R R' := by
  obtain ⟨g1, kk, nn, aa, g2, g3, g4⟩ := g
  refine ⟨g1, kk, nn, aa, g2, fun j hj => ?_, g4⟩
  rw [g3 j hj]
  by_cases e : j = 4 * x + k
  · rw [if_pos e, if_pos e]
  · rw [if_neg e, if_neg e, h j hj e]
theorem RW_R {x k : Nat} {R R1 : Nat → Int32} {res : Nat × Nat × Nat × (Nat → Int32)} {r : Rs} (h : ∀ j, j < 40 → j ≠ 4 * x + k → R1 j = R j) (g : RW E w L Q B n I res x k R1 r) : RW E w L Q B n I res x k R r := by
  rcases g with g | ⟨I', p', md', pd', am', R', g1, g2, g3, g4, g5⟩
  · exact Or.inl g
  · exact Or.inr ⟨I', p', md', pd', am', R', g1, g2, g3, GW_R h g4, g5⟩
theorem m_nm {p x k pd am : Nat} {kk nn : Int32} {R : Nat → Int32} (hG : 100000 ≤ E.2.2.1) (hn : n ≤ 200) (hx : x < 10) (hk : k < 4) (h : TR B n I1 p) (hf : MfT I I1) (e145 : I1 145 = I 145) (e : I 145 (3 + x) = nI k) (hw : ∀ a, a < 12 → WfW kk nn (nI a) ∧ enc kk nn (nI a) = wOf pd am a) : ∃ v I2, F_X12_readName E (rr w 163) (Hw E w I1 L Q) = rtI v (Hw E w I2 L Q) ∧ RW E w L Q B n I (rn B n p (4, pd, am, x, k, R)) x k R (F_X12_lays E (rr w 163) (nI x) kk nn v (Hw E w I2 L Q)) := by
  rcases m_readName (E := E) (w := w) (L := L) (Q := Q) hG hn h with ⟨c, I2, b1, b2, b3⟩ | ⟨c, I2, b1, b3⟩
  · refine ⟨_, I2, b3, ?_⟩
    have hw' := hw _ c
    have go : rn B n p (4, pd, am, x, k, R) = rn B n (nxp B n p) (kpS (wOf pd am (tkn B n p)) 6 pd am x k R) := rn_go h.1 (by omega) (by omega) (by
      show tN (tkn B n p) (4, pd, am, x, k, R) = _
      unfold tN
      rw [if_neg (by omega)])
    obtain ⟨I3, d1, d2, d3⟩ := m_lay1 (E := E) (w := w) (I := I) (L := L) (Q := Q) (R := R) (R' := (kpS (wOf pd am (tkn B n p)) 6 pd am x k R).2.2.2.2.2) hx hk b2 (hf.tr b1.mf) (by rw [b1.1 145 (by decide)]; exact e145) e hw'.1 (fun j hj => by rw [kpR hj, hw'.2])
    exact Or.inr ⟨I3, nxp B n p, 6, pd, am, _, go, Or.inl rfl, d1, d2, d3⟩
  · refine ⟨_, I2, b3, Or.inl ⟨I2, _, _, flt_4 (κ := tkn B n p) (x := 2) ⟨by decide, by decide⟩, ?_, hf.fl b1.fl, ?_⟩⟩
    · refine rn_fl h.1 (fun z => absurd (show (4 : Nat) = 0 from z.2) (by decide)) (fun _ => ?_) (by decide)
      show (tN (tkn B n p) (4, pd, am, x, k, R)).1 = 2
      unfold tN
      rw [if_pos (by omega)]
    · exact m_laysF (by rw [b1.2.2.1]; have := flt_4 (κ := tkn B n p) (x := 2) ⟨by decide, by decide⟩; exact fun z => this.1 ((nI_eq (b := 0) (by omega) (by decide)).mp z))
theorem m_nu {p x k d md pd am : Nat} {kk : Int32} {R : Nat → Int32} (hG : 100000 ≤ E.2.2.1) (hn : n ≤ 200) (hx : x < 10) (hk : k < 4) (h : TR B n I1 p) (hf : MfT I I1) (e145 : I1 145 = I 145) (e : I 145 (3 + x) = nI k) (hm : md ≠ 0) (hst : stp (tkn B n p) (tvl B n p) (md, pd, am, x, k, R) = tA d (tkn B n p) (tvl B n p) (md, pd, am, x, k, R)) (hw : ∀ v, 1 ≤ v → v ≤ 20 → WfW kk (nI v) (-1) ∧ enc kk (nI v) (-1) = wOf d v 15) : ∃ v I2, F_X12_readNumber E (rr w 163) (Hw E w I1 L Q) = rtI v (Hw E w I2 L Q) ∧ RW E w L Q B n I (rn B n p (md, pd, am, x, k, R)) x k R (F_X12_lays E (rr w 163) (nI x) kk v (-1) (Hw E w I2 L Q)) := by
  rcases m_readNumber (E := E) (w := w) (L := L) (Q := Q) hG hn h with ⟨⟨c, c1, c2⟩, I2, b1, b2, b3⟩ | ⟨c, I2, r, b1, b3⟩
  · refine ⟨_, I2, b3, ?_⟩
    have hw' := hw _ c1 c2
    have go : rn B n p (md, pd, am, x, k, R) = rn B n (nxp B n p) (kpS (wOf d (tvl B n p) 15) 6 pd am x k R) := rn_go h.1 (by omega) (by omega) (by
      rw [hst]
      unfold tA
      rw [if_pos c, if_neg (by omega)])
    obtain ⟨I3, d1, d2, d3⟩ := m_lay1 (E := E) (w := w) (I := I) (L := L) (Q := Q) (R := R) (R' := (kpS (wOf d (tvl B n p) 15) 6 pd am x k R).2.2.2.2.2) hx hk b2 (hf.tr b1.mf) (by rw [b1.1 145 (by decide)]; exact e145) e hw'.1 (fun j hj => by rw [kpR hj, hw'.2])
    exact Or.inr ⟨I3, nxp B n p, 6, pd, am, _, go, Or.inl rfl, d1, d2, d3⟩
  · have f4 : (if tkn B n p = 24 then 3 else 2) ≠ 0 ∧ (if tkn B n p = 24 then 3 else 2) ≤ 4 := by split <;> decide
    refine ⟨_, I2, b3, Or.inl ⟨I2, _, _, flt_4 (κ := tkn B n p) f4, ?_, hf.fl b1.fl, ?_⟩⟩
    · refine rn_fl h.1 (fun z => absurd z.2 hm) (fun _ => ?_) f4.1
      rw [hst]
      unfold tA
      by_cases c0 : tkn B n p = 24
      · rw [if_pos c0, if_pos c0, if_pos (by omega)]
      · rw [if_neg c0, if_neg c0]
    · exact m_laysF (by rw [b1.2.2.1]; have := flt_4 (κ := tkn B n p) f4; exact fun z => this.1 ((nI_eq (b := 0) (by omega) (by decide)).mp z))
theorem tW_nb {κ v : Nat} (h : ¬ begun κ) : tW κ v S = (2, S) := by
  unfold begun at h
  unfold tW
  rw [if_neg (by omega), if_neg (by omega), if_neg (by omega), if_neg (by omega), if_neg (by omega), if_neg (by omega), if_neg (by omega), if_neg (by omega), if_neg (by omega), if_neg (by omega)]
theorem m_readNth {p x k md pd am : Nat} {R : Nat → Int32} (hG : 100000 ≤ E.2.2.1) (hn : n ≤ 200) (hx : x < 10) (hk : k < 4) (h : TR B n I p) (e : I 145 (3 + x) = nI k) (k24 : tkn B n p = 24) (hst : stp (tkn B n p) (tvl B n p) (md, pd, am, x, k, R) = tW (tkn B n p) (tvl B n p) (md, pd, am, x, k, R)) : RW E w L Q B n I (rn B n p (md, pd, am, x, k, R)) x k R (F_X12_readNth E (rr w 163) (nI x) (Hw E w I L Q)) := by
  unfold F_X12_readNth
  rcases m_readNumber (E := E) (w := w) (L := L) (Q := Q) hG hn h with ⟨⟨c, c1, c2⟩, I1, b1, b2, b3⟩ | ⟨c, I1, r, b1, b3⟩
  · have go : rn B n p (md, pd, am, x, k, R) = rn B n (nxp B n p) (5, 0, tvl B n p, x, k, R) := rn_go h.1 (by omega) (by omega) (by
      rw [hst, k24]
      show (if tvl B n p < 1 ∨ 20 < tvl B n p then _ else _) = _
      rw [if_neg (by omega)])
    rw [go]
    have sn := m_sideNow (E := E) (w := w) (L := L) (Q := Q) hG hn b2
    have b16 := b2.2.2.1
    generalize nxp B n p = p1 at *
    generalize tvl B n p = v at *
    rw [o163, Option.bind_some, b3, cI_r, o163, Option.bind_some, sn, cI_r, gf163_16, b16, Option.bind_some, if_pos rfl]
    by_cases cs : tkn B n p1 = 20 ∨ tkn B n p1 = 21
    · obtain ⟨s, hs, es, ek⟩ : ∃ s, s < 2 ∧ (if tkn B n p1 = 20 then (0 : Int32) else if tkn B n p1 = 21 then 1 else -1) = nI s ∧ tkn B n p1 = 20 + s := by
        rcases cs with z | z
        · exact ⟨0, by decide, by rw [if_pos z]; rfl, z⟩
        · exact ⟨1, by decide, by rw [if_neg (by omega), if_pos z]; rfl, z⟩
      rw [es, if_pos (m1_ne (by omega))]
      have go2 : rn B n p1 (5, 0, v, x, k, R) = rn B n (nxp B n p1) (kpS (wOf (11 + s) v 15) 7 (11 + s) v x k R) := rn_go b2.1 (by omega) (by omega) (by
        show tS (tkn B n p1) (5, 0, v, x, k, R) = _
        rw [ek]
        have : s = 0 ∨ s = 1 := by omega
        rcases this with rfl | rfl <;> rfl)
      rw [go2]
      obtain ⟨I2, d1, d2, d3⟩ := m_nxt (E := E) (w := w) (L := L) (Q := Q) hG hn b2 (by omega)
      generalize nxp B n p1 = p2 at *
      rw [o163, Option.bind_some, d3, cV_r, o163, Option.bind_some]
      have ar : (2 : Int32) * nI v + nI s = nI (2 * v + s) := by rw [m2, pk_mul, nI_add]
      have mf2 : MfT I I2 := b1.mf.tr d1.mf
      have e2 : I2 145 = I 145 := by rw [d1.1 145 (by decide), b1.1 145 (by decide)]
      by_cases c23 : tkn B n p2 = 23
      · rw [m_isWy (j := 23) hG hn d2 (by decide) (by decide) c23, cI_r, if_neg (by decide)]
        have go3 : rn B n p2 (kpS (wOf (11 + s) v 15) 7 (11 + s) v x k R) = rn B n (nxp B n p2) (4, 11 + s, v, x, k, (kpS (wOf (11 + s) v 15) 7 (11 + s) v x k R).2.2.2.2.2) := rn_go d2.1 (by omega) (by omega) (by rw [c23]; rfl)
        rw [go3]
        obtain ⟨I3, f1, f2, f3⟩ := m_nxt (E := E) (w := w) (L := L) (Q := Q) hG hn d2 (by omega)
        obtain ⟨v', I4, g1, g2⟩ := m_nm (E := E) (w := w) (I := I) (L := L) (Q := Q) (kk := 9) (nn := nI (2 * v + s)) (pd := 11 + s) (am := v) (R := (kpS (wOf (11 + s) v 15) 7 (11 + s) v x k R).2.2.2.2.2) hG hn hx hk f2 (mf2.tr f1.mf) (by rw [f1.1 145 (by decide)]; exact e2) e (fun a ha => ⟨Or.inr (Or.inr (Or.inr (Or.inr (Or.inr ⟨rfl, ⟨2 * v + s, rfl, by omega, by omega⟩, Or.inr ⟨a, rfl, ha⟩⟩)))), en_nthA s hs v (by omega) a ha⟩)
        rw [o163, Option.bind_some, f3, cV_r, o163, Option.bind_some, g1, cI_r]
        unfold J_X12_readNth_56
        rw [o163, Option.bind_some, ar]
        have key : ∀ r : Rs, RW E w L Q B n I (rn B n (nxp B n p2) (4, 11 + s, v, x, k, (kpS (wOf (11 + s) v 15) 7 (11 + s) v x k R).2.2.2.2.2)) x k (kpS (wOf (11 + s) v 15) 7 (11 + s) v x k R).2.2.2.2.2 r → RW E w L Q B n I (rn B n (nxp B n p2) (4, 11 + s, v, x, k, (kpS (wOf (11 + s) v 15) 7 (11 + s) v x k R).2.2.2.2.2)) x k R (cV r fun h67 => rtV h67) := fun r hr => by
          refine RW_R (R1 := (kpS (wOf (11 + s) v 15) 7 (11 + s) v x k R).2.2.2.2.2) (fun j hj hne => by rw [kpR hj, if_neg hne]) ?_
          rcases hr with ⟨I', f, pos, z1, z2, z3, z4⟩ | ⟨I', p', md', pd', am', R', z1, z2, z3, z4, z5⟩
          · exact Or.inl ⟨I', f, pos, z1, z2, z3, by rw [z4, cV_r]⟩
          · exact Or.inr ⟨I', p', md', pd', am', R', z1, z2, z3, z4, by rw [z5, cV_r]⟩
        exact key _ g2
      · rw [m_isWn (j := 23) hG hn d2 (by decide) (by decide) c23, cI_r, if_pos rfl]
        unfold J_X12_readNth_56
        obtain ⟨I3, f1, f2, f3⟩ := m_lay1 (E := E) (w := w) (I := I) (L := L) (Q := Q) (R := R) (R' := (kpS (wOf (11 + s) v 15) 7 (11 + s) v x k R).2.2.2.2.2) (kk := 9) (nn := nI (2 * v + s)) (aa := -1) hx hk d2 mf2 e2 e (Or.inr (Or.inr (Or.inr (Or.inr (Or.inr ⟨rfl, ⟨2 * v + s, rfl, by omega, by omega⟩, Or.inl rfl⟩))))) (fun j hj => by rw [kpR hj, en_nth s hs v (by omega)])
        rw [o163, Option.bind_some, ar, f3, cV_r]
        exact Or.inr ⟨I3, p2, 7, 11 + s, v, _, rfl, Or.inr ⟨rfl, c23⟩, f1, f2, rfl⟩
    · have es : (if tkn B n p1 = 20 then (0 : Int32) else if tkn B n p1 = 21 then 1 else -1) = -1 := by rw [if_neg (by omega), if_neg (by omega)]
      rw [es, if_neg (not_not_intro rfl)]
      obtain ⟨I2, d1, d2⟩ := m_wrong (E := E) (w := w) (L := L) (Q := Q) (x := 2) b2
      have d2' : F_X12_wrong E (rr w 163) (2 : Int32) (Hw E w I1 L Q) = _ := d2
      rw [o163, Option.bind_some, d2', cV_r]
      refine Or.inl ⟨I2, _, _, flt_4 (κ := tkn B n p1) (x := 2) ⟨by decide, by decide⟩, ?_, b1.mf.fl d1.fl, rfl⟩
      refine rn_fl b2.1 (fun z => absurd (show (5 : Nat) = 0 from z.2) (by decide)) (fun _ => ?_) (by decide)
      show (tS (tkn B n p1) (5, 0, v, x, k, R)).1 = 2
      unfold tS
      rw [if_neg (by omega), if_neg (by omega)]
  · have f3 : flt (tkn B n p) (if tkn B n p = 24 then 3 else 2) = 3 := by rw [k24]; rfl
    rw [f3] at b1
    have n16 : ¬ I1 163 16 = 0 := by rw [b1.2.2.1]; decide
    rw [o163, Option.bind_some, b3, cI_r, o163, Option.bind_some, m_sideNowF hG n16, cI_r, gf163_16, Option.bind_some, if_neg n16]
    refine Or.inl ⟨I1, 3, _, ⟨by decide, by decide⟩, ?_, b1.fl, rfl⟩
    rw [rn_fl (f := 3) h.1 (fun z => by omega) (fun _ => ?_) (by decide), k24]
    · rfl
    · rw [hst, k24]
      show (if tvl B n p < 1 ∨ 20 < tvl B n p then _ else _ : Nat × TSt).1 = 3
      rw [if_pos (by omega)]
end
