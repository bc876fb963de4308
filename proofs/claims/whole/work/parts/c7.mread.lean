/-! telling: the reference reads words -/
theorem i10 : ((1 : Int32) = 0) = False := eq_false (by decide)
theorem i00 : ((0 : Int32) = 0) = True := eq_self 0
def MfT (I I' : Nat → Nat → Int32) : Prop := (∀ k, k ≠ 145 → k ≠ 163 → I' k = I k) ∧ ∀ i, ¬ (12 ≤ i ∧ i ≤ 17) → I' 163 i = I 163 i
def FLx (I I' : Nat → Nat → Int32) (f pos : Nat) : Prop := (∀ k, k ≠ 163 → I' k = I k) ∧ (∀ i, i ≠ 16 → i ≠ 17 → I' 163 i = I 163 i) ∧ I' 163 16 = nI f ∧ I' 163 17 = nI pos
def FL (I I' : Nat → Nat → Int32) (f pos : Nat) : Prop := MfT I I' ∧ I' 163 16 = nI f ∧ I' 163 17 = nI pos
def begun (κ : Nat) : Prop := κ = 12 ∨ (14 ≤ κ ∧ κ ≤ 21) ∨ κ = 24
def flt (κ x : Nat) : Nat := if κ = 28 then 1 else x
section
variable {E : Ev} {w : Wo} {I I1 I2 : Nat → Nat → Int32} {L : Nat → Nat → Int64} {Q : Nat → Nat → Option Nat} {B : Nat → Nat} {n : Nat} {S : TSt}
theorem MfT.rf : MfT I I := ⟨fun _ _ _ => rfl, fun _ _ => rfl⟩
theorem MfT.tr (h : MfT I I1) (g : MfT I1 I2) : MfT I I2 := ⟨fun k a b => (g.1 k a b).trans (h.1 k a b), fun i a => (g.2 i a).trans (h.2 i a)⟩
theorem Mx5.mf (h : Mx5 I I1) : MfT I I1 := ⟨fun k _ b => h.1 k b, fun i a => h.2 i (by omega)⟩
theorem FLx.fl {f pos : Nat} (h : FLx I I1 f pos) : FL I I1 f pos := ⟨⟨fun k _ b => h.1 k b, fun i a => h.2.1 i (by omega) (by omega)⟩, h.2.2.1, h.2.2.2⟩
theorem MfT.fl {f pos : Nat} (h : MfT I I1) (g : FL I1 I2 f pos) : FL I I2 f pos := ⟨h.tr g.1, g.2.1, g.2.2⟩
theorem flt_0 {κ x : Nat} (h : x ≠ 0) : flt κ x ≠ 0 := by unfold flt; split <;> omega
theorem TR_c {p : Nat} (h : TR B n I p) (h1 : I1 163 = I 163) (h2 : I1 144 = I 144) : TR B n I1 p := by
  obtain ⟨a1, a2, a3, a4, a5, a6, a7, a8⟩ := h
  exact ⟨a1, by rw [h1]; exact a2, by rw [h1]; exact a3, by rw [h1]; exact a4, by rw [h1]; exact a5, by rw [h1]; exact a6, by rw [h1]; exact a7, mBy_k a8 h2⟩
theorem m_nxt {p : Nat} (hG : 100000 ≤ E.2.2.1) (hn : n ≤ 200) (h : TR B n I p) (h28 : tkn B n p ≠ 28) : ∃ I', Mx5 I I' ∧ TR B n I' (nxp B n p) ∧ F_X12_next E (rr w 163) (Hw E w I L Q) = rtV (Hw E w I' L Q) := by
  obtain ⟨a1, a2, a3, a4, a5, a6, a7, a8⟩ := h
  have le := nxp_le (B := B) a1
  obtain ⟨I1, b1, b2, b3, b4, b5, b6⟩ := m_next (E := E) (w := w) (I := I) (L := L) (Q := Q) (B := B) hG hn le (a6 h28) a2 a8
  exact ⟨I1, b1, ⟨le, by rw [b1.2 11 (by omega)]; exact a2, by rw [b1.2 16 (by omega)]; exact a3, b2, b3, b4, b5, mBy_k a8 (b1.1 144 (by decide))⟩, b6⟩
theorem rkd_4 {κ : Nat} (h : κ ≤ 28) : rkd κ = 4 ↔ κ = 28 := by
  unfold rkd
  repeat' split
  all_goals first | (refine ⟨fun z => absurd z (by decide), fun z => ?_⟩; omega) | (refine ⟨fun _ => ?_, fun _ => rfl⟩; omega)
theorem rkd_2 {κ : Nat} (h : κ ≤ 28) : rkd κ = 2 ↔ κ = 24 := by
  unfold rkd
  repeat' split
  all_goals first | (refine ⟨fun z => absurd z (by decide), fun z => ?_⟩; omega) | (refine ⟨fun _ => ?_, fun _ => rfl⟩; omega)
theorem rkd_3 {κ : Nat} (h : κ ≤ 28) : rkd κ = 3 ↔ κ = 25 := by
  unfold rkd
  repeat' split
  all_goals first | (refine ⟨fun z => absurd z (by decide), fun z => ?_⟩; omega) | (refine ⟨fun _ => ?_, fun _ => rfl⟩; omega)
theorem rkd_0 {κ : Nat} (h : κ ≤ 28) : rkd κ = 0 ↔ κ = 26 := by
  unfold rkd
  repeat' split
  all_goals first | (refine ⟨fun z => absurd z (by decide), fun z => ?_⟩; omega) | (refine ⟨fun _ => ?_, fun _ => rfl⟩; omega)
theorem m_wrong {p x : Nat} (h : TR B n I p) : ∃ I', FLx I I' (flt (tkn B n p) x) (spn B n p) ∧ F_X12_wrong E (rr w 163) (nI x) (Hw E w I L Q) = rtV (Hw E w I' L Q) := by
  obtain ⟨a1, a2, a3, a4, a5, a6, a7, a8⟩ := h
  have fr : ∀ v, FLx I (up2 (up2 I 163 16 (nI v)) 163 17 (nI (spn B n p))) v (spn B n p) := fun v => ⟨fun k hk => by rw [up2_row _ _ hk, up2_row _ _ hk], fun i h1 h2 => by rw [up2_i _ _ _ h2, up2_i _ _ _ h1], by rw [up2_i _ _ _ (by decide), up2_s], up2_s _ _ _ _⟩
  have e13 : ∀ v, up2 I 163 16 v 163 13 = nI (spn B n p) := fun v => by rw [up2_i _ _ _ (by decide)]; exact a4
  unfold F_X12_wrong flt
  simp only [Option.bind_some, Option.map_some, Option.join, cI_r, cL_r, cV_r, xI_r, xL_r, xV_r, xI_t, xL_t, xV_t, lt_r, rtZ_0, rtZ_1, rtZ_zb, gf163_16, a3, if_true, gf163_14, a5]
  by_cases c : tkn B n p = 28
  · rw [if_neg (not_not_intro ((rkd_4 tkn_le).mpr c)), if_pos c]
    simp only [Option.bind_some, Option.map_some, Option.join, cI_r, cL_r, cV_r, xI_r, xL_r, xV_r, xI_t, xL_t, xV_t, lt_r, rtZ_0, rtZ_1, rtZ_zb, pf163_16, gf163_13, e13, pf163_17]
    exact ⟨_, fr 1, rfl⟩
  · rw [if_pos (fun z => c ((rkd_4 tkn_le).mp z)), if_neg c]
    simp only [Option.bind_some, Option.map_some, Option.join, cI_r, cL_r, cV_r, xI_r, xL_r, xV_r, xI_t, xL_t, xV_t, lt_r, rtZ_0, rtZ_1, rtZ_zb, pf163_16, gf163_13, e13, pf163_17]
    exact ⟨_, fr x, rfl⟩
theorem m_isWy {p j : Nat} (hG : 100000 ≤ E.2.2.1) (hn : n ≤ 200) (h : TR B n I p) (hj : j < 25) (hj1 : 1 ≤ j) (e : tkn B n p = wn j) : F_X12_isWord E (rr w 163) j (Hw E w I L Q) = rtI 1 (Hw E w I L Q) := by rw [m_isWord hG hn h hj hj1, zb_t e]
theorem m_isWn {p j : Nat} (hG : 100000 ≤ E.2.2.1) (hn : n ≤ 200) (h : TR B n I p) (hj : j < 25) (hj1 : 1 ≤ j) (e : ¬ tkn B n p = wn j) : F_X12_isWord E (rr w 163) j (Hw E w I L Q) = rtI 0 (Hw E w I L Q) := by rw [m_isWord hG hn h hj hj1, zb_f e]
theorem m_isWF {j : Nat} (hG : 100000 ≤ E.2.2.1) (h : ¬ I 163 16 = 0) : F_X12_isWord E (rr w 163) j (Hw E w I L Q) = rtI 0 (Hw E w I L Q) := by
  obtain ⟨G, hGG⟩ : ∃ G, E.2.2.1 = G + 1 := ⟨E.2.2.1 - 1, by omega⟩
  unfold F_X12_isWord
  rw [gf163_16, Option.bind_some, if_pos h, hGG, L_X12_isWord_39, if_pos rfl]
  rfl
theorem m_laysF {a b d e : Int32} (h : ¬ I 163 16 = 0) : F_X12_lays E (rr w 163) a b d e (Hw E w I L Q) = rtV (Hw E w I L Q) := by
  unfold F_X12_lays
  rw [gf163_16, Option.bind_some, if_neg h]
theorem m_nameNow {p : Nat} (hG : 100000 ≤ E.2.2.1) (hn : n ≤ 200) (h : TR B n I p) : F_X12_nameNow E (rr w 163) (Hw E w I L Q) = rtI (if tkn B n p < 12 then nI (tkn B n p) else -1) (Hw E w I L Q) := by
  have iw : ∀ j, j < 25 → 1 ≤ j → F_X12_isWord E (rr w 163) j (Hw E w I L Q) = rtI (zb (tkn B n p = wn j)) (Hw E w I L Q) := fun j h1 h2 => m_isWord hG hn h h1 h2
  unfold F_X12_nameNow
  simp only [Option.bind_some, Option.map_some, Option.join, cI_r, cL_r, cV_r, xI_r, xL_r, xV_r, xI_t, xL_t, xV_t, lt_r, rtZ_0, rtZ_1, rtZ_zb, o163, iw 1 (by decide) (by decide), iw 2 (by decide) (by decide), iw 3 (by decide) (by decide), iw 4 (by decide) (by decide), iw 5 (by decide) (by decide), iw 6 (by decide) (by decide), iw 7 (by decide) (by decide), iw 8 (by decide) (by decide), iw 9 (by decide) (by decide), iw 10 (by decide) (by decide), iw 11 (by decide) (by decide), iw 12 (by decide) (by decide)]
  generalize tkn B n p = κ
  by_cases c0 : κ = 0
  · subst c0; rw [zi_t (show 0 = wn 1 from rfl)]; rfl
  rw [zi_f (show ¬ κ = wn 1 from c0)]
  by_cases c1 : κ = 1
  · subst c1; rw [zi_t (show 1 = wn 2 from rfl)]; rfl
  rw [zi_f (show ¬ κ = wn 2 from c1)]
  by_cases c2 : κ = 2
  · subst c2; rw [zi_t (show 2 = wn 3 from rfl)]; rfl
  rw [zi_f (show ¬ κ = wn 3 from c2)]
  by_cases c3 : κ = 3
  · subst c3; rw [zi_t (show 3 = wn 4 from rfl)]; rfl
  rw [zi_f (show ¬ κ = wn 4 from c3)]
  by_cases c4 : κ = 4
  · subst c4; rw [zi_t (show 4 = wn 5 from rfl)]; rfl
  rw [zi_f (show ¬ κ = wn 5 from c4)]
  by_cases c5 : κ = 5
  · subst c5; rw [zi_t (show 5 = wn 6 from rfl)]; rfl
  rw [zi_f (show ¬ κ = wn 6 from c5)]
  by_cases c6 : κ = 6
  · subst c6; rw [zi_t (show 6 = wn 7 from rfl)]; rfl
  rw [zi_f (show ¬ κ = wn 7 from c6)]
  by_cases c7 : κ = 7
  · subst c7; rw [zi_t (show 7 = wn 8 from rfl)]; rfl
  rw [zi_f (show ¬ κ = wn 8 from c7)]
  by_cases c8 : κ = 8
  · subst c8; rw [zi_t (show 8 = wn 9 from rfl)]; rfl
  rw [zi_f (show ¬ κ = wn 9 from c8)]
  by_cases c9 : κ = 9
  · subst c9; rw [zi_t (show 9 = wn 10 from rfl)]; rfl
  rw [zi_f (show ¬ κ = wn 10 from c9)]
  by_cases c10 : κ = 10
  · subst c10; rw [zi_t (show 10 = wn 11 from rfl)]; rfl
  rw [zi_f (show ¬ κ = wn 11 from c10)]
  by_cases c11 : κ = 11
  · subst c11; rw [zi_t (show 11 = wn 12 from rfl)]; rfl
  rw [zi_f (show ¬ κ = wn 12 from c11), if_neg (by omega)]
theorem m_sideNow {p : Nat} (hG : 100000 ≤ E.2.2.1) (hn : n ≤ 200) (h : TR B n I p) : F_X12_sideNow E (rr w 163) (Hw E w I L Q) = rtI (if tkn B n p = 20 then 0 else if tkn B n p = 21 then 1 else -1) (Hw E w I L Q) := by
  have iw : ∀ j, j < 25 → 1 ≤ j → F_X12_isWord E (rr w 163) j (Hw E w I L Q) = rtI (zb (tkn B n p = wn j)) (Hw E w I L Q) := fun j h1 h2 => m_isWord hG hn h h1 h2
  unfold F_X12_sideNow
  simp only [Option.bind_some, Option.map_some, Option.join, cI_r, cL_r, cV_r, xI_r, xL_r, xV_r, xI_t, xL_t, xV_t, lt_r, rtZ_0, rtZ_1, rtZ_zb, o163, iw 13 (by decide) (by decide), iw 14 (by decide) (by decide)]
  by_cases c0 : tkn B n p = 20
  · rw [zi_t (show tkn B n p = wn 13 from c0), if_pos c0]
  · rw [zi_f (show ¬ tkn B n p = wn 13 from c0), if_neg c0]
    by_cases c1 : tkn B n p = 21
    · rw [zi_t (show tkn B n p = wn 14 from c1), if_pos c1]
    · rw [zi_f (show ¬ tkn B n p = wn 14 from c1), if_neg c1]
theorem m_sideNowF (hG : 100000 ≤ E.2.2.1) (h : ¬ I 163 16 = 0) : F_X12_sideNow E (rr w 163) (Hw E w I L Q) = rtI (-1) (Hw E w I L Q) := by
  unfold F_X12_sideNow
  simp only [Option.bind_some, Option.map_some, Option.join, cI_r, cL_r, cV_r, xI_r, xL_r, xV_r, xI_t, xL_t, xV_t, lt_r, rtZ_0, rtZ_1, rtZ_zb, o163, m_isWF hG h, if_true]
theorem m_isBegun {p : Nat} (hG : 100000 ≤ E.2.2.1) (hn : n ≤ 200) (h : TR B n I p) : F_X12_isBegun E (rr w 163) (Hw E w I L Q) = rtI (zb (begun (tkn B n p))) (Hw E w I L Q) := by
  have iw : ∀ j, j < 25 → 1 ≤ j → F_X12_isWord E (rr w 163) j (Hw E w I L Q) = rtI (zb (tkn B n p = wn j)) (Hw E w I L Q) := fun j h1 h2 => m_isWord hG hn h h1 h2
  have sn := m_sideNow (E := E) (w := w) (L := L) (Q := Q) hG hn h
  have h16 := h.2.2.1
  have h14 := h.2.2.2.2.1
  have k2 := rkd_2 (tkn_le (B := B) (n := n) (p := p))
  unfold F_X12_isBegun begun
  simp only [Option.bind_some, Option.map_some, Option.join, cI_r, cL_r, cV_r, xI_r, xL_r, xV_r, xI_t, xL_t, xV_t, lt_r, rtZ_0, rtZ_1, rtZ_zb, o163, iw 15 (by decide) (by decide), iw 16 (by decide) (by decide), iw 17 (by decide) (by decide), iw 18 (by decide) (by decide), iw 19 (by decide) (by decide), iw 20 (by decide) (by decide), iw 21 (by decide) (by decide), sn, gf163_16, h16, gf163_14, h14]
  by_cases c0 : tkn B n p = 12
  · rw [zn_t (show tkn B n p = wn 15 from c0), zb_t (Or.inl c0)]
  rw [zn_f (show ¬ tkn B n p = wn 15 from c0)]
  by_cases c1 : tkn B n p = 14
  · rw [zn_t (show tkn B n p = wn 16 from c1), zb_t (by omega)]
  rw [zn_f (show ¬ tkn B n p = wn 16 from c1)]
  by_cases c2 : tkn B n p = 15
  · rw [zn_t (show tkn B n p = wn 17 from c2), zb_t (by omega)]
  rw [zn_f (show ¬ tkn B n p = wn 17 from c2)]
  by_cases c3 : tkn B n p = 16
  · rw [zn_t (show tkn B n p = wn 18 from c3), zb_t (by omega)]
  rw [zn_f (show ¬ tkn B n p = wn 18 from c3)]
  by_cases c4 : tkn B n p = 17
  · rw [zn_t (show tkn B n p = wn 19 from c4), zb_t (by omega)]
  rw [zn_f (show ¬ tkn B n p = wn 19 from c4)]
  by_cases c5 : tkn B n p = 18
  · rw [zn_t (show tkn B n p = wn 20 from c5), zb_t (by omega)]
  rw [zn_f (show ¬ tkn B n p = wn 20 from c5)]
  by_cases c6 : tkn B n p = 19
  · rw [zn_t (show tkn B n p = wn 21 from c6), zb_t (by omega)]
  rw [zn_f (show ¬ tkn B n p = wn 21 from c6)]
  by_cases c7 : tkn B n p = 20
  · rw [if_pos c7, if_pos (by decide), zb_t (by omega)]
  rw [if_neg c7]
  by_cases c8 : tkn B n p = 21
  · rw [if_pos c8, if_pos (by decide), zb_t (by omega)]
  rw [if_neg c8, if_neg (by decide), if_neg (by decide)]
  by_cases c9 : tkn B n p = 24
  · rw [if_neg (not_not_intro (k2.mpr c9)), zb_t (Or.inr (Or.inr c9))]
  · rw [if_pos (fun z => c9 (k2.mp z)), zb_f (by omega)]
theorem m_readName {p : Nat} (hG : 100000 ≤ E.2.2.1) (hn : n ≤ 200) (h : TR B n I p) : (tkn B n p < 12 ∧ ∃ I', Mx5 I I' ∧ TR B n I' (nxp B n p) ∧ F_X12_readName E (rr w 163) (Hw E w I L Q) = rtI (nI (tkn B n p)) (Hw E w I' L Q)) ∨ (¬ tkn B n p < 12 ∧ ∃ I', FLx I I' (flt (tkn B n p) 2) (spn B n p) ∧ F_X12_readName E (rr w 163) (Hw E w I L Q) = rtI (-1) (Hw E w I' L Q)) := by
  have nn := m_nameNow (E := E) (w := w) (L := L) (Q := Q) hG hn h
  unfold F_X12_readName
  simp only [Option.bind_some, Option.map_some, Option.join, cI_r, cL_r, cV_r, xI_r, xL_r, xV_r, xI_t, xL_t, xV_t, lt_r, rtZ_0, rtZ_1, rtZ_zb, o163, nn]
  by_cases c : tkn B n p < 12
  · left
    obtain ⟨I1, b1, b2, b3⟩ := m_nxt (E := E) (w := w) (L := L) (Q := Q) hG hn h (by omega)
    refine ⟨c, I1, b1, b2, ?_⟩
    rw [if_pos c, if_pos (m1_ne (by omega)), b3, cV_r]
  · right
    obtain ⟨I1, b1, b2⟩ := m_wrong (E := E) (w := w) (L := L) (Q := Q) (x := 2) h
    have b2' : F_X12_wrong E (rr w 163) (2 : Int32) (Hw E w I L Q) = _ := b2
    refine ⟨c, I1, b1, ?_⟩
    rw [if_neg c, if_neg (not_not_intro rfl), b2', cV_r]
theorem m_readNumber {p : Nat} (hG : 100000 ≤ E.2.2.1) (hn : n ≤ 200) (h : TR B n I p) : ((tkn B n p = 24 ∧ 1 ≤ tvl B n p ∧ tvl B n p ≤ 20) ∧ ∃ I', Mx5 I I' ∧ TR B n I' (nxp B n p) ∧ F_X12_readNumber E (rr w 163) (Hw E w I L Q) = rtI (nI (tvl B n p)) (Hw E w I' L Q)) ∨ (¬ (tkn B n p = 24 ∧ 1 ≤ tvl B n p ∧ tvl B n p ≤ 20) ∧ ∃ I' r, FLx I I' (flt (tkn B n p) (if tkn B n p = 24 then 3 else 2)) (spn B n p) ∧ F_X12_readNumber E (rr w 163) (Hw E w I L Q) = rtI r (Hw E w I' L Q)) := by
  have k2 := rkd_2 (tkn_le (B := B) (n := n) (p := p))
  have h14 := h.2.2.2.2.1
  have h16 := h.2.2.1
  unfold F_X12_readNumber
  simp only [Option.bind_some, Option.map_some, Option.join, cI_r, cL_r, cV_r, xI_r, xL_r, xV_r, xI_t, xL_t, xV_t, lt_r, rtZ_0, rtZ_1, rtZ_zb, gf163_14, h14]
  by_cases c : tkn B n p = 24
  · rw [if_pos (k2.mpr c)]
    have h15 := h.2.2.2.2.2.2.1 c
    have v99 := tvl_le h.1 c
    simp only [Option.bind_some, Option.map_some, Option.join, cI_r, cL_r, cV_r, xI_r, xL_r, xV_r, xI_t, xL_t, xV_t, lt_r, rtZ_0, rtZ_1, rtZ_zb, gf163_15, h15, f_wi2 1 20 (by decide) (by decide) (show (nI 1).toInt64 = 1 by rfl) (show (nI 20).toInt64 = 20 by rfl)]
    by_cases c2 : 1 ≤ tvl B n p ∧ tvl B n p ≤ 20
    · left
      obtain ⟨I1, b1, b2, b3⟩ := m_nxt (E := E) (w := w) (L := L) (Q := Q) hG hn h (by omega)
      refine ⟨⟨c, c2⟩, I1, b1, b2, ?_⟩
      rw [zn_t ⟨tvl B n p, rfl, c2.1, c2.2⟩]
      unfold J_X12_readNumber_36
      simp only [Option.bind_some, Option.map_some, Option.join, cI_r, cL_r, cV_r, xI_r, xL_r, xV_r, xI_t, xL_t, xV_t, lt_r, rtZ_0, rtZ_1, rtZ_zb, gf163_15, h15, gf163_16, h16, not_true_eq_false, if_false, o163, b3]
    · right
      obtain ⟨I1, b1, b2⟩ := m_wrong (E := E) (w := w) (L := L) (Q := Q) (x := 3) h
      have b2' : F_X12_wrong E (rr w 163) (3 : Int32) (Hw E w I L Q) = _ := b2
      have e16 : I1 163 16 = nI 3 := by rw [b1.2.2.1]; unfold flt; rw [if_neg (by omega)]
      have e16' : ¬ I1 163 16 = 0 := by rw [e16]; decide
      refine ⟨fun z => c2 z.2, I1, I1 163 15, by rw [if_pos c]; exact b1, ?_⟩
      rw [zn_f (fun ⟨v, e, z⟩ => c2 (by rw [(nI_eq (by omega) (by omega)).mp e]; exact z)), o163, Option.bind_some, b2', cV_r]
      unfold J_X12_readNumber_36
      simp only [Option.bind_some, Option.map_some, Option.join, cI_r, cL_r, cV_r, xI_r, xL_r, xV_r, xI_t, xL_t, xV_t, lt_r, rtZ_0, rtZ_1, rtZ_zb, gf163_15, gf163_16, if_pos e16']
  · right
    rw [if_neg (fun z => c (k2.mp z))]
    obtain ⟨I1, b1, b2⟩ := m_wrong (E := E) (w := w) (L := L) (Q := Q) (x := 2) h
    have b2' : F_X12_wrong E (rr w 163) (2 : Int32) (Hw E w I L Q) = _ := b2
    have f4 : flt (tkn B n p) 2 < 4 ∧ flt (tkn B n p) 2 ≠ 0 := by unfold flt; split <;> omega
    have e16' : ¬ I1 163 16 = 0 := by rw [b1.2.2.1]; exact fun z => f4.2 ((nI_eq (b := 0) (by omega) (by decide)).mp z)
    refine ⟨fun z => c z.1, I1, I1 163 15, by rw [if_neg c]; exact b1, ?_⟩
    rw [o163, Option.bind_some, b2', cV_r]
    unfold J_X12_readNumber_36
    simp only [Option.bind_some, Option.map_some, Option.join, cI_r, cL_r, cV_r, xI_r, xL_r, xV_r, xI_t, xL_t, xV_t, lt_r, rtZ_0, rtZ_1, rtZ_zb, gf163_15, gf163_16, if_pos e16']
/-- what a word leaves behind -/
def GW (I I' : Nat → Nat → Int32) (x k : Nat) (R R' : Nat → Int32) : Prop := MfT I I' ∧ ∃ kk nn aa, WfW kk nn aa ∧ (∀ j, j < 40 → R' j = if j = 4 * x + k then enc kk nn aa else R j) ∧ I' 145 (3 + x) = nI (k + 1) ∧ I' 145 (13 + 16 * x + 4 * k) = kk ∧ I' 145 (14 + 16 * x + 4 * k) = nn ∧ I' 145 (15 + 16 * x + 4 * k) = aa ∧ ∀ i, i ≠ 3 + x → ¬ (13 + 16 * x + 4 * k ≤ i ∧ i < 16 + 16 * x + 4 * k) → I' 145 i = I 145 i
theorem m_lay1 {p x k : Nat} {kk nn aa : Int32} {R R' : Nat → Int32} (hx : x < 10) (hk : k < 4) (h : TR B n I1 p) (hf : MfT I I1) (e145 : I1 145 = I 145) (e : I 145 (3 + x) = nI k) (hw : WfW kk nn aa) (hR : ∀ j, j < 40 → R' j = if j = 4 * x + k then enc kk nn aa else R j) : ∃ I', TR B n I' p ∧ GW I I' x k R R' ∧ F_X12_lays E (rr w 163) (nI x) kk nn aa (Hw E w I1 L Q) = rtV (Hw E w I' L Q) := by
  obtain ⟨I2, b1, b2, b3, b4, b5, b6, b7⟩ := m_lays (E := E) (w := w) (I := I1) (L := L) (Q := Q) (j := x) (k := k) (a := kk) (b := nn) (d := aa) h.2.2.1 hx hk (by rw [e145]; exact e)
  refine ⟨I2, TR_c h (b1 163 (by decide)) (b1 144 (by decide)), ⟨⟨fun j h1 h2 => (b1 j h1).trans (hf.1 j h1 h2), fun i hi => by rw [b1 163 (by decide)]; exact hf.2 i hi⟩, kk, nn, aa, hw, hR, b3, b4, b5, b6, fun i h1 h2 => by rw [b2 i h1 h2, e145]⟩, b7⟩
end
