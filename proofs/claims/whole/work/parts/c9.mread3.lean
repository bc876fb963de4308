/-! telling: the reference reads a saying -/
section
variable {E : Ev} {w : Wo} {I I1 I2 : Nat → Nat → Int32} {L : Nat → Nat → Int64} {Q : Nat → Nat → Option Nat} {B : Nat → Nat} {n : Nat} {S : TSt}
theorem RW_cV {x k : Nat} {R : Nat → Int32} {res : Nat × Nat × Nat × (Nat → Int32)} {r : Rs} (g : RW E w L Q B n I res x k R r) : RW E w L Q B n I res x k R (cV r fun h => rtV h) := by
  rcases g with ⟨I', f, pos, z1, z2, z3, z4⟩ | ⟨I', p', md', pd', am', R', z1, z2, z3, z4, z5⟩
  · exact Or.inl ⟨I', f, pos, z1, z2, z3, by rw [z4, cV_r]⟩
  · exact Or.inr ⟨I', p', md', pd', am', R', z1, z2, z3, z4, by rw [z5, cV_r]⟩
theorem m_readWord {p x k md pd am : Nat} {R : Nat → Int32} (hG : 100000 ≤ E.2.2.1) (hn : n ≤ 200) (hx : x < 10) (hk : k < 4) (h : TR B n I p) (e : I 145 (3 + x) = nI k) (hne : ¬ (tkn B n p = 26 ∧ md = 0)) (hst : stp (tkn B n p) (tvl B n p) (md, pd, am, x, k, R) = tW (tkn B n p) (tvl B n p) (md, pd, am, x, k, R)) : RW E w L Q B n I (rn B n p (md, pd, am, x, k, R)) x k R (F_X12_readWord E (rr w 163) (nI x) (Hw E w I L Q)) := by
  have sn := m_sideNow (E := E) (w := w) (L := L) (Q := Q) hG hn h
  have bg := m_isBegun (E := E) (w := w) (L := L) (Q := Q) hG hn h
  have le28 := tkn_le (B := B) (n := n) (p := p)
  have h14 := h.2.2.2.2.1
  have iy : ∀ j, j < 25 → 1 ≤ j → tkn B n p = wn j → F_X12_isWord E (rr w 163) j (Hw E w I L Q) = rtI 1 (Hw E w I L Q) := fun j h1 h2 h3 => m_isWy hG hn h h1 h2 h3
  have ino : ∀ j, j < 25 → 1 ≤ j → ¬ tkn B n p = wn j → F_X12_isWord E (rr w 163) j (Hw E w I L Q) = rtI 0 (Hw E w I L Q) := fun j h1 h2 h3 => m_isWn hG hn h h1 h2 h3
  unfold F_X12_readWord
  rw [o163, Option.bind_some, sn, cI_r, o163, Option.bind_some, bg, cI_r]
  by_cases b : begun (tkn B n p)
  · rw [zn_t b, gf163_14, h14, Option.bind_some]
    by_cases k24 : tkn B n p = 24
    · rw [if_neg (not_not_intro ((rkd_2 le28).mpr k24)), o163, Option.bind_some]
      exact RW_cV (m_readNth hG hn hx hk h e k24 hst)
    · rw [if_pos (fun z => k24 ((rkd_2 le28).mp z))]
      have n28 : tkn B n p ≠ 28 := by unfold begun at b; omega
      have n26 : tkn B n p ≠ 26 := by unfold begun at b; omega
      obtain ⟨I1, b1, b2, b3⟩ := m_nxt (E := E) (w := w) (L := L) (Q := Q) hG hn h n28
      have e1 : I1 145 = I 145 := b1.1 145 (by decide)
      have go : ∀ S', tW (tkn B n p) (tvl B n p) (md, pd, am, x, k, R) = (0, S') → rn B n p (md, pd, am, x, k, R) = rn B n (nxp B n p) S' := fun S' hS => rn_go h.1 n28 n26 (hst.trans hS)
      -- a word without more
      have one : ∀ (kk nn : Int32) (d : Nat), WfW kk nn (-1) → enc kk nn (-1) = wOf d 0 15 → tW (tkn B n p) (tvl B n p) (md, pd, am, x, k, R) = (0, kpS (wOf d 0 15) 6 pd 0 x k R) → RW E w L Q B n I (rn B n p (md, pd, am, x, k, R)) x k R (F_X12_lays E (rr w 163) (nI x) kk nn (-1) (Hw E w I1 L Q)) := fun kk nn d h1 h2 h3 => by
        rw [go _ h3]
        obtain ⟨I2, d1, d2, d3⟩ := m_lay1 (E := E) (w := w) (I := I) (L := L) (Q := Q) (R := R) (R' := (kpS (wOf d 0 15) 6 pd 0 x k R).2.2.2.2.2) hx hk b2 b1.mf e1 e h1 (fun j hj => by rw [kpR hj, h2])
        exact Or.inr ⟨I2, nxp B n p, 6, pd, 0, _, rfl, Or.inl rfl, d1, d2, d3⟩
      -- a word with a name
      have nam : ∀ (kk : Int32) (d : Nat), (kk = 1 ∨ kk = 2 ∨ kk = 4 ∨ kk = 5) → (∀ a, a < 12 → enc kk 0 (nI a) = wOf d 0 a) → tW (tkn B n p) (tvl B n p) (md, pd, am, x, k, R) = (0, 4, d, 0, x, k, R) → ∃ v I2, F_X12_readName E (rr w 163) (Hw E w I1 L Q) = rtI v (Hw E w I2 L Q) ∧ RW E w L Q B n I (rn B n p (md, pd, am, x, k, R)) x k R (F_X12_lays E (rr w 163) (nI x) kk 0 v (Hw E w I2 L Q)) := fun kk d h1 h2 h3 => by
        rw [go _ h3]
        exact m_nm hG hn hx hk b2 b1.mf e1 e (fun a ha => ⟨Or.inr (Or.inl ⟨h1, rfl, ⟨a, rfl, ha⟩⟩), h2 a ha⟩)
      by_cases k20 : tkn B n p = 20 ∨ tkn B n p = 21
      · obtain ⟨s, hs, es, ek⟩ : ∃ s, s < 2 ∧ (if tkn B n p = 20 then (0 : Int32) else if tkn B n p = 21 then 1 else -1) = nI s ∧ tkn B n p = 20 + s := by
          rcases k20 with z | z
          · exact ⟨0, by decide, by rw [if_pos z]; rfl, z⟩
          · exact ⟨1, by decide, by rw [if_neg (by omega), if_pos z]; rfl, z⟩
        rw [es, if_neg (m1_ne (by omega)), o163, Option.bind_some, b3, cV_r, o163, Option.bind_some]
        refine RW_cV (one 8 (nI s) (9 + s) ?_ ?_ ?_)
        · exact Or.inr (Or.inr (Or.inr (Or.inr (Or.inl ⟨rfl, ⟨s, rfl, hs⟩, rfl⟩))))
        · have : s = 0 ∨ s = 1 := by omega
          rcases this with rfl | rfl
          · exact en_1.2.2.1
          · exact en_1.2.2.2
        · rw [ek]
          have : s = 0 ∨ s = 1 := by omega
          rcases this with rfl | rfl <;> rfl
      · have es : (if tkn B n p = 20 then (0 : Int32) else if tkn B n p = 21 then 1 else -1) = -1 := by rw [if_neg (by omega), if_neg (by omega)]
        rw [es, if_pos rfl]
        have kk : tkn B n p = 12 ∨ tkn B n p = 14 ∨ tkn B n p = 15 ∨ tkn B n p = 16 ∨ tkn B n p = 17 ∨ tkn B n p = 18 ∨ tkn B n p = 19 := by unfold begun at b; omega
        rcases kk with c | c | c | c | c | c | c
        · rw [o163, Option.bind_some, iy 15 (by decide) (by decide) c, cI_r, if_neg (show ¬ (1 : Int32) = 0 by decide), o163, Option.bind_some, b3, cV_r, o163, Option.bind_some]
          have tw : tW (tkn B n p) (tvl B n p) (md, pd, am, x, k, R) = (0, 2, 0, 0, x, k, R) := by rw [c]; rfl
          by_cases c13 : tkn B n (nxp B n p) = 13
          · rw [m_isWy (j := 22) hG hn b2 (by decide) (by decide) c13, cI_r, if_neg (show ¬ (1 : Int32) = 0 by decide)]
            obtain ⟨I2, d1, d2, d3⟩ := m_nxt (E := E) (w := w) (L := L) (Q := Q) hG hn b2 (by omega)
            have go2 : rn B n (nxp B n p) (2, 0, 0, x, k, R) = rn B n (nxp B n (nxp B n p)) (4, 2, 0, x, k, R) := rn_go b2.1 (by omega) (by omega) (by rw [c13]; rfl)
            obtain ⟨v, I3, g1, g2⟩ := m_nm (E := E) (w := w) (I := I) (L := L) (Q := Q) (kk := 1) (nn := 0) (pd := 2) (am := 0) (R := R) hG hn hx hk d2 (b1.mf.tr d1.mf) (by rw [d1.1 145 (by decide)]; exact e1) e (fun a ha => ⟨Or.inr (Or.inl ⟨Or.inl rfl, rfl, ⟨a, rfl, ha⟩⟩), (en_nm a ha).1⟩)
            rw [go _ tw, go2]
            unfold J_X12_readWord_87 J_X12_readWord_99 J_X12_readWord_113
            simp only [Option.bind_some, Option.map_some, Option.join, cI_r, cL_r, cV_r, xI_r, xL_r, xV_r, xI_t, xL_t, xV_t, lt_r, rtZ_0, rtZ_1, rtZ_zb, o163, d3, i10, if_false, g1]
            exact RW_cV g2
          · rw [m_isWn (j := 22) hG hn b2 (by decide) (by decide) c13, cI_r, if_pos rfl]
            obtain ⟨v, I3, g1, g2⟩ := m_nu (E := E) (w := w) (I := I) (L := L) (Q := Q) (kk := 0) (d := 1) (md := 2) (pd := 0) (am := 0) (R := R) hG hn hx hk b2 b1.mf e1 e (by decide) (by show (if tkn B n (nxp B n p) = 13 then _ else _) = _; rw [if_neg c13]) (fun v h1 h2 => ⟨Or.inl ⟨rfl, ⟨v, rfl, h1, h2⟩, rfl⟩, en_on v (by omega)⟩)
            rw [go _ tw]
            unfold J_X12_readWord_87 J_X12_readWord_99 J_X12_readWord_113
            simp only [Option.bind_some, Option.map_some, Option.join, cI_r, cL_r, cV_r, xI_r, xL_r, xV_r, xI_t, xL_t, xV_t, lt_r, rtZ_0, rtZ_1, rtZ_zb, o163, if_true, g1]
            exact RW_cV g2
        · obtain ⟨v, I2, g1, g2⟩ := nam 2 3 (by decide) (fun a ha => (en_nm a ha).2.1) (by rw [c]; rfl)
          rw [o163, Option.bind_some, ino 15 (by decide) (by decide) (by rw [c]; decide), cI_r, if_pos rfl, o163, Option.bind_some, ino 17 (by decide) (by decide) (by rw [c]; decide), cI_r, if_pos rfl, o163, Option.bind_some, ino 20 (by decide) (by decide) (by rw [c]; decide), cI_r, if_neg (not_not_intro rfl), o163, Option.bind_some, ino 21 (by decide) (by decide) (by rw [c]; decide), cI_r, if_pos rfl, o163, Option.bind_some, iy 16 (by decide) (by decide) c, cI_r, if_neg (show ¬ (1 : Int32) = 0 by decide)]
          unfold J_X12_readWord_248
          simp only [Option.bind_some, Option.map_some, Option.join, cI_r, cL_r, cV_r, xI_r, xL_r, xV_r, xI_t, xL_t, xV_t, lt_r, rtZ_0, rtZ_1, rtZ_zb, o163, b3, g1]
          exact RW_cV g2
        · rw [o163, Option.bind_some, ino 15 (by decide) (by decide) (by rw [c]; decide), cI_r, if_pos rfl, o163, Option.bind_some, iy 17 (by decide) (by decide) c, cI_r, if_neg (show ¬ (1 : Int32) = 0 by decide), o163, Option.bind_some, b3, cV_r, o163, Option.bind_some]
          have tw : tW (tkn B n p) (tvl B n p) (md, pd, am, x, k, R) = (0, 3, 4, 0, x, k, R) := by rw [c]; rfl
          obtain ⟨v, I3, g1, g2⟩ := m_nu (E := E) (w := w) (I := I) (L := L) (Q := Q) (kk := 3) (d := 4) (md := 3) (pd := 4) (am := 0) (R := R) hG hn hx hk b2 b1.mf e1 e (by decide) rfl (fun v h1 h2 => ⟨Or.inr (Or.inr (Or.inl ⟨rfl, ⟨v, rfl, h1, h2⟩, rfl⟩)), en_far v (by omega)⟩)
          rw [go _ tw, g1, cI_r, o163, Option.bind_some]
          exact RW_cV g2
        · obtain ⟨v, I2, g1, g2⟩ := nam 4 5 (by decide) (fun a ha => (en_nm a ha).2.2.1) (by rw [c]; rfl)
          rw [o163, Option.bind_some, ino 15 (by decide) (by decide) (by rw [c]; decide), cI_r, if_pos rfl, o163, Option.bind_some, ino 17 (by decide) (by decide) (by rw [c]; decide), cI_r, if_pos rfl, o163, Option.bind_some, ino 20 (by decide) (by decide) (by rw [c]; decide), cI_r, if_neg (not_not_intro rfl), o163, Option.bind_some, ino 21 (by decide) (by decide) (by rw [c]; decide), cI_r, if_pos rfl, o163, Option.bind_some, ino 16 (by decide) (by decide) (by rw [c]; decide), cI_r, if_pos rfl, o163, Option.bind_some, iy 18 (by decide) (by decide) c, cI_r, if_neg (show ¬ (1 : Int32) = 0 by decide)]
          unfold J_X12_readWord_248
          simp only [Option.bind_some, Option.map_some, Option.join, cI_r, cL_r, cV_r, xI_r, xL_r, xV_r, xI_t, xL_t, xV_t, lt_r, rtZ_0, rtZ_1, rtZ_zb, o163, b3, g1]
          exact RW_cV g2
        · obtain ⟨v, I2, g1, g2⟩ := nam 5 6 (by decide) (fun a ha => (en_nm a ha).2.2.2) (by rw [c]; rfl)
          rw [o163, Option.bind_some, ino 15 (by decide) (by decide) (by rw [c]; decide), cI_r, if_pos rfl, o163, Option.bind_some, ino 17 (by decide) (by decide) (by rw [c]; decide), cI_r, if_pos rfl, o163, Option.bind_some, ino 20 (by decide) (by decide) (by rw [c]; decide), cI_r, if_neg (not_not_intro rfl), o163, Option.bind_some, ino 21 (by decide) (by decide) (by rw [c]; decide), cI_r, if_pos rfl, o163, Option.bind_some, ino 16 (by decide) (by decide) (by rw [c]; decide), cI_r, if_pos rfl, o163, Option.bind_some, ino 18 (by decide) (by decide) (by rw [c]; decide), cI_r, if_pos rfl]
          unfold J_X12_readWord_248
          simp only [Option.bind_some, Option.map_some, Option.join, cI_r, cL_r, cV_r, xI_r, xL_r, xV_r, xI_t, xL_t, xV_t, lt_r, rtZ_0, rtZ_1, rtZ_zb, o163, b3, g1]
          exact RW_cV g2
        · rw [o163, Option.bind_some, ino 15 (by decide) (by decide) (by rw [c]; decide), cI_r, if_pos rfl, o163, Option.bind_some, ino 17 (by decide) (by decide) (by rw [c]; decide), cI_r, if_pos rfl, o163, Option.bind_some, iy 20 (by decide) (by decide) c, cI_r, if_pos (show ¬ (1 : Int32) = 0 by decide)]
          unfold J_X12_readWord_186 J_X12_readWord_203
          simp only [Option.bind_some, Option.map_some, Option.join, cI_r, cL_r, cV_r, xI_r, xL_r, xV_r, xI_t, xL_t, xV_t, lt_r, rtZ_0, rtZ_1, rtZ_zb, o163, iy 20 (by decide) (by decide) c, i10, if_false, b3]
          exact RW_cV (one 6 0 7 (Or.inr (Or.inr (Or.inr (Or.inl ⟨Or.inl rfl, rfl, rfl⟩)))) en_1.1 (by rw [c]; rfl))
        · rw [o163, Option.bind_some, ino 15 (by decide) (by decide) (by rw [c]; decide), cI_r, if_pos rfl, o163, Option.bind_some, ino 17 (by decide) (by decide) (by rw [c]; decide), cI_r, if_pos rfl, o163, Option.bind_some, ino 20 (by decide) (by decide) (by rw [c]; decide), cI_r, if_neg (not_not_intro rfl), o163, Option.bind_some, iy 21 (by decide) (by decide) c, cI_r, if_neg (show ¬ (1 : Int32) = 0 by decide)]
          unfold J_X12_readWord_186 J_X12_readWord_203
          simp only [Option.bind_some, Option.map_some, Option.join, cI_r, cL_r, cV_r, xI_r, xL_r, xV_r, xI_t, xL_t, xV_t, lt_r, rtZ_0, rtZ_1, rtZ_zb, o163, ino 20 (by decide) (by decide) (by rw [c]; decide), if_true, b3]
          exact RW_cV (one 7 0 8 (Or.inr (Or.inr (Or.inr (Or.inl ⟨Or.inr rfl, rfl, rfl⟩)))) en_1.2.1 (by rw [c]; rfl))
  · rw [zn_f b, o163, Option.bind_some]
    obtain ⟨I1, b1, b2⟩ := m_wrong (E := E) (w := w) (L := L) (Q := Q) (x := 2) h
    have b2' : F_X12_wrong E (rr w 163) (2 : Int32) (Hw E w I L Q) = _ := b2
    rw [b2', cV_r]
    refine Or.inl ⟨I1, _, _, flt_4 (κ := tkn B n p) (x := 2) ⟨by decide, by decide⟩, ?_, b1.fl, rfl⟩
    exact rn_fl h.1 hne (fun _ => by rw [hst, tW_nb b]) (by decide)
/-- what a saying leaves behind -/
def SayW (I : Nat → Nat → Int32) (R : Nat → Int32) (x m : Nat) : Prop := I 145 (3 + x) = nI m ∧ ∀ i, i < m → WfW (I 145 (13 + 16 * x + 4 * i)) (I 145 (14 + 16 * x + 4 * i)) (I 145 (15 + 16 * x + 4 * i)) ∧ R (4 * x + i) = enc (I 145 (13 + 16 * x + 4 * i)) (I 145 (14 + 16 * x + 4 * i)) (I 145 (15 + 16 * x + 4 * i))
def SayF (I I' : Nat → Nat → Int32) (R R' : Nat → Int32) (x m : Nat) : Prop := MfT I I' ∧ (∀ i, i ≠ 3 + x → ¬ (13 + 16 * x ≤ i ∧ i < 29 + 16 * x) → I' 145 i = I 145 i) ∧ ∀ j, j < 40 → ¬ (4 * x ≤ j ∧ j < 4 * x + m) → R' j = R j
def SR (E : Ev) (w : Wo) (L : Nat → Nat → Int64) (Q : Nat → Nat → Option Nat) (B : Nat → Nat) (n : Nat) (I : Nat → Nat → Int32) (R0 : Nat → Int32) (x : Nat) (res : Nat × Nat × Nat × (Nat → Int32)) (r : Rs) : Prop := (∃ I' f pos, (f ≠ 0 ∧ f ≤ 4) ∧ res = (f, pos, 0, fun _ => 0) ∧ FL I I' f pos ∧ r = rtV (Hw E w I' L Q)) ∨ (∃ I' p' am' R' m, (1 ≤ m ∧ m ≤ 4 ∧ x < 10) ∧ res = rn B n p' (0, 0, am', x + 1, 0, R') ∧ TR B n I' p' ∧ SayW I' R' x m ∧ SayF I I' R0 R' x m ∧ r = rtV (Hw E w I' L Q))
theorem Say_add {I0 I3 : Nat → Nat → Int32} {x k : Nat} {R0 R R' : Nat → Int32} (hx : x < 10) (hk : k < 4) (ho : SayW I1 R x k) (hf : SayF I0 I1 R0 R x k) (e : I2 145 = I1 145) (mf : MfT I1 I2) (g : GW I2 I3 x k R R') : SayW I3 R' x (k + 1) ∧ SayF I0 I3 R0 R' x (k + 1) := by
  obtain ⟨g1, kk, nn, aa, g2, g3, g4, g5, g6, g7, g8⟩ := g
  refine ⟨⟨g4, fun i hi => ?_⟩, (hf.1.tr mf).tr g1, fun i h1 h2 => ?_, fun j hj h1 => ?_⟩
  · by_cases c : i = k
    · subst c
      rw [g5, g6, g7, g3 _ (by omega), if_pos rfl]
      exact ⟨g2, rfl⟩
    · have o := ho.2 i (by omega)
      rw [g8 _ (by omega) (by omega), g8 _ (by omega) (by omega), g8 _ (by omega) (by omega), e, g3 _ (by omega), if_neg (by omega)]
      exact o
  · rw [g8 i h1 (by omega), e]; exact hf.2.1 i h1 h2
  · rw [g3 j hj, if_neg (by omega)]; exact hf.2.2 j hj (by omega)
theorem tM_2 {κ v md pd am x i : Nat} {R : Nat → Int32} (hm : md = 6 ∨ (md = 7 ∧ κ ≠ 23)) (h1 : κ ≠ 25) (h2 : κ ≠ 22) : stp κ v (md, pd, am, x, i, R) = (2, md, pd, am, x, i, R) := by
  have : stp κ v (md, pd, am, x, i, R) = tM κ (md, pd, am, x, i, R) := by rcases hm with rfl | ⟨rfl, -⟩ <;> rfl
  rw [this]
  unfold tM
  rw [if_neg h1, if_neg h2]
  by_cases c : κ = 23
  · rw [if_pos c, if_neg]
    rcases hm with rfl | ⟨-, z⟩
    · exact (by decide : ¬ (6 : Nat) = 7)
    · exact absurd c z
  · rw [if_neg c]
theorem m_sayE {x i p md pd am g : Nat} {R0 R : Nat → Int32} {K : Hp → Rs} (hG : 100000 ≤ E.2.2.1) (hn : n ≤ 200) (hx : x < 10) (hi : i ≤ 3) (hm : md = 6 ∨ (md = 7 ∧ tkn B n p ≠ 23)) (h : TR B n I1 p) (ho : SayW I1 R x (i + 1)) (hf : SayF I I1 R0 R x (i + 1)) (c22 : ¬ tkn B n p = 22) (eK : (fun h2 => (gfI h2 (rr w 163) 12 16).bind fun v121 => if v121 = 0 then (gfI h2 (rr w 163) 12 14).bind fun v129 => if ¬ v129 = (3 : Int32) then (isO h2 (rr w 163) 12).bind fun _ => cV (F_X12_wrong E (rr w 163) (2 : Int32) h2) fun h145 => rtV h145 else (isO h2 (rr w 163) 12).bind fun _ => cV (F_X12_next E (rr w 163) h2) fun h137 => rtV h137 else rtV h2) = K) : SR E w L Q B n I R0 x (rn B n p (md, pd, am, x, i, R)) (L_X12_readSaying_77 E K (rr w 163) (nI x) (g + 1) (nI i) (Hw E w I1 L Q)) := by
  have le28 := tkn_le (B := B) (n := n) (p := p)
  have st : L_X12_readSaying_77 E K (rr w 163) (nI x) (g + 1) (nI i) (Hw E w I1 L Q) = K (Hw E w I1 L Q) := by
    rw [L_X12_readSaying_77, o163, Option.bind_some, m_isWn (j := 24) hG hn h (by decide) (by decide) c22, cI_r, if_pos rfl]
  have st2 : K (Hw E w I1 L Q) = if ¬ rkd (tkn B n p) = (3 : Int32) then cV (F_X12_wrong E (rr w 163) (2 : Int32) (Hw E w I1 L Q)) fun h145 => rtV h145 else cV (F_X12_next E (rr w 163) (Hw E w I1 L Q)) fun h137 => rtV h137 := by
    rw [← eK]
    simp only [Option.bind_some, Option.map_some, Option.join, cI_r, cL_r, cV_r, xI_r, xL_r, xV_r, xI_t, xL_t, xV_t, lt_r, rtZ_0, rtZ_1, rtZ_zb, gf163_16, h.2.2.1, if_true, gf163_14, h.2.2.2.2.1, o163]
  rw [st, st2]
  by_cases c25 : tkn B n p = 25
  · rw [if_neg (not_not_intro ((rkd_3 le28).mpr c25))]
    obtain ⟨I2, b1, b2, b3⟩ := m_nxt (E := E) (w := w) (L := L) (Q := Q) hG hn h (by omega)
    have go : rn B n p (md, pd, am, x, i, R) = rn B n (nxp B n p) (0, 0, am, x + 1, 0, R) := rn_go h.1 (by omega) (by omega) (by
      rw [c25]; rcases hm with rfl | ⟨rfl, -⟩ <;> rfl)
    have e2 : I2 145 = I1 145 := b1.1 145 (by decide)
    refine Or.inr ⟨I2, nxp B n p, am, R, i + 1, ⟨by omega, by omega, hx⟩, go, b2, ⟨by rw [e2]; exact ho.1, fun j hj => by rw [e2]; exact ho.2 j hj⟩, ⟨hf.1.tr b1.mf, fun j h1 h2 => by rw [e2]; exact hf.2.1 j h1 h2, hf.2.2⟩, by rw [b3, cV_r]⟩
  · rw [if_pos (fun z => c25 ((rkd_3 le28).mp z))]
    obtain ⟨I2, b1, b2⟩ := m_wrong (E := E) (w := w) (L := L) (Q := Q) (x := 2) h
    have b2' : F_X12_wrong E (rr w 163) (2 : Int32) (Hw E w I1 L Q) = _ := b2
    refine Or.inl ⟨I2, _, _, flt_4 (κ := tkn B n p) (x := 2) ⟨by decide, by decide⟩, ?_, hf.1.fl b1.fl, by rw [b2', cV_r]⟩
    exact rn_fl h.1 (fun z => by have z2 : md = 0 := z.2; omega) (fun _ => by rw [tM_2 hm c25 c22]) (by decide)
theorem m_say77 {x : Nat} {R0 : Nat → Int32} (hG : 100000 ≤ E.2.2.1) (hn : n ≤ 200) (hx : x < 10) : ∀ d i p md pd am R (I1 : Nat → Nat → Int32) g, 3 - i = d → i ≤ 3 → d + 1 < g → (md = 6 ∨ (md = 7 ∧ tkn B n p ≠ 23)) → TR B n I1 p → SayW I1 R x (i + 1) → SayF I I1 R0 R x (i + 1) → SR E w L Q B n I R0 x (rn B n p (md, pd, am, x, i, R)) (L_X12_readSaying_77 E (fun h2 => (gfI h2 (rr w 163) 12 16).bind fun v121 => if v121 = 0 then (gfI h2 (rr w 163) 12 14).bind fun v129 => if ¬ v129 = (3 : Int32) then (isO h2 (rr w 163) 12).bind fun _ => cV (F_X12_wrong E (rr w 163) (2 : Int32) h2) fun h145 => rtV h145 else (isO h2 (rr w 163) 12).bind fun _ => cV (F_X12_next E (rr w 163) h2) fun h137 => rtV h137 else rtV h2) (rr w 163) (nI x) g (nI i) (Hw E w I1 L Q)) := by
  generalize eK : (fun h2 => (gfI h2 (rr w 163) 12 16).bind fun v121 => if v121 = 0 then (gfI h2 (rr w 163) 12 14).bind fun v129 => if ¬ v129 = (3 : Int32) then (isO h2 (rr w 163) 12).bind fun _ => cV (F_X12_wrong E (rr w 163) (2 : Int32) h2) fun h145 => rtV h145 else (isO h2 (rr w 163) 12).bind fun _ => cV (F_X12_next E (rr w 163) h2) fun h137 => rtV h137 else rtV h2) = K
  have KF : ∀ J : Nat → Nat → Int32, ¬ J 163 16 = 0 → K (Hw E w J L Q) = rtV (Hw E w J L Q) := fun J hJ => by
    rw [← eK]
    show ((gfI (Hw E w J L Q) (rr w 163) 12 16).bind fun v121 => _) = _
    rw [gf163_16, Option.bind_some, if_neg hJ]
  intro d
  induction d with
  | zero =>
    intro i p md pd am R I1 g hd hi hg hm h ho hf
    obtain ⟨g, rfl⟩ : ∃ m, g = m + 1 := ⟨g - 1, by omega⟩
    by_cases c22 : tkn B n p = 22
    · have i3 : i = 3 := by omega
      subst i3
      have fl : rn B n p (md, pd, am, x, 3, R) = (4, spn B n p, 0, fun _ => 0) := rn_flt h.1 (by omega) (fun z => by omega) (by rw [c22]; rcases hm with rfl | ⟨rfl, -⟩ <;> rfl) (by decide)
      obtain ⟨I2, b1, b2⟩ := m_wrong (E := E) (w := w) (L := L) (Q := Q) (x := 4) h
      have f4 : flt (tkn B n p) 4 = 4 := by rw [c22]; rfl
      rw [f4] at b1
      have b2' : F_X12_wrong E (rr w 163) (4 : Int32) (Hw E w I1 L Q) = _ := b2
      have n16 : ¬ I2 163 16 = 0 := by rw [b1.2.2.1]; decide
      refine Or.inl ⟨I2, 4, _, ⟨by decide, by decide⟩, fl, hf.1.fl b1.fl, ?_⟩
      rw [L_X12_readSaying_77, o163, Option.bind_some, m_isWy (j := 24) hG hn h (by decide) (by decide) c22, cI_r, if_neg (show ¬ (1 : Int32) = 0 by decide), if_neg (not_not_intro (show nI 3 = (3 : Int32) from rfl)), o163, Option.bind_some, b2', cV_r]
      unfold J_X12_readSaying_97
      rw [gf163_16, Option.bind_some, if_neg n16]
    · exact m_sayE hG hn hx hi hm h ho hf c22 eK
  | succ d ih =>
    intro i p md pd am R I1 g hd hi hg hm h ho hf
    obtain ⟨g, rfl⟩ : ∃ m, g = m + 1 := ⟨g - 1, by omega⟩
    by_cases c22 : tkn B n p = 22
    · have n3 : ¬ nI i = (3 : Int32) := fun z => by have := (nI_eq (b := 3) (by omega) (by decide)).mp z; omega
      have i3 : ¬ i = 3 := by omega
      obtain ⟨I2, b1, b2, b3⟩ := m_nxt (E := E) (w := w) (L := L) (Q := Q) hG hn h (by omega)
      have go : rn B n p (md, pd, am, x, i, R) = rn B n (nxp B n p) (1, 0, am, x, i + 1, R) := rn_go h.1 (by omega) (by omega) (by
        rw [c22]
        have : stp 22 (tvl B n p) (md, pd, am, x, i, R) = tM 22 (md, pd, am, x, i, R) := by rcases hm with rfl | ⟨rfl, -⟩ <;> rfl
        rw [this]
        show (if i = 3 then _ else _) = _
        rw [if_neg i3])
      have e2 : I2 145 = I1 145 := b1.1 145 (by decide)
      have rw0 := m_readWord (E := E) (w := w) (I := I2) (L := L) (Q := Q) (x := x) (k := i + 1) (md := 1) (pd := 0) (am := am) (R := R) hG hn hx (by omega) b2 (by rw [e2]; exact ho.1) (fun z => absurd (show (1 : Nat) = 0 from z.2) (by decide)) rfl
      rw [go]
      have st : L_X12_readSaying_77 E K (rr w 163) (nI x) (g + 1) (nI i) (Hw E w I1 L Q) = cV (F_X12_readWord E (rr w 163) (nI x) (Hw E w I2 L Q)) fun h111 => L_X12_readSaying_77 E K (rr w 163) (nI x) g (nI (i + 1)) h111 := by
        rw [L_X12_readSaying_77, o163, Option.bind_some, m_isWy (j := 24) hG hn h (by decide) (by decide) c22, cI_r, if_neg (show ¬ (1 : Int32) = 0 by decide), if_pos n3]
        unfold J_X12_readSaying_97
        simp only [Option.bind_some, Option.map_some, Option.join, cI_r, cL_r, cV_r, xI_r, xL_r, xV_r, xI_t, xL_t, xV_t, lt_r, rtZ_0, rtZ_1, rtZ_zb, gf163_16, h.2.2.1, if_true, o163, b3, nI_1]
      rw [st]
      rcases rw0 with ⟨I3, f, pos, z1, z2, z3, z4⟩ | ⟨I3, p', md', pd', am', R', z1, z2, z3, z4, z5⟩
      · rw [z4, cV_r]
        have n16 : ¬ I3 163 16 = 0 := by rw [z3.2.1]; exact fun z => z1.1 ((nI_eq (b := 0) (by omega) (by decide)).mp z)
        refine Or.inl ⟨I3, f, pos, z1, z2, (hf.1.tr b1.mf).fl z3, ?_⟩
        obtain ⟨g, rfl⟩ : ∃ m, g = m + 1 := ⟨g - 1, by omega⟩
        rw [L_X12_readSaying_77, o163, Option.bind_some, m_isWF hG n16, cI_r, if_pos rfl, KF I3 n16]
      · rw [z5, cV_r, z1]
        obtain ⟨y1, y2⟩ := Say_add hx (by omega) ho hf e2 b1.mf z4
        exact ih (i + 1) p' md' pd' am' R' I3 g (by omega) (by omega) (by omega) z2 z3 y1 y2
    · exact m_sayE hG hn hx hi hm h ho hf c22 eK
theorem m_readSaying {p x am : Nat} {R : Nat → Int32} (hG : 100000 ≤ E.2.2.1) (hn : n ≤ 200) (hx : x ≤ 10) (h : TR B n I p) (n26 : tkn B n p ≠ 26) : SR E w L Q B n I R x (rn B n p (0, 0, am, x, 0, R)) (F_X12_readSaying E (rr w 163) (nI x) (Hw E w I L Q)) := by
  have bg := m_isBegun (E := E) (w := w) (L := L) (Q := Q) hG hn h
  have le28 := tkn_le (B := B) (n := n) (p := p)
  have h14 := h.2.2.2.2.1
  have h16 := h.2.2.1
  have s0 : stp (tkn B n p) (tvl B n p) (0, 0, am, x, 0, R) = if ¬ (tW (tkn B n p) (tvl B n p) (0, 0, am, x, 0, R)).1 = 0 then tW (tkn B n p) (tvl B n p) (0, 0, am, x, 0, R) else if x = 10 then (4, 0, 0, am, x, 0, R) else tW (tkn B n p) (tvl B n p) (0, 0, am, x, 0, R) := by
    show tF (tkn B n p) (tvl B n p) (0, 0, am, x, 0, R) = _
    unfold tF
    rw [if_neg n26]
  -- a fault at once
  have fl : ∀ f, f ≠ 0 → f ≤ 4 → (tkn B n p ≠ 28 → (stp (tkn B n p) (tvl B n p) (0, 0, am, x, 0, R)).1 = f) → ∃ I1, ¬ I1 163 16 = 0 ∧ F_X12_wrong E (rr w 163) (nI f) (Hw E w I L Q) = rtV (Hw E w I1 L Q) ∧ SR E w L Q B n I R x (rn B n p (0, 0, am, x, 0, R)) (J_X12_readSaying_53 E (rr w 163) (nI x) (Hw E w I1 L Q)) := fun f f0 f4 hf => by
    obtain ⟨I1, b1, b2⟩ := m_wrong (E := E) (w := w) (L := L) (Q := Q) (x := f) h
    have ff := flt_4 (κ := tkn B n p) ⟨f0, f4⟩
    have n16 : ¬ I1 163 16 = 0 := by rw [b1.2.2.1]; exact fun z => ff.1 ((nI_eq (b := 0) (by omega) (by decide)).mp z)
    refine ⟨I1, n16, b2, Or.inl ⟨I1, _, _, ff, rn_fl h.1 (fun z => n26 z.1) hf f0, b1.fl, ?_⟩⟩
    unfold J_X12_readSaying_53
    rw [gf163_16, Option.bind_some, if_neg n16]
  unfold F_X12_readSaying
  rw [o163, Option.bind_some, bg, cI_r]
  by_cases b : begun (tkn B n p)
  · rw [zn_t b]
    have n28 : tkn B n p ≠ 28 := by unfold begun at b; omega
    by_cases x10 : x = 10
    · subst x10
      rw [if_neg (not_not_intro (show nI 10 = (10 : Int32) from rfl)), gf163_14, h14, Option.bind_some]
      by_cases k24 : tkn B n p = 24
      · rw [if_neg (not_not_intro ((rkd_2 le28).mpr k24)), gf163_15, h.2.2.2.2.2.2.1 k24, Option.bind_some, f_wi2 1 20 (by decide) (by decide) (show (nI 1).toInt64 = 1 by rfl) (show (nI 20).toInt64 = 20 by rfl), cI_r]
        have v99 := tvl_le h.1 k24
        by_cases cv : 1 ≤ tvl B n p ∧ tvl B n p ≤ 20
        · rw [zn_t ⟨tvl B n p, rfl, cv.1, cv.2⟩, o163, Option.bind_some]
          obtain ⟨I1, a1, a2, a3⟩ := fl 4 (by decide) (by decide) (fun _ => by
            have tw : tW (tkn B n p) (tvl B n p) (0, 0, am, 10, 0, R) = (0, 5, 0, tvl B n p, 10, 0, R) := by
              rw [k24]
              show (if tvl B n p < 1 ∨ 20 < tvl B n p then _ else _) = _
              rw [if_neg (by omega)]
            rw [s0, tw, if_neg (not_not_intro rfl), if_pos rfl])
          have a2' : F_X12_wrong E (rr w 163) (4 : Int32) (Hw E w I L Q) = _ := a2
          rw [a2', cV_r]; exact a3
        · rw [zn_f (fun ⟨v, e, z⟩ => cv (by rw [(nI_eq (by omega) (by omega)).mp e]; exact z)), o163, Option.bind_some]
          obtain ⟨I1, a1, a2, a3⟩ := fl 3 (by decide) (by decide) (fun _ => by
            have tw : tW (tkn B n p) (tvl B n p) (0, 0, am, 10, 0, R) = (3, 0, 0, am, 10, 0, R) := by
              rw [k24]
              show (if tvl B n p < 1 ∨ 20 < tvl B n p then _ else _) = _
              rw [if_pos (by omega)]
            rw [s0, tw, if_pos (show ¬ (3 : Nat) = 0 by decide)])
          have a2' : F_X12_wrong E (rr w 163) (3 : Int32) (Hw E w I L Q) = _ := a2
          rw [a2', cV_r]; exact a3
      · rw [if_pos (fun z => k24 ((rkd_2 le28).mp z)), o163, Option.bind_some]
        obtain ⟨I1, a1, a2, a3⟩ := fl 4 (by decide) (by decide) (fun _ => by
          have tw : (tW (tkn B n p) (tvl B n p) (0, 0, am, 10, 0, R)).1 = 0 := by
            unfold begun at b
            have : tkn B n p = 12 ∨ tkn B n p = 14 ∨ tkn B n p = 15 ∨ tkn B n p = 16 ∨ tkn B n p = 17 ∨ tkn B n p = 18 ∨ tkn B n p = 19 ∨ tkn B n p = 20 ∨ tkn B n p = 21 := by omega
            rcases this with c | c | c | c | c | c | c | c | c <;> rw [c] <;> rfl
          rw [s0, if_neg (not_not_intro tw), if_pos rfl])
        have a2' : F_X12_wrong E (rr w 163) (4 : Int32) (Hw E w I L Q) = _ := a2
        rw [a2', cV_r]; exact a3
    · have nx10 : ¬ nI x = (10 : Int32) := fun z => x10 ((nI_eq (b := 10) (by omega) (by decide)).mp z)
      rw [if_pos nx10]
      have hst : stp (tkn B n p) (tvl B n p) (0, 0, am, x, 0, R) = tW (tkn B n p) (tvl B n p) (0, 0, am, x, 0, R) := by
        rw [s0, if_neg x10]
        split <;> rfl
      generalize eA : up2 I 145 (3 + x) 0 = A
      have Ak : ∀ k, k ≠ 145 → A k = I k := fun k hk => by rw [← eA, up2_row _ _ hk]
      have A3 : A 145 (3 + x) = nI 0 := by rw [← eA, up2_s]; rfl
      have Ai : ∀ i, i ≠ 3 + x → A 145 i = I 145 i := fun i hi => by rw [← eA, up2_i _ _ _ hi]
      have tA' : TR B n A p := TR_c h (Ak 163 (by decide)) (Ak 144 (by decide))
      have rw0 := m_readWord (E := E) (w := w) (I := A) (L := L) (Q := Q) (x := x) (k := 0) (md := 0) (pd := 0) (am := am) (R := R) hG hn (by omega) (by decide) tA' A3 (fun z => n26 z.1) hst
      unfold J_X12_readSaying_53
      have ia : ix (nI (3 + x)) 173 = some (3 + x) := ix_n (by omega) (by decide)
      rw [gf163_16, h16, Option.bind_some, if_pos rfl, gf163_20, Option.bind_some, m3, nI_add, pa145, ia, Option.map_some, Option.bind_some, eA, o163, Option.bind_some]
      have mfA : MfT I A := ⟨fun k h1 h2 => Ak k h1, fun i hi => by rw [Ak 163 (by decide)]⟩
      have w0 : SayW A R x 0 := ⟨A3, fun i hi => absurd hi (by omega)⟩
      have f0 : SayF I A R R x 0 := ⟨mfA, fun i h1 h2 => Ai i h1, fun _ _ _ => rfl⟩
      rcases rw0 with ⟨I3, f, pos, z1, z2, z3, z4⟩ | ⟨I3, p', md', pd', am', R', z1, z2, z3, z4, z5⟩
      · rw [z4, cV_r]
        have n16 : ¬ I3 163 16 = 0 := by rw [z3.2.1]; exact fun z => z1.1 ((nI_eq (b := 0) (by omega) (by decide)).mp z)
        refine Or.inl ⟨I3, f, pos, z1, z2, mfA.fl z3, ?_⟩
        obtain ⟨G, hGG⟩ : ∃ G, E.2.2.1 = G + 1 := ⟨E.2.2.1 - 1, by omega⟩
        rw [hGG, L_X12_readSaying_77, o163, Option.bind_some, m_isWF hG n16, cI_r, if_pos rfl, gf163_16, Option.bind_some, if_neg n16]
      · rw [z5, cV_r, z1]
        obtain ⟨y1, y2⟩ := Say_add (by omega) (by decide) w0 f0 rfl MfT.rf z4
        exact m_say77 hG hn (by omega) 3 0 p' md' pd' am' R' I3 E.2.2.1 rfl (by decide) (by omega) z2 z3 y1 y2
  · rw [zn_f b, o163, Option.bind_some]
    obtain ⟨I1, a1, a2, a3⟩ := fl 2 (by decide) (by decide) (fun _ => by rw [s0, tW_nb b, if_pos (show ¬ (2 : Nat) = 0 by decide)])
    have a2' : F_X12_wrong E (rr w 163) (2 : Int32) (Hw E w I L Q) = _ := a2
    rw [a2', cV_r]; exact a3
end
