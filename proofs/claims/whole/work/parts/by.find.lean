/-! shortest: the class' finder -/
def fiI (k : Nat) : Prop := k = 38 ∨ k = 40 ∨ k = 48 ∨ k = 49 ∨ k = 51 ∨ k = 64 ∨ k = 66 ∨ k = 67 ∨ k = 68 ∨ k = 71 ∨ k = 72
def fiL (k : Nat) : Prop := k = 39 ∨ k = 48 ∨ k = 50 ∨ k = 52 ∨ k = 70 ∨ (74 ≤ k ∧ k < 121)
def FiF (I I' : Nat → Nat → Int32) (L L' : Nat → Nat → Int64) (Q Q' : Nat → Nat → Option Nat) : Prop := (∀ k, ¬ fiI k → I' k = I k) ∧ (∀ k, ¬ fiL k → L' k = L k) ∧ ∀ k, k ≠ 48 → Q' k = Q k
def FW (I : Nat → Ro) (L : Nat → Nat → Int64) (Q : Nat → Nat → Option Nat) (T : Ro) (c : Nat → Nat) (y : Nat) (W : Int32) (g : Nat) : Prop := CW I L Q T c ∧ MapY I L T c y ∧ y ≤ 200 ∧ (∀ k, k < c 4 → b32 W k → Gnd I L T c y k) ∧ I 63 1 = W ∧ L 63 2 = bs g ∧ ∀ n, n < 24 → Q 65 n = some (73 + 2 * n)
/-- the class' set of a walker at a stage -/
def cSt (L : Nat → Nat → Int64) (st k : Nat) : Nat → Prop := fun q => q < 256 ∧ bq (L (74 + 2 * (8 * st + k))) q
section
variable {E : Ev} {w : Wo} {I I1 I2 : Nat → Nat → Int32} {L L1 L2 : Nat → Nat → Int64} {Q Q1 Q2 : Nat → Nat → Option Nat} {c : Nat → Nat} {T : Ro} {y : Nat} {W : Int32} {g : Nat}
theorem FiF.rf : FiF I I L L Q Q := ⟨fun _ _ => rfl, fun _ _ => rfl, fun _ _ => rfl⟩
theorem FiF.tr (h : FiF I I1 L L1 Q Q1) (h' : FiF I1 I2 L1 L2 Q1 Q2) : FiF I I2 L L2 Q Q2 := ⟨fun k hk => (h'.1 k hk).trans (h.1 k hk), fun k hk => (h'.2.1 k hk).trans (h.2.1 k hk), fun k hk => (h'.2.2 k hk).trans (h.2.2 k hk)⟩
theorem FiF.cf (h : FiF I I1 L L1 Q Q1) : CF I I1 L L1 Q Q1 := ⟨fun k hk => h.1 k (by unfold fiI; omega), fun k hk => h.2.1 k (by unfold fiL; omega), fun k _ a _ => h.2.2 k a⟩
theorem FW.mv (h : FW I L Q T c y W g) (f : FiF I I1 L L1 Q Q1) (hm : MapY I1 L1 T c y) (hs : StepsR I1 L1 Q1) : FW I1 L1 Q1 T c y W g := by
  obtain ⟨h1, h2, h3, h4, h5, h6, h7⟩ := h
  have hw : WalkR Q1 := by
    have := h1.2.2.2.2.2.2.2.1
    unfold WalkR at *; rw [f.2.2 40 (by decide)]; exact this
  have ho : OddsR Q1 := by
    have := h1.2.2.2.2.2.2.2.2
    unfold OddsR at *; rw [f.2.2 54 (by decide)]; exact this
  refine ⟨h1.set f.cf hm.1 hs hw ho, hm, h3, fun k hk hb => ?_, by rw [f.1 63 (by unfold fiI; omega)]; exact h5, by rw [f.2.1 63 (by unfold fiL; omega)]; exact h6, fun n hn => by rw [f.2.2 65 (by decide)]; exact h7 n hn⟩
  have := h4 k hk hb
  unfold Gnd at *
  rw [f.1 41 (by unfold fiI; omega), f.2.1 42 (by unfold fiL; omega)]
  exact this
theorem FW.wc {k : Nat} (h : FW I L Q T c y W g) (hk : k < c 4) (e : I 40 6 = nI k) : WC I L Q T c y k := by
  have f := h.1.2.2.2.1.2.1.2 k hk
  exact ⟨h.1.2.1, h.1.2.2.1, h.2.1, h.2.2.1, h.1.2.2.2.2.2.2.1, hk, e, f.2.2.1, f.2.2.2.1, f.2.2.2.2⟩
theorem MapY_k (h1 : I1 32 = I 32) (h2 : I1 38 = I 38) (h3 : ∀ k, 32 ≤ k → k < 40 → L1 k = L k) (h : MapY I L T c y) : MapY I1 L1 T c y := ⟨MapR_c h1 h2 h3 h.1, by rw [h1]; exact h.2⟩
theorem lst_frm2 {X : Nat → Prop} {t : Nat} {I' : Nat → Nat → Int32} (k1 : c 1 ≤ 60) (ht : IA w t 240) (ht2 : t ≠ 38 ∧ t ≠ 48 ∧ t ≠ 49 ∧ t ≠ 51) (hX : ∀ q, X q → q < 4 * c 1) (hl : lstd (I' t) X 240) : Frm w I' c t 240 (cntP X 240) ∧ frX I' t (cntP X 240) = X := by
  have le : cntP X 240 ≤ 240 := cntP_le 240
  have at0 : ∀ i, i < cntP X 240 → ∃ s, I' t i = nI s ∧ s < 240 ∧ X s := fun i hi => by
    obtain ⟨s, h1, h2, h3⟩ := cnt_sur hi
    exact ⟨s, by rw [← h3]; exact hl s h1 h2, h1, h2⟩
  refine ⟨⟨ht, ht2, le, le, fun i hi => ?_⟩, funext fun s => propext ⟨?_, ?_⟩⟩
  · obtain ⟨s, h1, _, h2⟩ := at0 i hi
    exact ⟨s, h1, hX s h2⟩
  · rintro ⟨h1, i, h2, h3⟩
    obtain ⟨s', g1, g2, g3⟩ := at0 i h2
    have : s' = s := (nI_eq (by omega) (by omega)).mp (by rw [← g1, h3])
    rw [← this]; exact g3
  · intro h
    have := hX s h
    exact ⟨by omega, cntP X s, cnt_lt h (by omega), hl s (by omega) h⟩
theorem ia71 : IA w 71 240 := ⟨lv_of (by decide), rfl, by decide⟩
theorem ia72 : IA w 72 1 := ⟨lv_of (by decide), rfl, by decide⟩
/-- a set's states in the row 71 -/
theorem c_list71 {k : Nat} {X : Nat → Prop} (hG : 100000 ≤ E.2.2.1) (k1 : c 1 ≤ 60) (hk : SO w k) (eX : ∀ q, q < 256 → (bq (L (k + 1)) q ↔ X q)) (hX : ∀ q, X q → q < 4 * c 1) : ∃ I', (∀ k', k' ≠ 71 → I' k' = I k') ∧ lstd (I' 71) X 240 ∧ F_X6_list E (rr w k) (rr w 71) (Hw E w I L Q) = rtI (nI (cntP X 240)) (Hw E w I' L Q) := by
  obtain ⟨I3, d1, d2, d3⟩ := c_list (E := E) (w := w) (I := I) (L := L) (Q := Q) (t := 71) (n := 240) hG hk ia71 (by decide) (fun q hq z => by have := hX q ((eX q hq).mp z); omega)
  have ec : ∀ s, s ≤ 240 → cntP (bq (L (k + 1))) s = cntP X s := fun s hs => cnt_c (fun j hj => eX j (by omega))
  rw [ec 240 (by omega)] at d3
  exact ⟨I3, d1, fun s hs hp => by rw [← ec s (by omega)]; exact d2 s hs ((eX s (by omega)).mpr hp), d3⟩
theorem c_one {k st N : Nat} (hG : 100000 ≤ E.2.2.1) (h : FW I L Q T c y W g) (hk : k < c 4) (hw : b32 W k) (hst : st ≤ 1) (hN : N ≤ 30) (hX : ∀ q, cSt L st k q → q < 4 * c 1) : ∃ I' L' Q', FW I' L' Q' T c y W g ∧ FiF I I' L L' Q Q' ∧ (∀ j, 64 ≤ j → j < 69 → I' j = I j) ∧ (∀ n, n ≠ 8 * (st + 1) + k → L' (74 + 2 * n) = L (74 + 2 * n)) ∧ cSt L' (st + 1) k = lw T c y k N (cSt L st k) ∧ ∀ g', L_X1_allGoOn_2 E (rr w 63) (nI N) (nI st) (g' + 1) (nI k) (Hw E w I L Q) = if zb (¬ ∃ q, lw T c y k N (cSt L st k) q) = 0 then L_X1_allGoOn_2 E (rr w 63) (nI N) (nI st) g' (nI (k + 1)) (Hw E w I' L' Q') else rtI 0 (Hw E w I' L' Q') := by
  have h0 := h
  obtain ⟨h1, h2, h3, h4, h5, h6, h7⟩ := h
  have k1 : c 1 ≤ 60 := (h1.2.1.1 1 (by decide)).2
  have k4 : c 4 ≤ 8 := (h1.2.1.1 4 (by decide)).2
  have hb : b64 W.toInt64 k := (b64_32 (by omega)).mpr hw
  have qa : Q 65 (st * 8 + k) = some (73 + 2 * (8 * st + k)) := by rw [h7 _ (by omega), show st * 8 = 8 * st by omega]
  have qb : Q 65 ((st + 1) * 8 + k) = some (73 + 2 * (8 * (st + 1) + k)) := by rw [h7 _ (by omega), show (st + 1) * 8 = 8 * (st + 1) by omega]
  have sa : SO w (73 + 2 * (8 * st + k)) := so73 _ (by omega)
  have sb : SO w (73 + 2 * (8 * (st + 1) + k)) := so73 _ (by omega)
  have ea : 74 + 2 * (8 * st + k) = 73 + 2 * (8 * st + k) + 1 := by omega
  have eb : 74 + 2 * (8 * (st + 1) + k) = 73 + 2 * (8 * (st + 1) + k) + 1 := by omega
  have ra : 73 ≤ 73 + 2 * (8 * st + k) ∧ 73 + 2 * (8 * st + k) < 105 := by omega
  have rb : 89 ≤ 73 + 2 * (8 * (st + 1) + k) ∧ 73 + 2 * (8 * (st + 1) + k) < 120 := by omega
  have ne : 73 + 2 * (8 * st + k) ≠ 73 + 2 * (8 * (st + 1) + k) := by omega
  have nn : ∀ n, n ≠ 8 * (st + 1) + k → 74 + 2 * n ≠ 73 + 2 * (8 * (st + 1) + k) + 1 := by omega
  have eSa : ∀ q, q < 256 → (bq (L (73 + 2 * (8 * st + k) + 1)) q ↔ cSt L st k q) := fun q hq => by
    unfold cSt; rw [ea]; exact ⟨fun z => ⟨hq, z⟩, fun z => z.2⟩
  have eSb : ∀ L' : Nat → Nat → Int64, cSt L' (st + 1) k = fun q => q < 256 ∧ bq (L' (73 + 2 * (8 * (st + 1) + k) + 1)) q := fun L' => by unfold cSt; rw [eb]
  generalize 73 + 2 * (8 * st + k) = a at *
  generalize 73 + 2 * (8 * (st + 1) + k) = b at *
  generalize cSt L st k = X at *
  have cl := c_clear (E := E) (w := w) (I := I) (L := L) (Q := Q) hG sb
  have ob : ∀ q, q < 256 → ¬ bq (rs L (b + 1) 0 4 (fun _ => 0) (b + 1)) q := fun q hq => clr_b hq
  have oo : ∀ k, k ≠ b + 1 → rs L (b + 1) 0 4 (fun _ => 0) k = L k := fun k hk => rs_row _ _ hk
  generalize rs L (b + 1) 0 4 (fun _ => 0) = L2 at *
  obtain ⟨I3, d1, d2, d3⟩ := c_list71 (E := E) (w := w) (I := I) (L := L2) (Q := Q) (X := X) hG k1 sa (by rw [oo (a + 1) (by omega)]; exact eSa) hX
  obtain ⟨hf, eX⟩ := lst_frm2 (w := w) k1 ia71 (by decide) hX d2
  have f1 : FiF I I3 L L2 Q Q := ⟨fun k hk => d1 k (by unfold fiI at hk; omega), fun k hk => oo k (by unfold fiL at hk; omega), fun _ _ => rfl⟩
  have w1 := h0.mv f1 (MapY_k (d1 32 (by decide)) (d1 38 (by decide)) (fun k g1 g2 => oo k (by omega)) h2) (StepsR_c (d1 48 (by decide)) (d1 49 (by decide)) (d1 51 (by decide)) (oo 50 (by omega)) (oo 52 (by omega)) h1.2.2.2.2.2.2.1)
  obtain ⟨b1, b2, b3, b4, b5⟩ := c_bec (E := E) (w := w) w1.1 w1.2.1 h3 hk
  have b6 : ∀ j, j ≠ 40 → up2 I3 40 6 (nI k) j = I3 j := fun j hj => up2_row _ _ hj
  generalize up2 I3 40 6 (nI k) = I4 at *
  have hf4 : Frm w I4 c 71 240 (cntP X 240) := ⟨hf.1, hf.2.1, hf.2.2.1, hf.2.2.2.1, by rw [b6 71 (by decide)]; exact hf.2.2.2.2⟩
  have eX4 : frX I4 71 (cntP X 240) = X := by unfold frX at *; rw [b6 71 (by decide)]; exact eX
  obtain ⟨I5, L5, Q5, v1, v2, v3, v4, v5⟩ := c_lead (E := E) (w := w) (I := I4) (L := L2) (Q := Q) (to := b) hG b3 (b4 k (w1.2.2.2.1 k hk hw)) sb (by unfold okTo; omega) (by omega) hf4 (lw_wf hN)
  rw [eX4] at v4
  have v4' : ∀ q, q < 256 → (bq (L5 (b + 1)) q ↔ lw T c y k N X q) := fun q hq => by
    rw [v4 q hq]
    exact ⟨fun z => z.elim (fun z => absurd z (ob q hq)) id, Or.inr⟩
  have f2 : FiF I3 I5 L2 L5 Q Q5 := ⟨fun j hj => by rw [v1.1 j (by unfold fiI at hj; omega) (by unfold fiI at hj; omega) (by unfold fiI at hj; omega) (by unfold fiI at hj; omega)]; exact b6 j (by unfold fiI at hj; omega), fun j hj => v1.2.1 j (by unfold fiL at hj; omega) (by unfold fiL at hj; omega) (by unfold fiL at hj; omega) (by unfold fiL at hj; omega) (by unfold fiL at hj; omega), v1.2.2⟩
  have ie := c_isEmpty (E := E) (w := w) (I := I5) (L := L5) (Q := Q5) sb
  have eno : (∀ q, q < 256 → ¬ bq (L5 (b + 1)) q) ↔ ¬ ∃ q, lw T c y k N X q := by
    constructor
    · rintro x ⟨q, hq⟩
      have := lw_lt hX q hq
      exact x q (by omega) ((v4' q (by omega)).mpr hq)
    · intro x q hq z
      exact x ⟨q, (v4' q hq).mp z⟩
  rw [zb_c eno] at ie
  refine ⟨I5, L5, Q5, w1.mv f2 v2 v3, f1.tr f2, fun j g1 g2 => ?_, fun n hn => ?_, ?_, fun g' => ?_⟩
  · rw [v1.1 j (by omega) (by omega) (by omega) (by omega), b6 j (by omega), d1 j (by omega)]
  · rw [v1.2.1 _ (by omega) (by omega) (by omega) (by omega) (nn n hn), oo _ (nn n hn)]
  · rw [eSb]
    funext q
    refine propext ⟨fun z => (v4' q z.1).mp z.2, fun z => ?_⟩
    have := lw_lt hX q z
    exact ⟨by omega, (v4' q (by omega)).mpr z⟩
  · have e1 : lwC (nI N) = enc (lwK N) (lwN N) (lwA N) := lwC_e N (by omega)
    rw [L_X1_allGoOn_2]
    simp (disch := omega) only [Option.bind_some, Option.map_some, Option.join, cI_r, cL_r, cV_r, xI_r, xL_r, xV_r, xI_t, xL_t, xV_t, lt_r, rtZ_0, rtZ_1, rtZ_zb, m8, nI_leI, if_neg, gf63_1, h5, f_isIn, zi_t hb, gf63_4, pk_mul, nI_add, nI_1, ga65, ix_n, qb, qa, id_eq, sb.o, cl, gf63_9, sa.o, d3, gf63_0, o40, b5, f_listed, e1, v5, ie]
theorem c_allGoOn {st N : Nat} (hG : 100000 ≤ E.2.2.1) (h : FW I L Q T c y W g) (hW : ∀ k, b32 W k → k < c 4) (hst : st ≤ 1) (hN : N ≤ 30) (hX : ∀ k, k < c 4 → b32 W k → ∀ q, cSt L st k q → q < 4 * c 1) : ∃ I' L' Q', FW I' L' Q' T c y W g ∧ FiF I I' L L' Q Q' ∧ (∀ j, 64 ≤ j → j < 69 → I' j = I j) ∧ (∀ n, n < 8 * (st + 1) → L' (74 + 2 * n) = L (74 + 2 * n)) ∧ (trs T c y W N (fun k => cSt L st k) → ∀ k, k < c 4 → b32 W k → cSt L' (st + 1) k = lw T c y k N (cSt L st k)) ∧ F_X1_allGoOn E (rr w 63) (nI N) (nI st) (Hw E w I L Q) = rtI (zb (trs T c y W N (fun k => cSt L st k))) (Hw E w I' L' Q') := by
  have k4 : c 4 ≤ 8 := (h.1.2.1.1 4 (by decide)).2
  unfold F_X1_allGoOn
  refine lpE (σ := (Nat → Nat → Int32) × (Nat → Nat → Int64) × (Nat → Nat → Option Nat)) (Lp := fun g i s => L_X1_allGoOn_2 E (rr w 63) (nI N) (nI st) g (nI i) (Hw E w s.1 s.2.1 s.2.2)) (Iv := fun i s => FW s.1 s.2.1 s.2.2 T c y W g ∧ FiF I s.1 L s.2.1 Q s.2.2 ∧ (∀ j, 64 ≤ j → j < 69 → s.1 j = I j) ∧ (∀ n, n < 8 * (st + 1) → s.2.1 (74 + 2 * n) = L (74 + 2 * n)) ∧ ∀ k, k < i → b32 W k → (∃ q, lw T c y k N (cSt L st k) q) ∧ cSt s.2.1 (st + 1) k = lw T c y k N (cSt L st k)) (Post := fun o => ∃ I' L' Q', FW I' L' Q' T c y W g ∧ FiF I I' L L' Q Q' ∧ (∀ j, 64 ≤ j → j < 69 → I' j = I j) ∧ (∀ n, n < 8 * (st + 1) → L' (74 + 2 * n) = L (74 + 2 * n)) ∧ (trs T c y W N (fun k => cSt L st k) → ∀ k, k < c 4 → b32 W k → cSt L' (st + 1) k = lw T c y k N (cSt L st k)) ∧ o = rtI (zb (trs T c y W N (fun k => cSt L st k))) (Hw E w I' L' Q')) (N := 8) ?_ ?_ E.2.2.1 0 (I, L, Q) (by omega) (by omega) ⟨h, FiF.rf, fun _ _ _ => rfl, fun _ _ => rfl, fun k hk => absurd hk (by omega)⟩
  · rintro g' i ⟨I1, L1, Q1⟩ hi ⟨z1, z2, z3, z4, z5⟩
    dsimp only at *
    by_cases p : b32 W i
    · have hi4 := hW i p
      have eS : cSt L1 st i = cSt L st i := by unfold cSt; rw [z4 (8 * st + i) (by omega)]
      obtain ⟨I2, L2, Q2, a1, a2, a3, a4, a5, a6⟩ := c_one (E := E) (w := w) (k := i) (st := st) (N := N) hG z1 hi4 p hst hN (by rw [eS]; exact hX i hi4 p)
      rw [eS] at a5 a6
      have w3 : ∀ j, 64 ≤ j → j < 69 → I2 j = I j := fun j g1 g2 => (a3 j g1 g2).trans (z3 j g1 g2)
      have w4 : ∀ n, n < 8 * (st + 1) → L2 (74 + 2 * n) = L (74 + 2 * n) := fun n hn => (a4 n (by omega)).trans (z4 n hn)
      by_cases p2 : ∃ q, lw T c y i N (cSt L st i) q
      · left
        refine ⟨(I2, L2, Q2), ⟨a1, z2.tr a2, w3, w4, fun k hk hb => ?_⟩, ?_⟩
        · by_cases e : k = i
          · subst e; exact ⟨p2, a5⟩
          · have zk := z5 k (by omega) hb
            refine ⟨zk.1, ?_⟩
            rw [← zk.2]
            show cSt L2 (st + 1) k = cSt L1 (st + 1) k
            unfold cSt; rw [a4 _ (by omega)]
        · show L_X1_allGoOn_2 E (rr w 63) (nI N) (nI st) (g' + 1) (nI i) (Hw E w I1 L1 Q1) = _
          rw [a6, zi_f (fun x => x p2)]
      · right
        have no : ¬ trs T c y W N (fun k => cSt L st k) := fun x => p2 (x i hi4 p)
        refine ⟨I2, L2, Q2, a1, z2.tr a2, w3, w4, fun x => absurd x no, ?_⟩
        show L_X1_allGoOn_2 E (rr w 63) (nI N) (nI st) (g' + 1) (nI i) (Hw E w I1 L1 Q1) = _
        rw [a6, zi_t p2, zb_f no]
    · left
      have p' : ¬ b64 W.toInt64 i := fun z => p ((b64_32 (by omega)).mp z)
      refine ⟨(I1, L1, Q1), ⟨z1, z2, z3, z4, fun k hk hb => ?_⟩, ?_⟩
      · by_cases e : k = i
        · subst e; exact absurd hb p
        · exact z5 k (by omega) hb
      · show L_X1_allGoOn_2 E (rr w 63) (nI N) (nI st) (g' + 1) (nI i) (Hw E w I1 L1 Q1) = _
        rw [L_X1_allGoOn_2]
        simp (disch := omega) only [Option.bind_some, Option.map_some, Option.join, cI_r, cL_r, cV_r, xI_r, xL_r, xV_r, xI_t, xL_t, xV_t, lt_r, rtZ_0, rtZ_1, rtZ_zb, m8, nI_leI, if_neg, gf63_1, z1.2.2.2.2.1, f_isIn, zi_f p', nI_1]
  · rintro g' ⟨I1, L1, Q1⟩ ⟨z1, z2, z3, z4, z5⟩
    dsimp only at *
    have yes : trs T c y W N (fun k => cSt L st k) := fun k hk hb => (z5 k (by omega) hb).1
    refine ⟨I1, L1, Q1, z1, z2, z3, z4, fun _ k hk hb => (z5 k (by omega) hb).2, ?_⟩
    show L_X1_allGoOn_2 E (rr w 63) (nI N) (nI st) (g' + 1) (nI 8) (Hw E w I1 L1 Q1) = _
    rw [L_X1_allGoOn_2, m8, if_pos (nI_le (Nat.le_refl 8) (by decide)), zb_t yes]
    rfl
end
