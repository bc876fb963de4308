/-! shortest: the class seeks -/
section
variable {E : Ev} {w : Wo} {I I1 I2 : Nat → Nat → Int32} {L L1 L2 : Nat → Nat → Int64} {Q Q1 Q2 : Nat → Nat → Option Nat} {c : Nat → Nat} {T : Ro} {y : Nat} {W : Int32} {g : Nat}
theorem c_arriving {k st : Nat} {x1 : Int32} (hG : 100000 ≤ E.2.2.1) (h : FW I L Q T c y W g) (hg : g < c 0) (hk : k < c 4) (hw : b32 W k) (hst : st ≤ 2) (hm : Mem I T c y W g) (hx : ∀ N, b32 x1 N → N < 31) (hX : ∀ q, cSt L st k q → q < 4 * c 1) : ∃ I' L' Q' x', FW I' L' Q' T c y W g ∧ ArF I I' L L' Q Q' ∧ Mem I' T c y W g ∧ (∀ N, b32 x' N ↔ b32 x1 N ∧ gdY T g (lw T c y k N (cSt L st k))) ∧ F_X1_arriving E (rr w 63) x1 (nI k) (nI st) (Hw E w I L Q) = rtI x' (Hw E w I' L' Q') := by
  have k1 : c 1 ≤ 60 := (h.1.2.1.1 1 (by decide)).2
  have k4 : c 4 ≤ 8 := (h.1.2.1.1 4 (by decide)).2
  have qa : Q 65 (st * 8 + k) = some (73 + 2 * (8 * st + k)) := by rw [h.2.2.2.2.2.2 _ (by omega), show st * 8 = 8 * st by omega]
  have sa : SO w (73 + 2 * (8 * st + k)) := so73 _ (by omega)
  have eSa : ∀ q, q < 256 → (bq (L (73 + 2 * (8 * st + k) + 1)) q ↔ cSt L st k q) := fun q hq => by
    unfold cSt; rw [show 74 + 2 * (8 * st + k) = 73 + 2 * (8 * st + k) + 1 by omega]; exact ⟨fun z => ⟨hq, z⟩, fun z => z.2⟩
  generalize 73 + 2 * (8 * st + k) = a at *
  generalize cSt L st k = X at *
  obtain ⟨b1, b2, b3, b4, b5⟩ := c_bec (E := E) (w := w) h.1 h.2.1 h.2.2.1 hk
  have b6 : ∀ j, j ≠ 40 → up2 I 40 6 (nI k) j = I j := fun j hj => up2_row _ _ hj
  have b7 : up2 I 40 6 (nI k) 40 6 = nI k := up2_s _ _ _ _
  generalize up2 I 40 6 (nI k) = I4 at *
  have f1 : FiF I I4 L L Q Q := ⟨fun j hj => b6 j (by unfold fiI at hj; omega), fun _ _ => rfl, fun _ _ => rfl⟩
  have w1 := h.mv f1 b3.2.2.1 b3.2.2.2.2.1
  obtain ⟨I5, d1, d2, d3⟩ := c_list71 (E := E) (w := w) (I := I4) (L := L) (Q := Q) (X := X) hG k1 sa eSa hX
  have f2 : FiF I4 I5 L L Q Q := ⟨fun j hj => d1 j (by unfold fiI at hj; omega), fun _ _ => rfl, fun _ _ => rfl⟩
  have w2 := w1.mv f2 (MapY_k (d1 32 (by decide)) (d1 38 (by decide)) (fun _ _ _ => rfl) w1.2.1) (StepsR_c (d1 48 (by decide)) (d1 49 (by decide)) (d1 51 (by decide)) rfl rfl b3.2.2.2.2.1)
  have ar0 : ArF I I5 L L Q Q := ⟨f1.tr f2, by rw [d1 64 (by decide), b6 64 (by decide)], fun _ _ => rfl⟩
  have mm0 : Mem I5 T c y W g := by
    unfold Mem at *
    rw [d1 66 (by decide), d1 67 (by decide), d1 68 (by decide), b6 66 (by decide), b6 67 (by decide), b6 68 (by decide)]; exact hm
  have e40 : I5 40 6 = nI k := by rw [d1 40 (by decide)]; exact b7
  have st0 : F_X1_arriving E (rr w 63) x1 (nI k) (nI st) (Hw E w I L Q) = L_X1_arriving_37 E (rr w 63) (nI k) (nI (cntP X 240)) E.2.2.1 x1 0 0 (Hw E w I5 L Q) := by
    unfold F_X1_arriving
    simp (disch := omega) only [Option.bind_some, Option.map_some, Option.join, cI_r, cL_r, cV_r, xI_r, xL_r, xV_r, xI_t, xL_t, xV_t, lt_r, rtZ_0, rtZ_1, rtZ_zb, gf63_0, o40, b5, gf63_4, m8, pk_mul, nI_add, ga65, ix_n, qa, id_eq, gf63_9, sa.o, d3]
  rw [st0]
  have hM : cntP X 240 ≤ 240 := cntP_le 240
  have at0 : ∀ i, i < cntP X 240 → ∃ s, I5 71 i = nI s ∧ s < 4 * c 1 ∧ X s := fun i hi => by
    obtain ⟨s, h1, h2, h3⟩ := cnt_sur hi
    exact ⟨s, by rw [← h3]; exact d2 s h1 h2, hX s h2, h2⟩
  have dn : ∀ s, X s → cntP X s < cntP X 240 := fun s hs => cnt_lt hs (by have := hX s hs; omega)
  generalize eM : cntP X 240 = M at *
  have wrap : ∀ (i : Nat) (y5 y6 : Int32), i ≤ M → (∀ N, b32 y5 N ↔ b32 x1 N ∧ ∀ s, X s → cntP X s < i → ¬ bdY T g (lw T c y k N (sg s))) → (∀ N, b32 y5 N → (b32 y6 N ↔ ∃ s, X s ∧ cntP X s < i ∧ gdY T g (lw T c y k N (sg s)))) → (y5 = 0 ∨ i = M) → ∀ N, b32 (y5 &&& y6) N ↔ b32 x1 N ∧ gdY T g (lw T c y k N X) := by
    intro i y5 y6 hi g1 g2 g3 N
    rw [b32_and, ← gd_add]
    rcases g3 with rfl | rfl
    · constructor
      · rintro ⟨z, -⟩; exact absurd z b32_0
      · rintro ⟨z1, z2, -⟩
        exact absurd ((g1 N).mpr ⟨z1, fun s hs _ => z2 s hs⟩) b32_0
    · constructor
      · rintro ⟨z1, z2⟩
        obtain ⟨s, h1, -, h3⟩ := (g2 N z1).mp z2
        have z1' := (g1 N).mp z1
        exact ⟨z1'.1, fun s hs => z1'.2 s hs (dn s hs), s, h1, h3⟩
      · rintro ⟨z1, z2, s, h1, h3⟩
        have z : b32 y5 N := (g1 N).mpr ⟨z1, fun s hs _ => z2 s hs⟩
        exact ⟨z, (g2 N z).mpr ⟨s, h1, dn s h1, h3⟩⟩
  refine lpE (σ := (Nat → Nat → Int32) × (Nat → Nat → Int64) × (Nat → Nat → Option Nat) × Int32 × Int32) (Lp := fun g' i s => L_X1_arriving_37 E (rr w 63) (nI k) (nI M) g' s.2.2.2.1 s.2.2.2.2 (nI i) (Hw E w s.1 s.2.1 s.2.2.1)) (Iv := fun i s => FW s.1 s.2.1 s.2.2.1 T c y W g ∧ ArF I s.1 L s.2.1 Q s.2.2.1 ∧ s.1 40 6 = nI k ∧ s.1 71 = I5 71 ∧ Mem s.1 T c y W g ∧ (∀ N, b32 s.2.2.2.1 N ↔ b32 x1 N ∧ ∀ s, X s → cntP X s < i → ¬ bdY T g (lw T c y k N (sg s))) ∧ (∀ N, b32 s.2.2.2.1 N → (b32 s.2.2.2.2 N ↔ ∃ s, X s ∧ cntP X s < i ∧ gdY T g (lw T c y k N (sg s))))) (Post := fun o => ∃ I' L' Q' x', FW I' L' Q' T c y W g ∧ ArF I I' L L' Q Q' ∧ Mem I' T c y W g ∧ (∀ N, b32 x' N ↔ b32 x1 N ∧ gdY T g (lw T c y k N X)) ∧ o = rtI x' (Hw E w I' L' Q')) (N := M) ?_ ?_ E.2.2.1 0 (I5, L, Q, x1, 0) (by omega) (by omega) ⟨w2, ar0, e40, rfl, mm0, fun N => ⟨fun z => ⟨z, fun _ _ z => absurd z (by omega)⟩, fun z => z.1⟩, fun N _ => ⟨fun z => absurd z b32_0, fun ⟨_, _, z, _⟩ => absurd z (by omega)⟩⟩
  · rintro g' i ⟨I1, L1, Q1, y5, y6⟩ hi ⟨z1, z2, z3, z4, z5, z6, z7⟩
    dsimp only at *
    by_cases p : y5 = 0
    · right
      refine ⟨I1, L1, Q1, y5 &&& y6, z1, z2, z5, wrap i y5 y6 (by omega) z6 z7 (Or.inl p), ?_⟩
      show L_X1_arriving_37 E (rr w 63) (nI k) (nI M) (g' + 1) y5 y6 (nI i) (Hw E w I1 L1 Q1) = _
      rw [L_X1_arriving_37, if_neg (nI_ge hi (by omega)), if_pos p]
    · left
      obtain ⟨s, a1, a2, a3⟩ := at0 i hi
      have a1' : I1 71 i = nI s := by rw [z4]; exact a1
      have ci : cntP X s = i := by
        obtain ⟨s', h1, h2, h3⟩ := cnt_sur (P := X) (n := 240) (i := i) (by rw [eM]; exact hi)
        have : nI s' = nI s := by rw [← a1, ← h3, d2 s' h1 h2]
        have e := (nI_eq (by omega) (by omega)).mp this
        rw [← e]; exact h3
      generalize eA : up2 I1 72 0 (nI s) = A
      have A1 : ∀ j, j ≠ 72 → A j = I1 j := fun j hj => by rw [← eA, up2_row _ _ hj]
      have A2 : A 72 0 = nI s := by rw [← eA, up2_s]
      have fA : FiF I1 A L1 L1 Q1 Q1 := ⟨fun j hj => A1 j (by unfold fiI at hj; omega), fun _ _ => rfl, fun _ _ => rfl⟩
      have wA := z1.mv fA (MapY_k (A1 32 (by decide)) (A1 38 (by decide)) (fun _ _ _ => rfl) z1.2.1) (StepsR_c (A1 48 (by decide)) (A1 49 (by decide)) (A1 51 (by decide)) rfl rfl z1.1.2.2.2.2.2.2.1)
      have arA : ArF I1 A L1 L1 Q1 Q1 := ⟨fA, A1 64 (by decide), fun _ _ => rfl⟩
      have mA : Mem A T c y W g := by
        unfold Mem at *
        rw [A1 66 (by decide), A1 67 (by decide), A1 68 (by decide)]; exact z5
      generalize eu : y5 &&& (I1 66 (240 * k + s) ^^^ (-1 : Int32)) = u
      have ub : ∀ N, b32 u N ↔ b32 y5 N ∧ ¬ b32 (I1 66 (240 * k + s)) N := fun N => by
        rw [← eu, b32_and]
        constructor
        · rintro ⟨h1, h2⟩; exact ⟨h1, (b32_not (b32_lt h1)).mp h2⟩
        · rintro ⟨h1, h2⟩; exact ⟨h1, (b32_not (b32_lt h1)).mpr h2⟩
      obtain ⟨I3, L3, Q3, e1, e2, e3, e4, e5, e6, e7⟩ := c_arr98 (E := E) (w := w) (k := k) (s := s) (u := u) hG wA hg hk hw (by rw [A1 40 (by decide)]; exact z3) a2 A2 mA (fun N hN => hx N ((z6 N).mp ((ub N).mp hN).1).1) (fun N hN => by rw [A1 66 (by decide)]; exact ((ub N).mp hN).2)
      have trd : ∀ N, b32 y5 N → b32 (I3 66 (240 * k + s)) N := fun N hN => by
        rw [e6 N, A1 66 (by decide)]
        by_cases t : b32 (I1 66 (240 * k + s)) N
        · exact Or.inl t
        · exact Or.inr ((ub N).mpr ⟨hN, t⟩)
      have me := e5 k hk hw s a2
      have cs : ∀ s', X s' → cntP X s' < i + 1 → s' = s ∨ cntP X s' < i := fun s' h1 h2 => by
        by_cases e : cntP X s' = i
        · exact Or.inl (cnt_inj h1 a3 (e.trans ci.symm))
        · exact Or.inr (by omega)
      have y5' : ∀ N, b32 (y5 &&& (I3 68 (240 * k + s) ^^^ (-1 : Int32))) N ↔ b32 x1 N ∧ ∀ s, X s → cntP X s < i + 1 → ¬ bdY T g (lw T c y k N (sg s)) := fun N => by
        rw [b32_and]
        constructor
        · rintro ⟨h1, h2⟩
          have h2' := (b32_not (b32_lt h1)).mp h2
          have h1' := (z6 N).mp h1
          refine ⟨h1'.1, fun s' g1 g2 => ?_⟩
          rcases cs s' g1 g2 with e | e
          · rw [e]; exact fun z => h2' ((me N).2.mpr ⟨trd N h1, z⟩)
          · exact h1'.2 s' g1 e
        · rintro ⟨h1, h2⟩
          have h3 : b32 y5 N := (z6 N).mpr ⟨h1, fun s' g1 g2 => h2 s' g1 (by omega)⟩
          exact ⟨h3, (b32_not (b32_lt h3)).mpr (fun z => h2 s a3 (by omega) ((me N).2.mp z).2)⟩
      have y6' : ∀ N, b32 (y5 &&& (I3 68 (240 * k + s) ^^^ (-1 : Int32))) N → (b32 (y6 ||| I3 67 (240 * k + s)) N ↔ ∃ s, X s ∧ cntP X s < i + 1 ∧ gdY T g (lw T c y k N (sg s))) := fun N hN => by
        have h1 := (b32_and.mp hN).1
        rw [b32_or, z7 N h1]
        constructor
        · rintro (⟨s', g1, g2, g3⟩ | g1)
          · exact ⟨s', g1, by omega, g3⟩
          · exact ⟨s, a3, by omega, ((me N).1.mp g1).2⟩
        · rintro ⟨s', g1, g2, g3⟩
          rcases cs s' g1 g2 with e | e
          · rw [e] at g3; exact Or.inr ((me N).1.mpr ⟨trd N h1, g3⟩)
          · exact Or.inl ⟨s', g1, e, g3⟩
      refine ⟨(I3, L3, Q3, y5 &&& (I3 68 (240 * k + s) ^^^ (-1 : Int32)), y6 ||| I3 67 (240 * k + s)), ⟨e1, (z2.tr arA).tr e2, e3, by show I3 71 = _; rw [e4, A1 71 (by decide)]; exact z4, e5, y5', y6'⟩, ?_⟩
      show L_X1_arriving_37 E (rr w 63) (nI k) (nI M) (g' + 1) y5 y6 (nI i) (Hw E w I1 L1 Q1) = L_X1_arriving_37 E (rr w 63) (nI k) (nI M) g' (y5 &&& (I3 68 (240 * k + s) ^^^ (-1 : Int32))) (y6 ||| I3 67 (240 * k + s)) (nI (i + 1)) (Hw E w I3 L3 Q3)
      rw [L_X1_arriving_37, if_neg (nI_ge hi (by omega)), if_neg p]
      have e66 : A 66 = I1 66 := A1 66 (by decide)
      simp (disch := omega) only [Option.bind_some, Option.map_some, Option.join, cI_r, cL_r, cV_r, xI_r, xL_r, xV_r, xI_t, xL_t, xV_t, lt_r, rtZ_0, rtZ_1, rtZ_zb, gf63_9, ga71, ix_n, a1', m240, pk_mul, nI_add, show k * 240 + s = 240 * k + s by omega, gf63_10, pa72, ix01, eA, gf63_5, ga66, e66, eu, f_bitCount32, e7, gf63_7, ga68, gf63_6, ga67, nI_1]
  · rintro g' ⟨I1, L1, Q1, y5, y6⟩ ⟨z1, z2, z3, z4, z5, z6, z7⟩
    dsimp only at *
    refine ⟨I1, L1, Q1, y5 &&& y6, z1, z2, z5, wrap M y5 y6 (Nat.le_refl _) z6 z7 (Or.inr rfl), ?_⟩
    show L_X1_arriving_37 E (rr w 63) (nI k) (nI M) (g' + 1) y5 y6 (nI M) (Hw E w I1 L1 Q1) = _
    rw [L_X1_arriving_37, if_pos (nI_le (Nat.le_refl M) (by omega))]
theorem low_ex {P : Nat → Prop} {n : Nat} (h : P n) : ∃ m, P m ∧ ∀ j, j < m → ¬ P j := by
  induction n using Nat.strongRecOn with
  | _ n ih =>
    by_cases e : ∃ j, j < n ∧ P j
    · obtain ⟨j, h1, h2⟩ := e
      exact ih j h1 h2
    · exact ⟨n, h, fun j hj z => e ⟨j, hj, z⟩⟩
theorem b32_full : ∀ N, N < 32 → (((2147483647 : Int32).toBitVec.getLsbD N) = decide (N < 31)) := by decide +kernel
/-- the last word, of all at once -/
theorem c_lastw {n st : Nat} (hG : 100000 ≤ E.2.2.1) (h : FW I L Q T c y W g) (hg : g < c 0) (hW : ∀ k, b32 W k → k < c 4) (hst : st ≤ 2) (hm : Mem I T c y W g) (hX : ∀ k, k < c 4 → b32 W k → ∀ q, cSt L st k q → q < 4 * c 1) : ∃ I' L' Q' f, FW I' L' Q' T c y W g ∧ Mem I' T c y W g ∧ FiF I I' L L' Q Q' ∧ (∀ j, j < st → I' 64 j = I 64 j) ∧ (∀ k, 74 ≤ k → L' k = L k) ∧ (okS T c y W g 1 (fun k => cSt L st k) → isF T c y W g 1 (fun k => cSt L st k) f ∧ I' 64 st = nI (f 0)) ∧ L_X1_search_29 E (F_X1_search E n) (fun w1 h3 => J_X1_search_68 E (F_X1_search E n) (rr w 63) (nI st) w1 h3) (rr w 63) (nI st) E.2.2.1 (2147483647 : Int32) (0 : Int32) (Hw E w I L Q) = rtI (zb (okS T c y W g 1 (fun k => cSt L st k))) (Hw E w I' L' Q') := by
  have k4 : c 4 ≤ 8 := (h.1.2.1.1 4 (by decide)).2
  generalize eS : (fun k => cSt L st k) = S
  have eSk : ∀ k, S k = cSt L st k := fun k => by rw [← eS]
  have ok1 : ∀ N, (trs T c y W N S ∧ okS T c y W g 0 (stpS T c y N S)) ↔ ∀ k, k < 8 → b32 W k → gdY T g (lw T c y k N (S k)) := fun N => by
    constructor
    · rintro ⟨h1, h2⟩ k hk hb
      exact ⟨h1 k (hW k hb) hb, fun q hq => h2 k (hW k hb) hb q hq⟩
    · intro x
      exact ⟨fun k hk hb => (x k (by omega) hb).1, fun k hk hb q hq => (x k (by omega) hb).2 q hq⟩
  have fin : ∀ (x : Int32) (I1 : Nat → Nat → Int32) (L1 : Nat → Nat → Int64) (Q1 : Nat → Nat → Option Nat), FW I1 L1 Q1 T c y W g → ArF I I1 L L1 Q Q1 → Mem I1 T c y W g → (∀ N, b32 x N ↔ N < 31 ∧ ∀ k, k < 8 → b32 W k → gdY T g (lw T c y k N (S k))) → ∃ I' L' Q' f, FW I' L' Q' T c y W g ∧ Mem I' T c y W g ∧ FiF I I' L L' Q Q' ∧ (∀ j, j < st → I' 64 j = I 64 j) ∧ (∀ k, 74 ≤ k → L' k = L k) ∧ (okS T c y W g 1 S → isF T c y W g 1 S f ∧ I' 64 st = nI (f 0)) ∧ J_X1_search_68 E (F_X1_search E n) (rr w 63) (nI st) x (Hw E w I1 L1 Q1) = rtI (zb (okS T c y W g 1 S)) (Hw E w I' L' Q') := by
    intro x I1 L1 Q1 w1 ar m1' bx
    have upd64 : ∀ v, FW (up2 I1 64 st v) L1 Q1 T c y W g ∧ Mem (up2 I1 64 st v) T c y W g ∧ FiF I (up2 I1 64 st v) L L1 Q Q1 ∧ (∀ j, j < st → up2 I1 64 st v 64 j = I 64 j) ∧ (∀ k, 74 ≤ k → L1 k = L k) := fun v => by
      have U : ∀ j, j ≠ 64 → up2 I1 64 st v j = I1 j := fun j hj => up2_row _ _ hj
      have f : FiF I1 (up2 I1 64 st v) L1 L1 Q1 Q1 := ⟨fun j hj => U j (by unfold fiI at hj; omega), fun _ _ => rfl, fun _ _ => rfl⟩
      refine ⟨w1.mv f (MapY_k (U 32 (by decide)) (U 38 (by decide)) (fun _ _ _ => rfl) w1.2.1) (StepsR_c (U 48 (by decide)) (U 49 (by decide)) (U 51 (by decide)) rfl rfl w1.1.2.2.2.2.2.2.1), ?_, ar.1.tr f, fun j hj => ?_, ar.2.2⟩
      · unfold Mem at *
        rw [U 66 (by decide), U 67 (by decide), U 68 (by decide)]; exact m1'
      · rw [up2_i _ _ _ (by omega), ar.2.1]
    by_cases p : x = 0
    · have no : ¬ okS T c y W g 1 S := fun ⟨N, hN, z⟩ => (z32.mp p) N (by omega) ((bx N).mpr ⟨hN, (ok1 N).mp z⟩)
      obtain ⟨u1, u2, u3, u4, u5⟩ := upd64 (-1)
      refine ⟨_, L1, Q1, fun _ => 0, u1, u2, u3, u4, u5, fun z => absurd z no, ?_⟩
      unfold J_X1_search_68 J_X1_search_86
      rw [zb_f no]
      simp (disch := omega) only [Option.bind_some, Option.map_some, Option.join, cI_r, cL_r, cV_r, xI_r, xL_r, xV_r, xI_t, xL_t, xV_t, lt_r, rtZ_0, rtZ_1, rtZ_zb, gf63_3, if_neg (not_not_intro p), pa64, ix_n, if_pos p]
    · have ex : ∃ N, b32 x N := Classical.not_not.mp (fun z => p (z32.mpr (fun j _ hj => z ⟨j, hj⟩)))
      obtain ⟨N, hN⟩ := ex
      obtain ⟨M, hM1, hM2⟩ := low_ex hN
      have hM := (bx M).mp hM1
      have yes : okS T c y W g 1 S := ⟨M, hM.1, (ok1 M).mpr hM.2⟩
      obtain ⟨u1, u2, u3, u4, u5⟩ := upd64 (nI M)
      refine ⟨_, L1, Q1, fun _ => M, u1, u2, u3, u4, u5, fun _ => ⟨⟨⟨hM.1, (ok1 M).mpr hM.2⟩, fun N' hN' z => ?_, trivial⟩, up2_s _ _ _ _⟩, ?_⟩
      · have hN'' : N' < M := hN'
        exact hM2 N' hN'' ((bx N').mpr ⟨by have := hM.1; omega, (ok1 N').mp z⟩)
      · unfold J_X1_search_68 J_X1_search_86
        rw [zb_t yes]
        simp (disch := omega) only [Option.bind_some, Option.map_some, Option.join, cI_r, cL_r, cV_r, xI_r, xL_r, xV_r, xI_t, xL_t, xV_t, lt_r, rtZ_0, rtZ_1, rtZ_zb, gf63_3, if_pos p, f_lowest32 hM1 hM2, pa64, ix_n, if_neg p]
  refine lpE (σ := (Nat → Nat → Int32) × (Nat → Nat → Int64) × (Nat → Nat → Option Nat) × Int32) (Lp := fun g' i s => L_X1_search_29 E (F_X1_search E n) (fun w1 h3 => J_X1_search_68 E (F_X1_search E n) (rr w 63) (nI st) w1 h3) (rr w 63) (nI st) g' s.2.2.2 (nI i) (Hw E w s.1 s.2.1 s.2.2.1)) (Iv := fun i s => FW s.1 s.2.1 s.2.2.1 T c y W g ∧ ArF I s.1 L s.2.1 Q s.2.2.1 ∧ Mem s.1 T c y W g ∧ ∀ N, b32 s.2.2.2 N ↔ N < 31 ∧ ∀ k, k < i → b32 W k → gdY T g (lw T c y k N (S k))) (Post := fun o => ∃ I' L' Q' f, FW I' L' Q' T c y W g ∧ Mem I' T c y W g ∧ FiF I I' L L' Q Q' ∧ (∀ j, j < st → I' 64 j = I 64 j) ∧ (∀ k, 74 ≤ k → L' k = L k) ∧ (okS T c y W g 1 S → isF T c y W g 1 S f ∧ I' 64 st = nI (f 0)) ∧ o = rtI (zb (okS T c y W g 1 S)) (Hw E w I' L' Q')) (N := 8) ?_ ?_ E.2.2.1 0 (I, L, Q, 2147483647) (by omega) (by omega) ⟨h, ArF.rf, hm, fun N => ?_⟩
  · rintro g' i ⟨I1, L1, Q1, x⟩ hi ⟨z1, z2, z3, z4⟩
    dsimp only at *
    by_cases p : x = 0
    · right
      have bx : ∀ N, b32 x N ↔ N < 31 ∧ ∀ k, k < 8 → b32 W k → gdY T g (lw T c y k N (S k)) := fun N => by
        constructor
        · intro z; rw [p] at z; exact absurd z b32_0
        · rintro ⟨h1, h2⟩
          exact (z4 N).mpr ⟨h1, fun k hk hb => h2 k (by omega) hb⟩
      obtain ⟨I', L', Q', f, r1, r2, r3, r4, r5, r6, r7⟩ := fin x I1 L1 Q1 z1 z2 z3 bx
      refine ⟨I', L', Q', f, r1, r2, r3, r4, r5, r6, ?_⟩
      show L_X1_search_29 E (F_X1_search E n) (fun w1 h3 => J_X1_search_68 E (F_X1_search E n) (rr w 63) (nI st) w1 h3) (rr w 63) (nI st) (g' + 1) x (nI i) (Hw E w I1 L1 Q1) = _
      rw [L_X1_search_29, m8, if_neg (nI_ge hi (by decide)), if_pos p]
      exact r7
    · left
      by_cases p2 : b32 W i
      · have hi4 := hW i p2
        have eS1 : cSt L1 st i = S i := by rw [eSk]; unfold cSt; rw [z2.2.2 _ (by omega)]
        obtain ⟨I2, L2, Q2, x', a1, a2, a3, a4, a5⟩ := c_arriving (E := E) (w := w) (k := i) (st := st) (x1 := x) hG z1 hg hi4 p2 hst z3 (fun N hN => ((z4 N).mp hN).1) (by rw [eS1, eSk]; exact hX i hi4 p2)
        rw [eS1] at a4
        have hb : b64 W.toInt64 i := (b64_32 (by omega)).mpr p2
        refine ⟨(I2, L2, Q2, x'), ⟨a1, z2.tr a2, a3, fun N => ?_⟩, ?_⟩
        · show b32 x' N ↔ _
          rw [a4 N, z4 N]
          constructor
          · rintro ⟨⟨h1, h2⟩, h3⟩
            refine ⟨h1, fun k hk hb => ?_⟩
            by_cases e : k = i
            · rw [e]; exact h3
            · exact h2 k (by omega) hb
          · rintro ⟨h1, h2⟩
            exact ⟨⟨h1, fun k hk hb => h2 k (by omega) hb⟩, h2 i (by omega) p2⟩
        · show L_X1_search_29 E (F_X1_search E n) (fun w1 h3 => J_X1_search_68 E (F_X1_search E n) (rr w 63) (nI st) w1 h3) (rr w 63) (nI st) (g' + 1) x (nI i) (Hw E w I1 L1 Q1) = L_X1_search_29 E (F_X1_search E n) (fun w1 h3 => J_X1_search_68 E (F_X1_search E n) (rr w 63) (nI st) w1 h3) (rr w 63) (nI st) g' x' (nI (i + 1)) (Hw E w I2 L2 Q2)
          rw [L_X1_search_29, m8, if_neg (nI_ge hi (by decide)), if_neg p]
          simp (disch := omega) only [Option.bind_some, Option.map_some, Option.join, cI_r, cL_r, cV_r, xI_r, xL_r, xV_r, xI_t, xL_t, xV_t, lt_r, rtZ_0, rtZ_1, rtZ_zb, gf63_1, z1.2.2.2.2.1, f_isIn, zi_t hb, o63, a5, nI_1]
      · have p' : ¬ b64 W.toInt64 i := fun z => p2 ((b64_32 (by omega)).mp z)
        refine ⟨(I1, L1, Q1, x), ⟨z1, z2, z3, fun N => ?_⟩, ?_⟩
        · show b32 x N ↔ _
          rw [z4 N]
          exact and_congr_right fun _ => ⟨fun h2 k hk hb => by
            by_cases e : k = i
            · rw [e] at hb; exact absurd hb p2
            · exact h2 k (by omega) hb, fun h2 k hk hb => h2 k (by omega) hb⟩
        · show L_X1_search_29 E (F_X1_search E n) (fun w1 h3 => J_X1_search_68 E (F_X1_search E n) (rr w 63) (nI st) w1 h3) (rr w 63) (nI st) (g' + 1) x (nI i) (Hw E w I1 L1 Q1) = L_X1_search_29 E (F_X1_search E n) (fun w1 h3 => J_X1_search_68 E (F_X1_search E n) (rr w 63) (nI st) w1 h3) (rr w 63) (nI st) g' x (nI (i + 1)) (Hw E w I1 L1 Q1)
          rw [L_X1_search_29, m8, if_neg (nI_ge hi (by decide)), if_neg p]
          simp (disch := omega) only [Option.bind_some, Option.map_some, Option.join, cI_r, cL_r, cV_r, xI_r, xL_r, xV_r, xI_t, xL_t, xV_t, lt_r, rtZ_0, rtZ_1, rtZ_zb, gf63_1, z1.2.2.2.2.1, f_isIn, zi_f p', nI_1]
  · rintro g' ⟨I1, L1, Q1, x⟩ ⟨z1, z2, z3, z4⟩
    dsimp only at *
    obtain ⟨I', L', Q', f, r1, r2, r3, r4, r5, r6, r7⟩ := fin x I1 L1 Q1 z1 z2 z3 z4
    refine ⟨I', L', Q', f, r1, r2, r3, r4, r5, r6, ?_⟩
    show L_X1_search_29 E (F_X1_search E n) (fun w1 h3 => J_X1_search_68 E (F_X1_search E n) (rr w 63) (nI st) w1 h3) (rr w 63) (nI st) (g' + 1) x (nI 8) (Hw E w I1 L1 Q1) = _
    rw [L_X1_search_29, m8, if_pos (nI_le (Nat.le_refl 8) (by decide))]
    exact r7
  · show b32 2147483647 N ↔ _
    constructor
    · intro z
      have h1 := b32_lt z
      unfold b32 at z
      rw [b32_full N h1] at z
      exact ⟨of_decide_eq_true z, fun k hk => absurd hk (by omega)⟩
    · rintro ⟨h1, -⟩
      unfold b32
      rw [b32_full N (by omega)]
      exact decide_eq_true h1
end
