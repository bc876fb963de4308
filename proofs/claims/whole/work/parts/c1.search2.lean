/-! shortest: the class seeks, whole -/
section
variable {E : Ev} {w : Wo} {I I1 I2 : Nat → Nat → Int32} {L L1 L2 : Nat → Nat → Int64} {Q Q1 Q2 : Nat → Nat → Option Nat} {c : Nat → Nat} {T : Ro} {y : Nat} {W : Int32} {g0 : Nat}
theorem c_search (hG : 100000 ≤ E.2.2.1) (hg : g0 < c 0) (hW : ∀ k, b32 W k → k < c 4) : ∀ d n st (I : Nat → Nat → Int32) (L : Nat → Nat → Int64) (Q : Nat → Nat → Option Nat), d < n → st + d ≤ 2 → FW I L Q T c y W g0 → Mem I T c y W g0 → (∀ k, k < c 4 → b32 W k → ∀ q, cSt L st k q → q < 4 * c 1) → ∃ I' L' Q' f, FW I' L' Q' T c y W g0 ∧ Mem I' T c y W g0 ∧ FiF I I' L L' Q Q' ∧ (∀ j, j < st → I' 64 j = I 64 j) ∧ (∀ n, n < 8 * (st + 1) → L' (74 + 2 * n) = L (74 + 2 * n)) ∧ (okS T c y W g0 (d + 1) (fun k => cSt L st k) → isF T c y W g0 (d + 1) (fun k => cSt L st k) f ∧ ∀ i, i < d + 1 → I' 64 (st + i) = nI (f i)) ∧ F_X1_search E n (rr w 63) (nI st) (nI (d + 1)) (Hw E w I L Q) = rtI (zb (okS T c y W g0 (d + 1) (fun k => cSt L st k))) (Hw E w I' L' Q') := by
  intro d
  induction d with
  | zero =>
    intro n st I L Q hn hst h hm hX
    obtain ⟨n, rfl⟩ : ∃ m, n = m + 1 := ⟨n - 1, by omega⟩
    obtain ⟨I', L', Q', f, r1, r2, r3, r4, r5, r6, r7⟩ := c_lastw (E := E) (w := w) (n := n) (st := st) hG h hg hW (by omega) hm hX
    refine ⟨I', L', Q', f, r1, r2, r3, r4, fun j hj => r5 _ (by omega), fun x => ⟨(r6 x).1, fun i hi => ?_⟩, ?_⟩
    · rw [show i = 0 by omega]; exact (r6 x).2
    · have i1 : (1 : Int32) = nI 1 := rfl
      rw [F_X1_search, if_neg (nI_pos (by omega)), if_neg (by decide), if_pos (by rw [nI_add, m3]; exact nI_le (by omega) (by decide)), if_neg (not_not_intro (show nI (0 + 1) = (1 : Int32) from rfl))]
      exact r7
  | succ d ih =>
    intro n st I L Q hn hst h hm hX
    obtain ⟨n, rfl⟩ : ∃ m, n = m + 1 := ⟨n - 1, by omega⟩
    have i1 : (1 : Int32) = nI 1 := rfl
    have k4 : c 4 ≤ 8 := (h.1.2.1.1 4 (by decide)).2
    have k1 : c 1 ≤ 60 := (h.1.2.1.1 1 (by decide)).2
    have ne : ¬ nI (d + 1 + 1) = 1 := fun e => by have := (nI_eq (by omega) (show 1 < 2 ^ 31 by decide)).mp e; omega
    have n1 : ¬ nI (d + 1 + 1) < 1 := by rw [i1, nI_ltI (by omega) (by decide)]; omega
    rw [F_X1_search, if_neg (nI_pos (by omega)), if_neg n1, if_pos (by rw [nI_add, m3]; exact nI_le (by omega) (by decide)), if_pos ne]
    generalize eS : (fun k => cSt L st k) = S
    have eSk : ∀ k, S k = cSt L st k := fun k => by rw [← eS]
    have em : nI (d + 1 + 1) - 1 = nI (d + 1) := by rw [i1, nI_sub' (by omega)]; rfl
    refine lpE (σ := (Nat → Nat → Int32) × (Nat → Nat → Int64) × (Nat → Nat → Option Nat)) (Lp := fun g i s => L_X1_search_100 E (F_X1_search E n) (rr w 63) (nI st) (nI (d + 1 + 1)) g (nI i) (Hw E w s.1 s.2.1 s.2.2)) (Iv := fun i s => FW s.1 s.2.1 s.2.2 T c y W g0 ∧ Mem s.1 T c y W g0 ∧ FiF I s.1 L s.2.1 Q s.2.2 ∧ (∀ j, j < st → s.1 64 j = I 64 j) ∧ (∀ n, n < 8 * (st + 1) → s.2.1 (74 + 2 * n) = L (74 + 2 * n)) ∧ ∀ N, N < i → ¬ (trs T c y W N S ∧ okS T c y W g0 (d + 1) (stpS T c y N S))) (Post := fun o => ∃ I' L' Q' f, FW I' L' Q' T c y W g0 ∧ Mem I' T c y W g0 ∧ FiF I I' L L' Q Q' ∧ (∀ j, j < st → I' 64 j = I 64 j) ∧ (∀ n, n < 8 * (st + 1) → L' (74 + 2 * n) = L (74 + 2 * n)) ∧ (okS T c y W g0 (d + 1 + 1) S → isF T c y W g0 (d + 1 + 1) S f ∧ ∀ i, i < d + 1 + 1 → I' 64 (st + i) = nI (f i)) ∧ o = rtI (zb (okS T c y W g0 (d + 1 + 1) S)) (Hw E w I' L' Q')) (N := 31) ?_ ?_ E.2.2.1 0 (I, L, Q) (by omega) (by omega) ⟨h, hm, FiF.rf, fun _ _ => rfl, fun _ _ => rfl, fun N hN => absurd hN (by omega)⟩
    · rintro g i ⟨I1, L1, Q1⟩ hi ⟨z1, z2, z3, z4, z5, z6⟩
      dsimp only at *
      generalize eA : up2 I1 64 st (nI i) = A
      have a1 : ∀ k, k ≠ 64 → A k = I1 k := fun k hk => by rw [← eA, up2_row _ _ hk]
      have a2 : A 64 st = nI i := by rw [← eA, up2_s]
      have a3 : ∀ j, j ≠ st → A 64 j = I1 64 j := fun j hj => by rw [← eA, up2_i _ _ _ hj]
      have fA : FiF I1 A L1 L1 Q1 Q1 := ⟨fun j hj => a1 j (by unfold fiI at hj; omega), fun _ _ => rfl, fun _ _ => rfl⟩
      have wA := z1.mv fA (MapY_k (a1 32 (by decide)) (a1 38 (by decide)) (fun _ _ _ => rfl) z1.2.1) (StepsR_c (a1 48 (by decide)) (a1 49 (by decide)) (a1 51 (by decide)) rfl rfl z1.1.2.2.2.2.2.2.1)
      have eM : ∀ k, k < c 4 → cSt L1 st k = S k := fun k hk => by
        rw [eSk]; unfold cSt; rw [z5 _ (by omega)]
      have eF : ∀ k, k < c 4 → b32 W k → (fun k => cSt L1 st k) k = S k := fun k hk _ => eM k hk
      obtain ⟨I2, L2, Q2, b1, b2, b3, b4, b5, b6⟩ := c_allGoOn (E := E) (w := w) (st := st) (N := i) hG wA hW (by omega) (by omega) (fun k hk hw q hq => hX k hk hw q (by rw [eM k hk, eSk] at hq; exact hq))
      rw [zb_c (trs_c (T := T) (c := c) (y := y) (W := W) (N := i) eF)] at b6
      have m2' : Mem I2 T c y W g0 := by
        unfold Mem at *
        rw [b3 66 (by decide) (by decide), b3 67 (by decide) (by decide), b3 68 (by decide) (by decide), a1 66 (by decide), a1 67 (by decide), a1 68 (by decide)]; exact z2
      have w4 : ∀ j, j < st → I2 64 j = I 64 j := fun j hj => by rw [b3 64 (by decide) (by decide), a3 j (by omega)]; exact z4 j hj
      have w5 : ∀ n, n < 8 * (st + 1) → L2 (74 + 2 * n) = L (74 + 2 * n) := fun n hn => (b4 n hn).trans (z5 n hn)
      have st0 : L_X1_search_100 E (F_X1_search E n) (rr w 63) (nI st) (nI (d + 1 + 1)) (g + 1) (nI i) (Hw E w I1 L1 Q1) = if zb (trs T c y W i S) = 0 then L_X1_search_100 E (F_X1_search E n) (rr w 63) (nI st) (nI (d + 1 + 1)) g (nI (i + 1)) (Hw E w I2 L2 Q2) else cI (F_X1_search E n (rr w 63) (nI (st + 1)) (nI (d + 1)) (Hw E w I2 L2 Q2)) fun v40 h40 => if v40 = 0 then L_X1_search_100 E (F_X1_search E n) (rr w 63) (nI st) (nI (d + 1 + 1)) g (nI (i + 1)) h40 else rtZ 1 h40 := by
        rw [L_X1_search_100]
        simp (disch := omega) only [Option.bind_some, Option.map_some, Option.join, cI_r, cL_r, cV_r, xI_r, xL_r, xV_r, xI_t, xL_t, xV_t, lt_r, rtZ_0, rtZ_1, rtZ_zb, m31, nI_leI, if_neg, gf63_3, pa64, ix_n, eA, o63, b6, nI_1, em]
      by_cases p : trs T c y W i S
      · have eN : ∀ k, k < c 4 → b32 W k → cSt L2 (st + 1) k = stpS T c y i S k := fun k hk hw => by
          rw [b5 ((trs_c eF).mpr p) k hk hw, eM k hk]; rfl
        have hX2 : ∀ k, k < c 4 → b32 W k → ∀ q, cSt L2 (st + 1) k q → q < 4 * c 1 := fun k hk hw q hq => by
          rw [eN k hk hw] at hq
          exact lw_lt (fun q hq => hX k hk hw q (by rw [eSk] at hq; exact hq)) q hq
        obtain ⟨I3, L3, Q3, f, r1, r2, r3, r4, r5, r6, r7⟩ := ih n (st + 1) I2 L2 Q2 (by omega) (by omega) b1 m2' hX2
        rw [zb_c (okS_c (d + 1) _ _ eN)] at r7
        have r4' : I3 64 st = nI i := by rw [r4 st (by omega), b3 64 (by decide) (by decide)]; exact a2
        have v3 : FiF I I3 L L3 Q Q3 := ((z3.tr fA).tr b2).tr r3
        have v4 : ∀ j, j < st → I3 64 j = I 64 j := fun j hj => by rw [r4 j (by omega)]; exact w4 j hj
        have v5 : ∀ n, n < 8 * (st + 1) → L3 (74 + 2 * n) = L (74 + 2 * n) := fun n hn => by rw [r5 n (by omega)]; exact w5 n hn
        by_cases p2 : okS T c y W g0 (d + 1) (stpS T c y i S)
        · right
          have r6' := r6 ((okS_c (d + 1) _ _ eN).mpr p2)
          have yes : okS T c y W g0 (d + 1 + 1) S := ⟨i, hi, p, p2⟩
          refine ⟨I3, L3, Q3, fun j => if j = 0 then i else f (j - 1), r1, r2, v3, v4, v5, fun _ => ⟨⟨⟨hi, p, p2⟩, z6, ?_⟩, fun j hj => ?_⟩, ?_⟩
          · exact isF_c (d + 1) _ _ _ eN r6'.1
          · dsimp only
            by_cases e : j = 0
            · rw [if_pos e, e]; exact r4'
            · rw [if_neg e]
              have := r6'.2 (j - 1) (by omega)
              rw [show st + 1 + (j - 1) = st + j by omega] at this
              exact this
          · show L_X1_search_100 E (F_X1_search E n) (rr w 63) (nI st) (nI (d + 1 + 1)) (g + 1) (nI i) (Hw E w I1 L1 Q1) = _
            rw [st0, zi_t p, r7, cI_r, zi_t p2, zb_t yes]
            rfl
        · left
          refine ⟨(I3, L3, Q3), ⟨r1, r2, v3, v4, v5, fun N hN => ?_⟩, ?_⟩
          · by_cases e : N = i
            · rw [e]; exact fun x => p2 x.2
            · exact z6 N (by omega)
          · show L_X1_search_100 E (F_X1_search E n) (rr w 63) (nI st) (nI (d + 1 + 1)) (g + 1) (nI i) (Hw E w I1 L1 Q1) = _
            rw [st0, zi_t p, r7, cI_r, zi_f p2]
      · left
        refine ⟨(I2, L2, Q2), ⟨b1, m2', (z3.tr fA).tr b2, w4, w5, fun N hN => ?_⟩, ?_⟩
        · by_cases e : N = i
          · rw [e]; exact fun x => p x.1
          · exact z6 N (by omega)
        · show L_X1_search_100 E (F_X1_search E n) (rr w 63) (nI st) (nI (d + 1 + 1)) (g + 1) (nI i) (Hw E w I1 L1 Q1) = _
          rw [st0, zi_f p]
    · rintro g ⟨I1, L1, Q1⟩ ⟨z1, z2, z3, z4, z5, z6⟩
      dsimp only at *
      have no : ¬ okS T c y W g0 (d + 1 + 1) S := fun ⟨N, hN, x⟩ => z6 N hN x
      refine ⟨I1, L1, Q1, fun _ => 0, z1, z2, z3, z4, z5, fun x => absurd x no, ?_⟩
      show L_X1_search_100 E (F_X1_search E n) (rr w 63) (nI st) (nI (d + 1 + 1)) (g + 1) (nI 31) (Hw E w I1 L1 Q1) = _
      rw [L_X1_search_100, m31, if_pos (nI_le (Nat.le_refl 31) (by decide)), zb_f no]
      rfl
/-- all walkers set out -/
theorem c_sets48 (hG : 100000 ≤ E.2.2.1) (h : CW I L Q T c) (hy : y ≤ 200) (hW0 : ∃ k, k < c 4 ∧ b32 W k) : ∃ I' L', CF I I' L L' Q Q ∧ CW I' L' Q T c ∧ MapY I' L' T c y ∧ (∀ k, k < c 4 → b32 W k → Gnd I' L' T c y k) ∧ ∀ K, L_X11_shortest_48 E K (rr w 136) W (nI y) E.2.2.1 0 (Hw E w I L Q) = K (Hw E w I' L' Q) := by
  have k4 : c 4 ≤ 8 := (h.2.1.1 4 (by decide)).2
  have e4 := (h.2.1.1 4 (by decide)).1
  obtain ⟨k0, hk0, hb0⟩ := hW0
  refine lpK2 (ρ := (Hp → Rs) → Rs) (σ := (Nat → Nat → Int32) × (Nat → Nat → Int64)) (Lp := fun g' i s K => L_X11_shortest_48 E K (rr w 136) W (nI y) g' (nI i) (Hw E w s.1 s.2 Q)) (K := fun s K => K (Hw E w s.1 s.2 Q)) (Iv := fun i s => CF I s.1 L s.2 Q Q ∧ CW s.1 s.2 Q T c ∧ (k0 < i → MapY s.1 s.2 T c y) ∧ ∀ k, k < i → b32 W k → Gnd s.1 s.2 T c y k) (N := c 4) (g := E.2.2.1) (i := 0) (s := (I, L)) ?_ ?_ ?_ (by omega) (by omega) ⟨CF.rf, h, fun z => absurd z (by omega), fun k hk => absurd hk (by omega)⟩
  · rintro ⟨I', L'⟩ ⟨z1, z2, z3, z4⟩ ee
    exact ⟨I', L', z1, z2, z3 hk0, z4, fun K => congrFun ee K⟩
  · rintro g' i ⟨I1, L1⟩ hi ⟨z1, z2, z3, z4⟩
    dsimp only at *
    have e15 : I1 15 2 = nI (c 4) := z2.2.2.2.1.2.1.1.trans e4
    by_cases p : b32 W i
    · have hb : b64 W.toInt64 i := (b64_32 (by omega)).mpr p
      obtain ⟨I2, L2, a1, a2, a3, a4, a5, a6⟩ := c_set (E := E) (w := w) (y := y) hG z2 hy hi
      refine ⟨(I2, L2), ⟨z1.tr a1, a2, fun _ => a3.2.2.1, fun k hk hb => ?_⟩, ?_⟩
      · by_cases e : k = i
        · rw [e]; exact a4
        · exact a5 k e (z4 k (by omega) hb)
      · funext K
        show L_X11_shortest_48 E K (rr w 136) W (nI y) (g' + 1) (nI i) (Hw E w I1 L1 Q) = L_X11_shortest_48 E K (rr w 136) W (nI y) g' (nI (i + 1)) (Hw E w I2 L2 Q)
        rw [L_X11_shortest_48]
        simp (disch := omega) only [Option.bind_some, Option.map_some, Option.join, cI_r, cL_r, cV_r, xI_r, xL_r, xV_r, xI_t, xL_t, xV_t, lt_r, rtZ_0, rtZ_1, rtZ_zb, gf136_1, gf15_2, e15, nI_leI, if_neg, f_isIn, zi_t hb, o136, a6, nI_1]
    · have p' : ¬ b64 W.toInt64 i := fun z => p ((b64_32 (by omega)).mp z)
      refine ⟨(I1, L1), ⟨z1, z2, fun z => ?_, fun k hk hb => ?_⟩, ?_⟩
      · by_cases e : k0 = i
        · rw [e] at hb0; exact absurd hb0 p
        · exact z3 (by omega)
      · by_cases e : k = i
        · rw [e] at hb; exact absurd hb p
        · exact z4 k (by omega) hb
      · funext K
        show L_X11_shortest_48 E K (rr w 136) W (nI y) (g' + 1) (nI i) (Hw E w I1 L1 Q) = L_X11_shortest_48 E K (rr w 136) W (nI y) g' (nI (i + 1)) (Hw E w I1 L1 Q)
        rw [L_X11_shortest_48]
        simp (disch := omega) only [Option.bind_some, Option.map_some, Option.join, cI_r, cL_r, cV_r, xI_r, xL_r, xV_r, xI_t, xL_t, xV_t, lt_r, rtZ_0, rtZ_1, rtZ_zb, gf136_1, gf15_2, e15, nI_leI, if_neg, f_isIn, zi_f p', nI_1]
  · rintro g' ⟨I1, L1⟩ ⟨z1, z2, z3, z4⟩
    dsimp only at *
    have e15 : I1 15 2 = nI (c 4) := z2.2.2.2.1.2.1.1.trans e4
    funext K
    show L_X11_shortest_48 E K (rr w 136) W (nI y) (g' + 1) (nI (c 4)) (Hw E w I1 L1 Q) = _
    rw [L_X11_shortest_48]
    simp (disch := omega) only [Option.bind_some, Option.map_some, Option.join, cI_r, cL_r, cV_r, xI_r, xL_r, xV_r, xI_t, xL_t, xV_t, lt_r, rtZ_0, rtZ_1, rtZ_zb, gf136_1, gf15_2, e15, nI_leI, if_pos]
/-- the finder begins -/
theorem c_beginF {s0 g : Nat} (hG : 100000 ≤ E.2.2.1) (h : CW I L Q T c) (hy : y ≤ 200) (hm : MapY I L T c y) (hgn : ∀ k, k < c 4 → b32 W k → Gnd I L T c y k) (hW : ∀ k, b32 W k → k < c 4) (hr : ∀ n, n < 24 → Q 65 n = some (73 + 2 * n)) (hg : g < c 0) (hs : s0 < 4 * c 1) : ∃ I' L', CF I I' L L' Q Q ∧ FW I' L' Q T c y W g ∧ Mem I' T c y W g ∧ (∀ k, k < c 4 → b32 W k → cSt L' 0 k = sg s0) ∧ F_X1_begin E (rr w 63) W (nI s0) (nI g) (Hw E w I L Q) = rtV (Hw E w I' L' Q) := by
  have k0 : c 0 ≤ 40 := (h.2.1.1 0 (by decide)).2
  have k1 : c 1 ≤ 60 := (h.2.1.1 1 (by decide)).2
  have k4 : c 4 ≤ 8 := (h.2.1.1 4 (by decide)).2
  have e1 := (h.2.1.1 1 (by decide)).1
  have ebs : (1 : Int64) <<< ((nI g).toInt64 &&& 63) = bs g := rfl
  generalize eA : up2 I 63 1 W = A
  generalize eB : up2 L 63 2 (bs g) = B
  have A1 : ∀ j, j ≠ 63 → A j = I j := fun j hj => by rw [← eA, up2_row _ _ hj]
  have A2 : A 63 1 = W := by rw [← eA, up2_s]
  have B1 : ∀ j, j ≠ 63 → B j = L j := fun j hj => by rw [← eB, up2_row _ _ hj]
  have B2 : B 63 2 = bs g := by rw [← eB, up2_s]
  have cfA : CF I A L B Q Q := ⟨fun k hk => A1 k (by omega), fun k hk => B1 k (by omega), fun _ _ _ _ => rfl⟩
  have mpA : MapY A B T c y := MapY_k (A1 32 (by decide)) (A1 38 (by decide)) (fun k g1 g2 => B1 k (by omega)) hm
  have stA : StepsR A B Q := StepsR_c (A1 48 (by decide)) (A1 49 (by decide)) (A1 51 (by decide)) (B1 50 (by decide)) (B1 52 (by decide)) h.2.2.2.2.2.2.1
  have wA : FW A B Q T c y W g := ⟨h.set cfA mpA.1 stA h.2.2.2.2.2.2.2.1 h.2.2.2.2.2.2.2.2, mpA, hy, fun k hk hb => by
    have := hgn k hk hb
    unfold Gnd at *; rw [A1 41 (by decide), B1 42 (by decide)]; exact this, A2, B2, hr⟩
  have st0 : F_X1_begin E (rr w 63) W (nI s0) (nI g) (Hw E w I L Q) = L_X1_begin_15 E (rr w 63) W (nI s0) E.2.2.1 0 (Hw E w A B Q) := by
    unfold F_X1_begin
    simp only [Option.bind_some, Option.map_some, Option.join, cI_r, cL_r, cV_r, xI_r, xL_r, xV_r, xI_t, xL_t, xV_t, lt_r, rtZ_0, rtZ_1, rtZ_zb, pf63_1, pf63_2, ebs, eA, eB]
  rw [st0]
  refine lpK2 (σ := (Nat → Nat → Int32) × (Nat → Nat → Int64)) (Lp := fun g' i s => L_X1_begin_15 E (rr w 63) W (nI s0) g' (nI i) (Hw E w s.1 s.2 Q)) (K := fun s => rtV (Hw E w s.1 s.2 Q)) (Iv := fun i s => FiF A s.1 B s.2 Q Q ∧ FW s.1 s.2 Q T c y W g ∧ (∀ k, k < i → b32 W k → ∀ s', s' < 4 * c 1 → s.1 66 (240 * k + s') = 0 ∧ s.1 67 (240 * k + s') = 0 ∧ s.1 68 (240 * k + s') = 0) ∧ ∀ k, k < i → b32 W k → cSt s.2 0 k = sg s0) (N := 8) (g := E.2.2.1) (i := 0) (s := (A, B)) ?_ ?_ ?_ (by omega) (by omega) ⟨FiF.rf, wA, fun k hk => absurd hk (by omega), fun k hk => absurd hk (by omega)⟩
  · rintro ⟨I', L'⟩ ⟨z1, z2, z3, z4⟩ ee
    dsimp only at *
    refine ⟨I', L', cfA.tr z1.cf, z2, fun k hk hb s' hs' N => ?_, fun k hk hb => z4 k (by omega) hb, ee⟩
    obtain ⟨x1, x2, x3⟩ := z3 k (by omega) hb s' hs'
    rw [x1, x2, x3]
    exact ⟨⟨fun z => absurd z b32_0, fun z => absurd z.1 b32_0⟩, ⟨fun z => absurd z b32_0, fun z => absurd z.1 b32_0⟩⟩
  · rintro g' i ⟨I1, L1⟩ hi ⟨z1, z2, z3, z4⟩
    dsimp only at *
    by_cases p : b32 W i
    · have hi4 := hW i p
      have hb : b64 W.toInt64 i := (b64_32 (by omega)).mpr p
      have e3 : I1 0 3 = nI (c 1) := z2.1.2.2.1.2.1.1.trans e1
      have q65 := z2.2.2.2.2.2.2 i (by omega)
      have sa : SO w (73 + 2 * i) := so73 i (by omega)
      have ea : 74 + 2 * i = 73 + 2 * i + 1 := by omega
      have fa := f_fillIR (E := E) (w := w) (I := I1) (L := L1) (Q := Q) (lo := 240 * i) (hi := 240 * i + 4 * c 1) (v := 0) hG ia66 (by omega) (by omega)
      have oa : ∀ k, k ≠ 66 → rs I1 66 (240 * i) (240 * i + 4 * c 1 - 240 * i) (fun _ => 0) k = I1 k := fun k hk => rs_row _ _ hk
      have oa1 : ∀ j, 240 * i ≤ j → j < 240 * i + 4 * c 1 → rs I1 66 (240 * i) (240 * i + 4 * c 1 - 240 * i) (fun _ => 0) 66 j = 0 := fun j g1 g2 => rs_in _ _ g1 (by omega)
      have oa2 : ∀ j, j < 240 * i → rs I1 66 (240 * i) (240 * i + 4 * c 1 - 240 * i) (fun _ => 0) 66 j = I1 66 j := fun j g1 => rs_out _ _ (by omega)
      generalize rs I1 66 (240 * i) (240 * i + 4 * c 1 - 240 * i) (fun _ => 0) = I2 at *
      have fb := f_fillIR (E := E) (w := w) (I := I2) (L := L1) (Q := Q) (lo := 240 * i) (hi := 240 * i + 4 * c 1) (v := 0) hG ia67 (by omega) (by omega)
      have o2 : ∀ k, k ≠ 67 → rs I2 67 (240 * i) (240 * i + 4 * c 1 - 240 * i) (fun _ => 0) k = I2 k := fun k hk => rs_row _ _ hk
      have ob1 : ∀ j, 240 * i ≤ j → j < 240 * i + 4 * c 1 → rs I2 67 (240 * i) (240 * i + 4 * c 1 - 240 * i) (fun _ => 0) 67 j = 0 := fun j g1 g2 => rs_in _ _ g1 (by omega)
      have ob2 : ∀ j, j < 240 * i → rs I2 67 (240 * i) (240 * i + 4 * c 1 - 240 * i) (fun _ => 0) 67 j = I2 67 j := fun j g1 => rs_out _ _ (by omega)
      generalize rs I2 67 (240 * i) (240 * i + 4 * c 1 - 240 * i) (fun _ => 0) = I3 at *
      have fc := f_fillIR (E := E) (w := w) (I := I3) (L := L1) (Q := Q) (lo := 240 * i) (hi := 240 * i + 4 * c 1) (v := 0) hG ia68 (by omega) (by omega)
      have oc : ∀ k, k ≠ 68 → rs I3 68 (240 * i) (240 * i + 4 * c 1 - 240 * i) (fun _ => 0) k = I3 k := fun k hk => rs_row _ _ hk
      have oc1 : ∀ j, 240 * i ≤ j → j < 240 * i + 4 * c 1 → rs I3 68 (240 * i) (240 * i + 4 * c 1 - 240 * i) (fun _ => 0) 68 j = 0 := fun j g1 g2 => rs_in _ _ g1 (by omega)
      have oc2 : ∀ j, j < 240 * i → rs I3 68 (240 * i) (240 * i + 4 * c 1 - 240 * i) (fun _ => 0) 68 j = I3 68 j := fun j g1 => rs_out _ _ (by omega)
      generalize rs I3 68 (240 * i) (240 * i + 4 * c 1 - 240 * i) (fun _ => 0) = I4 at *
      have cl := c_clear (E := E) (w := w) (I := I4) (L := L1) (Q := Q) hG sa
      have od : ∀ q, q < 256 → ¬ bq (rs L1 (73 + 2 * i + 1) 0 4 (fun _ => 0) (73 + 2 * i + 1)) q := fun q hq => clr_b hq
      have oe : ∀ k, k ≠ 73 + 2 * i + 1 → rs L1 (73 + 2 * i + 1) 0 4 (fun _ => 0) k = L1 k := fun k hk => rs_row _ _ hk
      generalize rs L1 (73 + 2 * i + 1) 0 4 (fun _ => 0) = L2 at *
      have ad := c_add (E := E) (w := w) (I := I4) (L := L2) (Q := Q) (s := s0) sa (by omega)
      have oi : ∀ q, q < 256 → (bq (adS L2 (73 + 2 * i + 1) s0 (73 + 2 * i + 1)) q ↔ q = s0) := fun q hq => by
        rw [adS_b (by omega) hq]
        exact ⟨fun z => z.elim (fun z => absurd z (od q hq)) id, Or.inr⟩
      have oj : ∀ k, k ≠ 73 + 2 * i + 1 → adS L2 (73 + 2 * i + 1) s0 k = L2 k := fun k hk => adS_row hk
      generalize adS L2 (73 + 2 * i + 1) s0 = L3 at *
      have U : ∀ k, k ≠ 66 → k ≠ 67 → k ≠ 68 → I4 k = I1 k := fun k g1 g2 g3 => by rw [oc k g3, o2 k g2, oa k g1]
      have V : ∀ k, k ≠ 74 + 2 * i → L3 k = L1 k := fun k hk => by rw [oj k (by omega), oe k (by omega)]
      have f : FiF I1 I4 L1 L3 Q Q := ⟨fun k hk => U k (by unfold fiI at hk; omega) (by unfold fiI at hk; omega) (by unfold fiI at hk; omega), fun k hk => V k (by unfold fiL at hk; omega), fun _ _ => rfl⟩
      have wN := z2.mv f (MapY_k (U 32 (by decide) (by decide) (by decide)) (U 38 (by decide) (by decide) (by decide)) (fun k g1 g2 => V k (by omega)) z2.2.1) (StepsR_c (U 48 (by decide) (by decide) (by decide)) (U 49 (by decide) (by decide) (by decide)) (U 51 (by decide) (by decide) (by decide)) (V 50 (by omega)) (V 52 (by omega)) z2.1.2.2.2.2.2.2.1)
      have e66 : ∀ k, k < i + 1 → b32 W k → ∀ s', s' < 4 * c 1 → I4 66 (240 * k + s') = 0 ∧ I4 67 (240 * k + s') = 0 ∧ I4 68 (240 * k + s') = 0 := fun k hk hb s' hs' => by
        rw [oc 66 (by decide), o2 66 (by decide), oc 67 (by decide)]
        by_cases e : k = i
        · subst e
          exact ⟨oa1 _ (by omega) (by omega), ob1 _ (by omega) (by omega), oc1 _ (by omega) (by omega)⟩
        · rw [oa2 _ (by omega), ob2 _ (by omega), oc2 _ (by omega), oa 67 (by decide), o2 68 (by decide), oa 68 (by decide)]
          exact z3 k (by omega) hb s' hs'
      have eSt : ∀ k, k < i + 1 → b32 W k → cSt L3 0 k = sg s0 := fun k hk hb => by
        by_cases e : k = i
        · subst e
          funext q
          unfold cSt sg
          rw [show 74 + 2 * (8 * 0 + k) = 73 + 2 * k + 1 by omega]
          exact propext ⟨fun z => (oi q z.1).mp z.2, fun z => ⟨by omega, (oi q (by omega)).mpr z⟩⟩
        · rw [← z4 k (by omega) hb]
          unfold cSt; rw [V _ (by omega)]
      refine ⟨(I4, L3), ⟨z1.tr f, wN, e66, eSt⟩, ?_⟩
      show L_X1_begin_15 E (rr w 63) W (nI s0) (g' + 1) (nI i) (Hw E w I1 L1 Q) = L_X1_begin_15 E (rr w 63) W (nI s0) g' (nI (i + 1)) (Hw E w I4 L3 Q)
      rw [L_X1_begin_15]
      simp (disch := omega) only [Option.bind_some, Option.map_some, Option.join, cI_r, cL_r, cV_r, xI_r, xL_r, xV_r, xI_t, xL_t, xV_t, lt_r, rtZ_0, rtZ_1, rtZ_zb, m8, nI_leI, if_neg, f_isIn, zi_t hb, gf63_0, gf40_0, gf32_0, gf0_3, e3, m240, m4, pk_mul, nI_add, show i * 240 = 240 * i by omega, gf63_5, fa, gf63_6, fb, gf63_7, fc, gf63_4, ga65, ix_n, q65, id_eq, sa.o, cl, ad, nI_1]
    · have p' : ¬ b64 W.toInt64 i := fun z => p ((b64_32 (by omega)).mp z)
      refine ⟨(I1, L1), ⟨z1, z2, fun k hk hb => ?_, fun k hk hb => ?_⟩, ?_⟩
      · by_cases e : k = i
        · rw [e] at hb; exact absurd hb p
        · exact z3 k (by omega) hb
      · by_cases e : k = i
        · rw [e] at hb; exact absurd hb p
        · exact z4 k (by omega) hb
      · show L_X1_begin_15 E (rr w 63) W (nI s0) (g' + 1) (nI i) (Hw E w I1 L1 Q) = L_X1_begin_15 E (rr w 63) W (nI s0) g' (nI (i + 1)) (Hw E w I1 L1 Q)
        rw [L_X1_begin_15]
        simp (disch := omega) only [Option.bind_some, Option.map_some, Option.join, cI_r, cL_r, cV_r, xI_r, xL_r, xV_r, xI_t, xL_t, xV_t, lt_r, rtZ_0, rtZ_1, rtZ_zb, m8, nI_leI, if_neg, f_isIn, zi_f p', nI_1]
  · rintro g' ⟨I1, L1⟩ _
    show L_X1_begin_15 E (rr w 63) W (nI s0) (g' + 1) (nI 8) (Hw E w I1 L1 Q) = _
    rw [L_X1_begin_15, m8, if_pos (nI_le (Nat.le_refl 8) (by decide))]
end
