/-! words of the class: the N-th to a side -/
def oN (T : Ro) (c : Nat → Nat) (y sd : Nat) (ac : Prop) (s a : Nat) : Prop := (isOt T c (thr0 T c y) s a ∧ sid T s a = sd) ∧ (ac ∨ ¬ isPt T a)
def cnN (T : Ro) (c : Nat → Nat) (y sd : Nat) (ac : Prop) (P : Nat → Prop) (s : Nat) : Prop := (∃ a, oN T c y sd ac s a) ∧ ¬ P s
def nthZ (cn : Nat → Prop) (N : Nat) (Z : Nat → Nat → Prop) (s l : Nat) : Prop := (¬ cn s ∧ Z s l) ∨ (cn s ∧ l < N ∧ 1 ≤ l ∧ Z s (l - 1))
def ZT (T : Ro) (c : Nat → Nat) (y : Nat) (cn : Nat → Prop) (N : Nat) (Z : Nat → Nat → Prop) : Nat → (Nat → Nat → Prop)
  | 0 => Z
  | i + 1 => nthZ cn N (nxZ T c y 0 (ZT T c y cn N Z i))
def adN (T : Ro) (c : Nat → Nat) (y sd : Nat) (ac : Prop) (P : Nat → Prop) (N : Nat) (Z : Nat → Nat → Prop) (q : Nat) : Prop := q % 2 = 0 ∧ ∃ s, s < 4 * c 1 ∧ Z s (N - 1) ∧ cnN T c y sd ac P s ∧ oN T c y sd ac s (q / 2)
def wNth (T : Ro) (c : Nat → Nat) (y sd : Nat) (ac : Prop) (P : Nat → Prop) (pat N : Nat) (X : Nat → Prop) (q : Nat) : Prop := ∃ i, i < pat ∧ adN T c y sd ac P N (nxZ T c y 0 (ZT T c y (cnN T c y sd ac P) N (Z0 X) i)) q
section
variable {E : Ev} {w : Wo} {I : Nat → Nat → Int32} {L : Nat → Nat → Int64} {Q : Nat → Nat → Option Nat} {c : Nat → Nat} {T : Ro} {a b t u y : Nat}
theorem b64_not {x : Int64} {j : Nat} (hj : j < 64) : b64 (x ^^^ (-1 : Int64)) j ↔ ¬ b64 x j := by
  have : ∀ j, j < 64 → b64 (-1 : Int64) j := by
    intro j hj
    unfold b64
    have : ∀ j, j < 64 → (-1 : Int64).toBitVec.getLsbD j = true := by decide +kernel
    exact this j hj
  rw [b64_xor]
  exact ⟨fun z y => z ⟨fun _ => this j hj, fun _ => y⟩, fun z y => z (y.mpr (this j hj))⟩
theorem bm1 {j : Nat} (hj : j < 64) : b64 (-1 : Int64) j := by
  have h := (b64_not (x := 0) hj).mpr b64_0
  rw [show (0 : Int64) ^^^ (-1) = -1 from rfl] at h
  exact h
/-- one turn over the arrows come to -/
theorem c_nth99 {to fr nf n st N sd : Nat} {v lo hh : Int64} {ac : Prop} {Z : Nat → Nat → Prop} (hG : 100000 ≤ E.2.2.1) (q1 : WfT T c) (q2 : LandR I T c) (hy : y ≤ 200) (so : SO w to) (ht : okTo to) (hsd : sd < 2) (hN : 1 ≤ N) (hN2 : N ≤ 20) (hlo : ∀ s, s < 4 * c 1 → ∀ x, x < 128 → (isOt T c (thr0 T c y) s x → (ba lo hh x ↔ ac ∨ ¬ isPt T x))) (hZ : ∀ s l, Z s l → l < N) (h : Wk w T c y fr nf 0 I L Q Z a b t u n st 0) (hl : Lst (2 * c 1) (I a) (L t) n) : ∃ I' L', Wk w T c y fr nf 0 I' L' Q (nthZ (cnN T c y sd ac (inP T v)) N Z) a b t u n st 0 ∧ (∀ k, k ≠ 38 → I' k = I k) ∧ (∀ k, k ≠ 39 → k ≠ 50 → k ≠ 52 → k ≠ to + 1 → L' k = L k) ∧ (∀ q, q < 256 → (bq (L' (to + 1)) q ↔ bq (L (to + 1)) q ∨ adN T c y sd ac (inP T v) N Z q)) ∧ ∀ K, L_X9_turnAt_99 E K (rr w 40) (nI N) (nI sd) v (rr w to) lo hh E.2.2.1 0 (Hw E w I L Q) = K (Hw E w I' L' Q) := by
  have k0 : c 0 ≤ 40 := (q1.1 0 (by decide)).2
  have k1 : c 1 ≤ 60 := (q1.1 1 (by decide)).2
  unfold okTo at ht
  obtain ⟨w1, w2, w3, w4, w5, w6, w7, w8, w9, w10⟩ := h
  obtain ⟨hA, C2, C3, C4, C5, C6, C7, C8, C9⟩ := w1
  have gg := fun (I : Nat → Nat → Int32) (L : Nat → Nat → Int64) => hA.g (E := E) (w := w) (I := I) (L := L)
  have nn := hA.n
  have hA' := hA.2.2.2.2.2
  have ia := (hA.ia (w := w)).1
  have la := (hA.la (w := w)).1
  generalize hcn : cnN T c y sd ac (inP T v) = cn
  have zx : ∀ x, x < 120 → ∀ l, (Z (2 * x) l ↔ b64 (L t x) l) := fun x hx l => by
    rw [← w10 (2 * x) l]
    constructor
    · rintro (⟨i, z1, z2, _⟩ | ⟨x', z1, z2, z3⟩)
      · omega
      · have : x' = x := by omega
        rw [← this]; exact z3
    · intro z; exact Or.inr ⟨x, hx, rfl, z⟩
  have zev : ∀ s l, Z s l → s % 2 = 0 ∧ s < 4 * c 1 ∧ s / 2 < 120 := fun s l z => by
    rcases (w10 s l).mpr z with ⟨i, z1, z2, _⟩ | ⟨x, z1, z2, z3⟩
    · omega
    · obtain ⟨i, h1, h2⟩ := C8 x z1 (fun e => by rw [e] at z3; exact b64_0 z3)
      obtain ⟨j, h3, h4⟩ := C6 i h1
      have : j = x := (nI_eq (by omega) (by omega)).mp (by rw [← h3, h2])
      omega
  refine lpK2 (ρ := (Hp → Rs) → Rs) (σ := (Nat → Nat → Int32) × (Nat → Nat → Int64)) (Lp := fun g i z => fun K => L_X9_turnAt_99 E K (rr w 40) (nI N) (nI sd) v (rr w to) lo hh g (nI i) (Hw E w z.1 z.2 Q)) (K := fun z => fun K => K (Hw E w z.1 z.2 Q)) (Iv := fun i z => (∀ k, k ≠ 38 → z.1 k = I k) ∧ (∀ k, k ≠ 39 → k ≠ t → k ≠ to + 1 → z.2 k = L k) ∧ MapY z.1 z.2 T c y ∧ (∀ j, j < 120 → ((∃ i', i' < i ∧ I a i' = nI j) ∧ cn (2 * j) → ∀ l, (b64 (z.2 t j) l ↔ l ≠ N ∧ 1 ≤ l ∧ l < 64 ∧ b64 (L t j) (l - 1))) ∧ (¬ ((∃ i', i' < i ∧ I a i' = nI j) ∧ cn (2 * j)) → z.2 t j = L t j)) ∧ ∀ q, q < 256 → (bq (z.2 (to + 1)) q ↔ bq (L (to + 1)) q ∨ (q % 2 = 0 ∧ ∃ x, x < 2 * c 1 ∧ (∃ i', i' < i ∧ I a i' = nI x) ∧ cn (2 * x) ∧ b64 (L t x) (N - 1) ∧ oN T c y sd ac (2 * x) (q / 2)))) (N := n) (g := E.2.2.1) (i := 0) (s := (I, L)) ?_ ?_ ?_ (by omega) (by omega) ⟨fun _ _ => rfl, fun _ _ _ _ => rfl, w9, fun j hj => ⟨fun ⟨⟨i, z, _⟩, _⟩ => absurd z (by omega), fun _ => rfl⟩, fun q hq => ⟨Or.inl, fun z => z.elim id (fun ⟨_, x, _, ⟨i, z, _⟩, _⟩ => absurd z (by omega))⟩⟩
  · rintro ⟨I', L'⟩ ⟨z1, z2, z3, z4, z5⟩ ee
    dsimp only at *
    refine ⟨I', L', ⟨⟨hA, C2, by rw [z1 48 (by decide)]; exact C3, C4, by rw [z1 48 (by decide)]; exact C5, by rw [z1 a (by omega)]; exact C6, by rw [z1 a (by omega)]; exact C7, fun j hj hz => ?_, fun j hj => ?_⟩, w2, by rw [z1 48 (by decide)]; exact w3, by rw [z1 48 (by decide)]; exact w4, w5, w6, fun i _ hi => absurd hi (by omega), by rw [z2 48 (by decide) (by omega) (by omega)]; exact w8, z3, fun s l => ?_⟩, z1, fun k g1 g2 g3 g4 => z2 k g1 (by omega) g4, fun q hq => ?_, fun K => congrFun ee K⟩
    · rw [z1 a (by omega)]
      by_cases p : (∃ i', i' < n ∧ I a i' = nI j) ∧ cn (2 * j)
      · exact p.1
      · rw [(z4 j hj).2 p] at hz; exact C8 j hj hz
    · rw [z2 u (by omega) (by omega) (by omega)]; exact C9 j hj
    · have key : ∀ x, x < 120 → ∀ l, (b64 (L' t x) l ↔ nthZ cn N Z (2 * x) l) := fun x hx l => by
        unfold nthZ
        by_cases p : (∃ i', i' < n ∧ I a i' = nI x) ∧ cn (2 * x)
        · rw [(z4 x hx).1 p l, zx x hx (l - 1)]
          constructor
          · rintro ⟨g1, g2, g3, g4⟩
            have := hZ _ _ ((zx x hx (l - 1)).mpr g4)
            exact Or.inr ⟨p.2, by omega, g2, g4⟩
          · rintro (g | ⟨g1, g2, g3, g4⟩)
            · exact absurd p.2 g.1
            · exact ⟨by omega, g3, by omega, g4⟩
        · rw [(z4 x hx).2 p, zx x hx l, zx x hx (l - 1)]
          have ls : ∀ l, b64 (L t x) l → ¬ cn (2 * x) := fun l z y => p ⟨C8 x hx (fun e => by rw [e] at z; exact b64_0 z), y⟩
          exact ⟨fun z => Or.inl ⟨ls l z, z⟩, fun z => z.elim (fun z => z.2) (fun z => absurd z.1 (ls _ z.2.2.2))⟩
      constructor
      · rintro (⟨i, g1, g2, _⟩ | ⟨x, g1, g2, g3⟩)
        · omega
        · rw [g2]; exact (key x g1 l).mp g3
      · intro g
        have : s % 2 = 0 ∧ s / 2 < 120 := by
          rcases g with g | g
          · have := zev s l g.2; omega
          · have := zev s _ g.2.2.2; omega
        refine Or.inr ⟨s / 2, this.2, by omega, (key (s / 2) this.2 l).mpr ?_⟩
        rw [show 2 * (s / 2) = s by omega]; exact g
    · rw [z5 q hq, ← hcn]
      unfold adN
      refine or_congr_right (and_congr_right fun _ => ⟨?_, ?_⟩)
      · rintro ⟨x, g1, g2, g3, g4, g5⟩
        exact ⟨2 * x, by omega, (zx x (by omega) _).mpr g4, g3, g5⟩
      · rintro ⟨s, g1, g2, g3, g4⟩
        have := zev s _ g2
        have es : 2 * (s / 2) = s := by omega
        have g2' := (zx (s / 2) this.2.2 (N - 1)).mp (by rw [es]; exact g2)
        exact ⟨s / 2, by omega, C8 (s / 2) this.2.2 (fun e => by rw [e] at g2'; exact b64_0 g2'), by rw [es]; exact g3, g2', by rw [es]; exact g4⟩
  · rintro g i ⟨I1, L1⟩ hi ⟨z1, z2, z3, z4, z5⟩
    dsimp only at *
    obtain ⟨x, ex, hx⟩ := C6 i hi
    obtain ⟨p, ep, hp', e7⟩ := spl_n (I := I) q1 q2 (show 2 * x < 4 * c 1 by omega)
    have e1 : I1 48 1 = nI n := by rw [z1 48 (by decide)]; exact C3
    have ea : I1 a i = nI x := by rw [z1 a (by omega)]; exact ex
    have fresh : ¬ ∃ i', i' < i ∧ I a i' = nI x := fun ⟨i', g1, g2⟩ => by
      have := C7 i' i (by omega) hi (by rw [g2, ex]); omega
    have prc : ∀ j, j < 120 → ((∃ i', i' < i + 1 ∧ I a i' = nI j) ↔ (∃ i', i' < i ∧ I a i' = nI j) ∨ j = x) := fun j hj => by
      constructor
      · rintro ⟨i', g1, g2⟩
        by_cases e : i' = i
        · exact Or.inr ((nI_eq (by omega) (by omega)).mp (by rw [← g2, e, ex]))
        · exact Or.inl ⟨i', by omega, g2⟩
      · rintro (⟨i', g1, g2⟩ | rfl)
        · exact ⟨i', by omega, g2⟩
        · exact ⟨i, by omega, ex⟩
    have etx : L1 t x = L t x := (z4 x (by omega)).2 (fun y => fresh y.1)
    obtain ⟨I3, L3, b1, b2, b3, b4, b5⟩ := c_look (E := E) (w := w) (I := I1) (L := L1) (Q := Q) hG q1 (LandR_c (fun j hj => z1 j (by omega)) q2) z3 hy (show 2 * x < 4 * c 1 by omega)
    have e7' : I3 7 (2 * x) = nI p := by rw [b1 7 (by decide), z1 7 (by decide)]; exact e7
    have e3t : L3 t x = L t x := by rw [b2 t (by omega)]; exact etx
    generalize elo : L3 39 (8 * (2 * x) + 2 * sd) &&& lo = lo2
    generalize ehi : L3 39 (8 * (2 * x) + 2 * sd + 1) &&& hh = hi2
    have hb : ∀ z, z < 128 → (ba lo2 hi2 z ↔ oN T c y sd ac (2 * x) z) := fun z hz => by
      have g1 := ba_side (sd := sd) b4 hz (by omega)
      have g2 := hlo (2 * x) (by omega) z hz
      unfold oN
      rw [← g1]
      have g3 : ba lo2 hi2 z ↔ ba (L3 39 (8 * (2 * x) + 2 * sd)) (L3 39 (8 * (2 * x) + 2 * sd + 1)) z ∧ ba lo hh z := by
        unfold ba
        rw [← elo, ← ehi]
        by_cases pz : z / 64 = 0
        · rw [if_pos pz, if_pos pz, if_pos pz]; exact b64_and
        · rw [if_neg pz, if_neg pz, if_neg pz]; exact b64_and
      rw [g3]
      exact and_congr_right fun g => g2 (g1.mp g).1
    have none : (lo2 ||| hi2) = 0 ↔ ¬ ∃ z, oN T c y sd ac (2 * x) z := by
      rw [or0_64, z64, z64]
      constructor
      · rintro ⟨g1, g2⟩ ⟨z, g3⟩
        have hz : z < 128 := by have := g3.1.1.1; omega
        have := (hb z hz).mpr g3
        unfold ba at this
        by_cases pz : z / 64 = 0
        · rw [if_pos pz] at this; exact g1 _ (by omega) this
        · rw [if_neg pz] at this; exact g2 _ (by omega) this
      · intro g
        refine ⟨fun j hj z => g ⟨j, (hb j (by omega)).mp ?_⟩, fun j hj z => g ⟨64 + j, (hb (64 + j) (by omega)).mp ?_⟩⟩
        · unfold ba; rw [if_pos (by omega), show j % 64 = j by omega]; exact z
        · unfold ba; rw [if_neg (by omega), show (64 + j) % 64 = j by omega]; exact z
    generalize ect : L t x <<< (((1 : Int32)).toInt64 &&& 63) = ct
    have hct : ∀ l, b64 ct l ↔ 1 ≤ l ∧ l < 64 ∧ b64 (L t x) (l - 1) := fun l => by rw [← ect]; exact shl64 (L t x) 1 l (by decide)
    have fr3 : ∀ k, k ≠ 38 → I3 k = I k := fun k hk => (b1 k hk).trans (z1 k hk)
    have st0 : ∀ K, L_X9_turnAt_99 E K (rr w 40) (nI N) (nI sd) v (rr w to) lo hh (g + 1) (nI i) (Hw E w I1 L1 Q) = if (lo2 ||| hi2) = 0 then L_X9_turnAt_99 E K (rr w 40) (nI N) (nI sd) v (rr w to) lo hh g (nI (i + 1)) (Hw E w I3 L3 Q) else if zb (inP T v (2 * x)) = 0 then (if zb (b64 ct N) = 0 then L_X9_turnAt_99 E K (rr w 40) (nI N) (nI sd) v (rr w to) lo hh g (nI (i + 1)) (Hw E w I3 (up2 L3 t x (ct &&& (bs N ^^^ (-1 : Int64)))) Q) else L_X9_turnAt_99 E K (rr w 40) (nI N) (nI sd) v (rr w to) lo hh g (nI (i + 1)) (Hw E w I3 (up2 (adA L3 (to + 1) lo2 hi2) t x (ct &&& (bs N ^^^ (-1 : Int64)))) Q)) else L_X9_turnAt_99 E K (rr w 40) (nI N) (nI sd) v (rr w to) lo hh g (nI (i + 1)) (Hw E w I3 L3 Q) := fun K => by
      rw [L_X9_turnAt_99, gf40_3, Option.bind_some, gf48_1, Option.bind_some, e1, if_neg (nI_ge hi (by omega)), Option.bind_some, (gg I1 L1).1, Option.bind_some]
      unfold J_X9_turnAt_239
      simp (disch := omega) only [Option.bind_some, Option.map_some, Option.join, cI_r, cL_r, cV_r, xI_r, xL_r, xV_r, xI_t, xL_t, xV_t, lt_r, rtZ_0, rtZ_1, rtZ_zb, ia.ga, ix_n, ea, gf40_0, gf40_3, o32, m2, pk_mul, b5, nI_add, nI_1, gf32_11, ga39, elo, ehi, gf32_0, gf0_8, ga7, e7', f_isInP (s := 2 * x) (show p < 64 by omega) ep, (gg I3 L3).2.2.1, la.ga, e3t, ect, f_isIn, so.o, c_addArrows so, (gg I3 (adA L3 (to + 1) lo2 hi2)).2.2.1, la.pa]
      rfl
    have same : ¬ cn (2 * x) → ∃ s', ((∀ k, k ≠ 38 → s'.1 k = I k) ∧ (∀ k, k ≠ 39 → k ≠ t → k ≠ to + 1 → s'.2 k = L k) ∧ MapY s'.1 s'.2 T c y ∧ (∀ j, j < 120 → ((∃ i', i' < i + 1 ∧ I a i' = nI j) ∧ cn (2 * j) → ∀ l, (b64 (s'.2 t j) l ↔ l ≠ N ∧ 1 ≤ l ∧ l < 64 ∧ b64 (L t j) (l - 1))) ∧ (¬ ((∃ i', i' < i + 1 ∧ I a i' = nI j) ∧ cn (2 * j)) → s'.2 t j = L t j)) ∧ ∀ q, q < 256 → (bq (s'.2 (to + 1)) q ↔ bq (L (to + 1)) q ∨ (q % 2 = 0 ∧ ∃ x, x < 2 * c 1 ∧ (∃ i', i' < i + 1 ∧ I a i' = nI x) ∧ cn (2 * x) ∧ b64 (L t x) (N - 1) ∧ oN T c y sd ac (2 * x) (q / 2)))) ∧ s' = ((I3, L3) : (Nat → Nat → Int32) × (Nat → Nat → Int64)) := fun nc => by
      refine ⟨(I3, L3), ⟨fr3, fun k g1 g2 g3 => (b2 k g1).trans (z2 k g1 g2 g3), b3, fun j hj => ?_, fun q hq => ?_⟩, rfl⟩
      · show (_ → ∀ l, (b64 (L3 t j) l ↔ _)) ∧ (_ → L3 t j = L t j)
        rw [b2 t (by omega), prc j hj]
        refine ⟨fun z => (z4 j hj).1 ⟨z.1.elim id (fun y => by rw [y] at z; exact absurd z.2 nc), z.2⟩, fun z => (z4 j hj).2 (fun y => z ⟨Or.inl y.1, y.2⟩)⟩
      · show bq (L3 (to + 1)) q ↔ _
        rw [b2 _ (by omega), z5 q hq]
        refine or_congr_right (and_congr_right fun _ => ⟨fun ⟨x', g1, ⟨i', g2, g3⟩, g4⟩ => ⟨x', g1, ⟨i', by omega, g3⟩, g4⟩, fun ⟨x', g1, g2, g4⟩ => ?_⟩)
        rcases (prc x' (by omega)).mp g2 with g7 | g7
        · exact ⟨x', g1, g7, g4⟩
        · rw [g7] at g4; exact absurd g4.1 nc
    have cnx : cn (2 * x) ↔ (∃ z, oN T c y sd ac (2 * x) z) ∧ ¬ inP T v (2 * x) := by rw [← hcn]; exact Iff.rfl
    by_cases p0 : ∃ z, oN T c y sd ac (2 * x) z
    · by_cases p1 : inP T v (2 * x)
      · obtain ⟨s', h1, h2⟩ := same (fun z => (cnx.mp z).2 p1)
        refine ⟨s', h1, ?_⟩
        rw [h2]
        funext K
        show L_X9_turnAt_99 E K (rr w 40) (nI N) (nI sd) v (rr w to) lo hh (g + 1) (nI i) (Hw E w I1 L1 Q) = _
        rw [st0, if_neg (fun z => none.mp z p0), zi_t p1]
      · have pc : cn (2 * x) := cnx.mpr ⟨p0, p1⟩
        have fin : ∀ L4 : Nat → Nat → Int64, (∀ k, k ≠ to + 1 → L4 k = L3 k) → (∀ q, q < 256 → (bq (L4 (to + 1)) q ↔ bq (L3 (to + 1)) q ∨ (b64 ct N ∧ q % 2 = 0 ∧ oN T c y sd ac (2 * x) (q / 2)))) → (∀ k, k ≠ 39 → k ≠ t → k ≠ to + 1 → up2 L4 t x (ct &&& (bs N ^^^ (-1 : Int64))) k = L k) ∧ MapY I3 (up2 L4 t x (ct &&& (bs N ^^^ (-1 : Int64)))) T c y ∧ (∀ j, j < 120 → ((∃ i', i' < i + 1 ∧ I a i' = nI j) ∧ cn (2 * j) → ∀ l, (b64 (up2 L4 t x (ct &&& (bs N ^^^ (-1 : Int64))) t j) l ↔ l ≠ N ∧ 1 ≤ l ∧ l < 64 ∧ b64 (L t j) (l - 1))) ∧ (¬ ((∃ i', i' < i + 1 ∧ I a i' = nI j) ∧ cn (2 * j)) → up2 L4 t x (ct &&& (bs N ^^^ (-1 : Int64))) t j = L t j)) ∧ ∀ q, q < 256 → (bq (up2 L4 t x (ct &&& (bs N ^^^ (-1 : Int64))) (to + 1)) q ↔ bq (L (to + 1)) q ∨ (q % 2 = 0 ∧ ∃ x, x < 2 * c 1 ∧ (∃ i', i' < i + 1 ∧ I a i' = nI x) ∧ cn (2 * x) ∧ b64 (L t x) (N - 1) ∧ oN T c y sd ac (2 * x) (q / 2))) := by
          intro L4 f1 f2
          refine ⟨fun k g1 g2 g3 => by rw [up2_row _ _ g2, f1 k g3, b2 k g1, z2 k g1 g2 g3], ⟨MapR_c rfl rfl (fun k g1 g2 => by rw [up2_row _ _ (by omega), f1 k (by omega)]) b3.1, b3.2⟩, fun j hj => ?_, fun q hq => ?_⟩
          · by_cases e : j = x
            · subst e
              refine ⟨fun _ l => ?_, fun z => absurd ⟨(prc j hj).mpr (Or.inr rfl), pc⟩ z⟩
              rw [up2_s, b64_and, hct l]
              constructor
              · rintro ⟨⟨g1, g2, g3⟩, g4⟩
                exact ⟨fun e => (b64_not (by omega)).mp g4 ((bs_b (by omega)).mpr e), g1, g2, g3⟩
              · rintro ⟨g1, g2, g3, g4⟩
                exact ⟨⟨g2, g3, g4⟩, (b64_not g3).mpr (fun z => g1 ((bs_b (by omega)).mp z))⟩
            · rw [up2_i _ _ _ e, f1 t (by omega), b2 t (by omega), prc j hj]
              refine ⟨fun z => (z4 j hj).1 ⟨z.1.elim id (fun y => absurd y e), z.2⟩, fun z => (z4 j hj).2 (fun y => z ⟨Or.inl y.1, y.2⟩)⟩
          · rw [up2_row _ _ (by omega), f2 q hq, b2 _ (by omega), z5 q hq, or_assoc]
            refine or_congr_right ⟨?_, ?_⟩
            · rintro (⟨g1, x', g2, ⟨i', g3, g4⟩, g5⟩ | ⟨g1, g2, g3⟩)
              · exact ⟨g1, x', g2, ⟨i', by omega, g4⟩, g5⟩
              · exact ⟨g2, x, hx, ⟨i, by omega, ex⟩, pc, ((hct N).mp g1).2.2, g3⟩
            · rintro ⟨g1, x', g2, g3, g4, g5, g6⟩
              rcases (prc x' (by omega)).mp g3 with g7 | g7
              · exact Or.inl ⟨g1, x', g2, g7, g4, g5, g6⟩
              · rw [g7] at g5 g6; exact Or.inr ⟨(hct N).mpr ⟨hN, by omega, g5⟩, g1, g6⟩
        by_cases p2 : b64 ct N
        · obtain ⟨f1, f2, f3, f4⟩ := fin (adA L3 (to + 1) lo2 hi2) (fun k hk => adA_row hk) (fun q hq => by
            rw [adA_b hq, hb _ (by omega)]
            exact or_congr_right ⟨fun z => ⟨p2, z⟩, fun z => z.2⟩)
          refine ⟨(I3, up2 (adA L3 (to + 1) lo2 hi2) t x (ct &&& (bs N ^^^ (-1 : Int64)))), ⟨fr3, f1, f2, f3, f4⟩, ?_⟩
          funext K
          show L_X9_turnAt_99 E K (rr w 40) (nI N) (nI sd) v (rr w to) lo hh (g + 1) (nI i) (Hw E w I1 L1 Q) = _
          rw [st0, if_neg (fun z => none.mp z p0), zi_f p1, zi_t p2]
        · obtain ⟨f1, f2, f3, f4⟩ := fin L3 (fun k hk => rfl) (fun q hq => ⟨Or.inl, fun z => z.elim id (fun z => absurd z.1 p2)⟩)
          refine ⟨(I3, up2 L3 t x (ct &&& (bs N ^^^ (-1 : Int64)))), ⟨fr3, f1, f2, f3, f4⟩, ?_⟩
          funext K
          show L_X9_turnAt_99 E K (rr w 40) (nI N) (nI sd) v (rr w to) lo hh (g + 1) (nI i) (Hw E w I1 L1 Q) = _
          rw [st0, if_neg (fun z => none.mp z p0), zi_f p1, zi_f p2]
    · obtain ⟨s', h1, h2⟩ := same (fun z => p0 (cnx.mp z).1)
      refine ⟨s', h1, ?_⟩
      rw [h2]
      funext K
      show L_X9_turnAt_99 E K (rr w 40) (nI N) (nI sd) v (rr w to) lo hh (g + 1) (nI i) (Hw E w I1 L1 Q) = _
      rw [st0, if_pos (none.mpr p0)]
  · rintro g ⟨I1, L1⟩ ⟨z1, _⟩
    funext K
    have e1 : I1 48 1 = nI n := (congrFun (z1 48 (by decide)) 1).trans C3
    show L_X9_turnAt_99 E K (rr w 40) (nI N) (nI sd) v (rr w to) lo hh (g + 1) (nI n) (Hw E w I1 L1 Q) = _
    rw [L_X9_turnAt_99, gf40_3, Option.bind_some, gf48_1, Option.bind_some, e1, if_pos (nI_le (Nat.le_refl n) (by omega))]
theorem ZT_lt {cn : Nat → Prop} {N : Nat} {X : Nat → Prop} (hN : 1 ≤ N) (i : Nat) : ∀ s l, ZT T c y cn N (Z0 X) i s l → l < N := by
  induction i with
  | zero => intro s l h; have := h.2; omega
  | succ i ih =>
    intro s l h
    rcases h with ⟨_, _, _, s0, l0, h1, _, h2⟩ | ⟨_, h, _⟩
    · unfold mvB at h2; simp only [if_true] at h2; rw [h2]; exact ih s0 l0 h1
    · exact h
theorem nx_lt {N : Nat} {Z : Nat → Nat → Prop} (h : ∀ s l, Z s l → l < N) : ∀ s l, nxZ T c y 0 Z s l → l < N := by
  rintro s l ⟨_, _, s0, l0, h1, _, h2⟩
  unfold mvB at h2; simp only [if_true] at h2; rw [h2]; exact h s0 l0 h1
/-- N side: begun already; the turns -/
theorem c_turnAt69 {k to fr nf n st en N sd : Nat} {v lo hh : Int64} {ac : Prop} {X : Nat → Prop} {I0 : Nat → Nat → Int32} {Lc : Nat → Nat → Int64} {Qc : Nat → Nat → Option Nat} (hG : 100000 ≤ E.2.2.1) (h : WC I0 Lc Qc T c y k) (f0 : LdF I0 I Lc L Qc Q (to + 1)) (so : SO w to) (ht : okTo to) (hf : IA w fr nf) (hfn : fr ≠ 38 ∧ fr ≠ 48 ∧ fr ≠ 49 ∧ fr ≠ 51) (hsd : sd < 2) (hN : 1 ≤ N) (hN2 : N ≤ 20) (hlo : ∀ s, s < 4 * c 1 → ∀ x, x < 128 → (isOt T c (thr0 T c y) s x → (ba lo hh x ↔ ac ∨ ¬ isPt T x))) (hw : Wk w T c y fr nf 0 I L Q (Z0 X) a b t u n st en) : LdP E w T c y I L Q to (wNth T c y sd ac (inP T v) (tn (T (726 + 5 * k))) N X) (L_X9_turnAt_69 E (rr w 40) (nI N) (nI sd) v (rr w to) lo hh E.2.2.1 0 (Hw E w I L Q)) := by
  obtain ⟨p, p1, p2, p3, p4, p5⟩ := pat_n h
  have tp : tn (T (726 + 5 * k)) = p := by rw [p2]; exact nI_clamp (by omega)
  rw [tp]
  obtain ⟨q1, q2, hm, hy, hs, hk, hw6, -, -, -⟩ := h
  have k1 : c 1 ≤ 60 := (q1.1 1 (by decide)).2
  have ht0 := ht
  unfold okTo at ht
  generalize hcn : cnN T c y sd ac (inP T v) = cn
  have hcn2 : ∀ i q, adN T c y sd ac (inP T v) N (nxZ T c y 0 (ZT T c y cn N (Z0 X) i)) q ↔ adN T c y sd ac (inP T v) N (nxZ T c y 0 (ZT T c y (cnN T c y sd ac (inP T v)) N (Z0 X) i)) q := fun i q => by rw [hcn]
  refine lpE (σ := (Nat → Nat → Int32) × (Nat → Nat → Int64) × (Nat → Nat → Option Nat)) (Lp := fun g i z => L_X9_turnAt_69 E (rr w 40) (nI N) (nI sd) v (rr w to) lo hh g (nI i) (Hw E w z.1 z.2.1 z.2.2)) (Iv := fun i z => (∃ a' b' t' u' n' st' en', Wk w T c y fr nf 0 z.1 z.2.1 z.2.2 (ZT T c y cn N (Z0 X) i) a' b' t' u' n' st' en') ∧ LdF I z.1 L z.2.1 Q z.2.2 (to + 1) ∧ ∀ q, q < 256 → (bq (z.2.1 (to + 1)) q ↔ bq (L (to + 1)) q ∨ ∃ i', i' < i ∧ adN T c y sd ac (inP T v) N (nxZ T c y 0 (ZT T c y cn N (Z0 X) i')) q)) (Post := LdP E w T c y I L Q to (wNth T c y sd ac (inP T v) p N X)) (N := p) ?_ ?_ E.2.2.1 0 (I, L, Q) (by omega) (by omega) ⟨⟨a, b, t, u, n, st, en, hw⟩, LdF.rf, fun q hq => ⟨Or.inl, fun z => z.elim id (fun ⟨i, z, _⟩ => absurd z (by omega))⟩⟩
  · rintro g i ⟨I2, L2, Q2⟩ hi ⟨⟨a', b', t', u', n', st', en', z1⟩, z2, z3⟩
    dsimp only at *
    have z2' := f0.tr z2
    have q2' : LandR I2 T c := LandR_c (fun j hj => z2'.1 j (by omega) (by omega) (by omega) (by omega)) q2
    obtain ⟨I3, L3, Q3, n3, e1, e2, e3, e4, e5, e6⟩ := c_goW (E := E) (w := w) hG q1 q2' hy hf hfn z1 (to + 1)
    have pk : I2 21 k = nI p := by rw [z2'.1 21 (by decide) (by decide) (by decide) (by decide)]; exact p1
    have wk : I2 40 6 = nI k := by rw [z2'.1 40 (by decide) (by decide) (by decide) (by decide)]; exact hw6
    have el3 : L3 (to + 1) = L2 (to + 1) := e5 _ (by omega) (by omega) (by omega)
    have st0 : L_X9_turnAt_69 E (rr w 40) (nI N) (nI sd) v (rr w to) lo hh (g + 1) (nI i) (Hw E w I2 L2 Q2) = if zb (0 < n3) = 0 then rtV (Hw E w I3 L3 Q3) else L_X9_turnAt_99 E (fun h4 => L_X9_turnAt_69 E (rr w 40) (nI N) (nI sd) v (rr w to) lo hh g (nI (i + 1)) h4) (rr w 40) (nI N) (nI sd) v (rr w to) lo hh E.2.2.1 0 (Hw E w I3 L3 Q3) := by
      rw [L_X9_turnAt_69]
      simp (disch := omega) only [Option.bind_some, Option.map_some, Option.join, cI_r, cL_r, cV_r, xI_r, xL_r, xV_r, xI_t, xL_t, xV_t, lt_r, rtZ_0, rtZ_1, rtZ_zb, gf40_1, gf15_7, gf40_6, wk, ga21, ix_n, pk, nI_leI, if_neg, gf40_3, o48, e6, nI_1]
    by_cases pn : 0 < n3
    · left
      obtain ⟨I4, L4, g1, g2, g3, g4, g5⟩ := c_nth99 (E := E) (w := w) (v := v) (to := to) hG q1 (LandR_c (fun j hj => e4.1 j (by omega) (by omega) (by omega) (by omega)) q2') hy so ht0 hsd hN hN2 hlo (nx_lt (ZT_lt hN i)) e1 e2
      rw [hcn] at g1
      have f4 : LdF I3 I4 L3 L4 Q3 Q3 (to + 1) := ⟨fun k g1' _ _ _ => g2 k g1', fun k a1 a2 a3 a4 a5 => g3 k a1 a3 a4 a5, fun _ _ => rfl⟩
      refine ⟨(I4, L4, Q3), ⟨⟨b', a', u', t', n3, st', 0, g1⟩, (z2.tr e4).tr f4, fun q hq => ?_⟩, ?_⟩
      · show bq (L4 (to + 1)) q ↔ _
        rw [g4 q hq, el3, z3 q hq, or_assoc]
        refine or_congr_right ⟨?_, ?_⟩
        · rintro (⟨i', a1, a2⟩ | a1)
          · exact ⟨i', by omega, a2⟩
          · exact ⟨i, by omega, a1⟩
        · rintro ⟨i', a1, a2⟩
          by_cases e : i' = i
          · subst e; exact Or.inr a2
          · exact Or.inl ⟨i', by omega, a2⟩
      · show L_X9_turnAt_69 E (rr w 40) (nI N) (nI sd) v (rr w to) lo hh (g + 1) (nI i) (Hw E w I2 L2 Q2) = _
        rw [st0, zi_t pn, g5]
    · right
      have em : ∀ s l, ¬ nxZ T c y 0 (ZT T c y cn N (Z0 X) i) s l := fun s l z => pn (e3.mpr ⟨s, l, z⟩)
      have em2 : ∀ j s l, i ≤ j → ¬ nxZ T c y 0 (ZT T c y cn N (Z0 X) j) s l := fun j => by
        induction j with
        | zero => intro s l hj; rw [show i = 0 by omega] at em; exact em s l
        | succ j ih =>
          intro s l hj
          by_cases e : i = j + 1
          · rw [← e]; exact em s l
          · rintro ⟨_, _, s0, l0, z, _⟩
            rcases z with z | z
            · exact ih s0 l0 (by omega) z.2
            · exact ih s0 _ (by omega) z.2.2.2
      refine ⟨I3, L3, Q3, z2.tr e4, e1.2.2.2.2.2.2.2.2.1, Cur.st (B := 2 * c 1) (by omega) e1.1, fun q hq => ?_, ?_⟩
      · rw [el3, z3 q hq]
        refine or_congr_right ⟨fun ⟨i', a1, a2⟩ => ⟨i', by omega, (hcn2 i' q).mp a2⟩, fun ⟨i', a1, a2⟩ => ?_⟩
        by_cases e : i' < i
        · exact ⟨i', e, (hcn2 i' q).mpr a2⟩
        · obtain ⟨_, s, _, z, _⟩ := (hcn2 i' q).mpr a2
          exact absurd z (em2 i' s _ (by omega))
      · show L_X9_turnAt_69 E (rr w 40) (nI N) (nI sd) v (rr w to) lo hh (g + 1) (nI i) (Hw E w I2 L2 Q2) = _
        rw [st0, zi_f pn]
  · rintro g ⟨I2, L2, Q2⟩ ⟨⟨a', b', t', u', n', st', en', z1⟩, z2, z3⟩
    dsimp only at *
    have z2' := f0.tr z2
    have pk : I2 21 k = nI p := by rw [z2'.1 21 (by decide) (by decide) (by decide) (by decide)]; exact p1
    have wk : I2 40 6 = nI k := by rw [z2'.1 40 (by decide) (by decide) (by decide) (by decide)]; exact hw6
    refine ⟨I2, L2, Q2, z2, z1.2.2.2.2.2.2.2.2.1, Cur.st (B := 2 * c 1) (by omega) z1.1, fun q hq => ?_, ?_⟩
    · rw [z3 q hq]; exact or_congr_right (exists_congr fun i' => and_congr_right fun _ => hcn2 i' q)
    · show L_X9_turnAt_69 E (rr w 40) (nI N) (nI sd) v (rr w to) lo hh (g + 1) (nI p) (Hw E w I2 L2 Q2) = _
      rw [L_X9_turnAt_69]
      simp (disch := omega) only [Option.bind_some, Option.map_some, Option.join, cI_r, cL_r, cV_r, xI_r, xL_r, xV_r, xI_t, xL_t, xV_t, lt_r, rtZ_0, rtZ_1, rtZ_zb, gf40_1, gf15_7, gf40_6, wk, ga21, ix_n, pk, nI_leI, if_pos]
end
