/-! shortest: which words lead a walker to the goal alone -/
def gdY (T : Ro) (g : Nat) (Y : Nat → Prop) : Prop := (∃ q, Y q) ∧ ∀ q, Y q → spl T q = nI g
def bdY (T : Ro) (g : Nat) (Y : Nat → Prop) : Prop := ∃ q, Y q ∧ ¬ spl T q = nI g
/-- what the finder has noted is so -/
def Mem (I : Nat → Ro) (T : Ro) (c : Nat → Nat) (y : Nat) (W : Int32) (g : Nat) : Prop := ∀ k, k < c 4 → b32 W k → ∀ s, s < 4 * c 1 → ∀ N, (b32 (I 67 (240 * k + s)) N ↔ b32 (I 66 (240 * k + s)) N ∧ gdY T g (lw T c y k N (sg s))) ∧ (b32 (I 68 (240 * k + s)) N ↔ b32 (I 66 (240 * k + s)) N ∧ bdY T g (lw T c y k N (sg s)))
section
variable {E : Ev} {w : Wo} {I I1 I2 : Nat → Nat → Int32} {L L1 L2 : Nat → Nat → Int64} {Q Q1 Q2 : Nat → Nat → Option Nat} {c : Nat → Nat} {T : Ro} {y : Nat} {W : Int32} {g : Nat}
theorem gd_add {k N : Nat} {X : Nat → Prop} : ((∀ s, X s → ¬ bdY T g (lw T c y k N (sg s))) ∧ ∃ s, X s ∧ gdY T g (lw T c y k N (sg s))) ↔ gdY T g (lw T c y k N X) := by
  have ad : ∀ q, lw T c y k N X q ↔ ∃ s, X s ∧ lw T c y k N (sg s) q := fun q => wd_add q
  unfold gdY bdY
  constructor
  · rintro ⟨h1, s, h2, ⟨q, h3⟩, h4⟩
    refine ⟨⟨q, (ad q).mpr ⟨s, h2, h3⟩⟩, fun q' hq => ?_⟩
    obtain ⟨s', g1, g2⟩ := (ad q').mp hq
    exact Classical.not_not.mp (fun z => h1 s' g1 ⟨q', g2, z⟩)
  · rintro ⟨⟨q, h1⟩, h2⟩
    obtain ⟨s, g1, g2⟩ := (ad q).mp h1
    exact ⟨fun s' hs ⟨q', z1, z2⟩ => z2 (h2 q' ((ad q').mpr ⟨s', hs, z1⟩)), s, g1, ⟨q, g2⟩, fun q' hq => h2 q' ((ad q').mpr ⟨s, g1, hq⟩)⟩
theorem ia66 : IA w 66 1920 := ⟨lv_of (by decide), rfl, by decide⟩
theorem ia67 : IA w 67 1920 := ⟨lv_of (by decide), rfl, by decide⟩
theorem ia68 : IA w 68 1920 := ⟨lv_of (by decide), rfl, by decide⟩
theorem c_judge {j n : Nat} {bt : Int32} {Y : Nat → Prop} (hG : 100000 ≤ E.2.2.1) (q1 : WfT T c) (q2 : LandR I T c) (eg : L 63 2 = bs g) (hg : g < c 0) (hj : j < 1920) (hb : ∀ i, b32 bt i ↔ i = n) (eY : ∀ q, q < 256 → (bq (L 70) q ↔ Y q)) (hY : ∀ q, Y q → q < 4 * c 1) : ∃ I', (∀ k, k ≠ 66 → k ≠ 67 → k ≠ 68 → I' k = I k) ∧ (∀ i, i ≠ j → I' 66 i = I 66 i ∧ I' 67 i = I 67 i ∧ I' 68 i = I 68 i) ∧ (∀ i, (b32 (I' 66 j) i ↔ b32 (I 66 j) i ∨ i = n) ∧ (b32 (I' 67 j) i ↔ b32 (I 67 j) i ∨ (i = n ∧ gdY T g Y)) ∧ (b32 (I' 68 j) i ↔ b32 (I 68 j) i ∨ (i = n ∧ bdY T g Y))) ∧ F_X1_judge E (rr w 63) (nI j) bt (Hw E w I L Q) = rtV (Hw E w I' L Q) := by
  have k0 : c 0 ≤ 40 := (q1.1 0 (by decide)).2
  have k1 : c 1 ≤ 60 := (q1.1 1 (by decide)).2
  obtain ⟨v, v1, v2⟩ := c_placesOf (E := E) (w := w) (I := I) (L := L) (Q := Q) (k := 69) hG q1 q2 so69 (fun q hq z => hY q ((eY q hq).mp z))
  have v1' : ∀ p, p < 64 → (b64 v p ↔ ∃ s, Y s ∧ spl T s = nI p) := fun p hp => by
    rw [v1 p hp]
    constructor
    · rintro ⟨s, h1, h2, h3⟩
      exact ⟨s, (eY s (by omega)).mp h2, h3⟩
    · rintro ⟨s, h2, h3⟩
      have := hY s h2
      exact ⟨s, this, (eY s (by omega)).mpr h2, h3⟩
  have pl : ∀ s, Y s → ∃ p, spl T s = nI p ∧ p < c 0 := fun s hs => spl_w q1 (hY s hs)
  have vg : v = bs g ↔ gdY T g Y := by
    constructor
    · intro e
      have ev : ∀ p, p < 64 → ((∃ s, Y s ∧ spl T s = nI p) ↔ p = g) := fun p hp => by
        rw [← v1' p hp, e]; exact bs_b (by omega)
      obtain ⟨s, h1, h2⟩ := (ev g (by omega)).mpr rfl
      refine ⟨⟨s, h1⟩, fun q hq => ?_⟩
      obtain ⟨p, e1, e2⟩ := pl q hq
      rw [e1, (ev p (by omega)).mp ⟨q, hq, e1⟩]
    · rintro ⟨⟨s, h1⟩, h2⟩
      refine b64_ext fun p hp => ?_
      rw [v1' p hp, bs_b (show g < 64 by omega)]
      constructor
      · rintro ⟨q, h3, h4⟩
        rw [h2 q h3] at h4
        exact ((nI_eq (by omega) (by omega)).mp h4).symm
      · rintro rfl
        exact ⟨s, h1, h2 s h1⟩
  have v0 : v = 0 ↔ ¬ ∃ q, Y q := by
    rw [z64]
    constructor
    · rintro h ⟨q, hq⟩
      obtain ⟨p, e1, e2⟩ := pl q hq
      exact h p (by omega) ((v1' p (by omega)).mpr ⟨q, hq, e1⟩)
    · intro h p hp z
      obtain ⟨s, h1, _⟩ := (v1' p hp).mp z
      exact h ⟨s, h1⟩
  unfold F_X1_judge
  simp (disch := omega) only [Option.bind_some, Option.map_some, Option.join, cI_r, cL_r, cV_r, xI_r, xL_r, xV_r, xI_t, xL_t, xV_t, lt_r, rtZ_0, rtZ_1, rtZ_zb, gf63_0, gf40_0, gf63_8, o32, v2, gf63_5, ga66, pa66, ix_n, gf63_2, eg]
  generalize eA : up2 I 66 j (I 66 j ||| bt) = A
  have a1 : ∀ k, k ≠ 66 → A k = I k := fun k hk => by rw [← eA, up2_row _ _ hk]
  have a2 : ∀ i, i ≠ j → A 66 i = I 66 i := fun i hi => by rw [← eA, up2_i _ _ _ hi]
  have a3 : ∀ i, b32 (A 66 j) i ↔ b32 (I 66 j) i ∨ i = n := fun i => by rw [← eA, up2_s, b32_or, hb]
  by_cases p : gdY T g Y
  · rw [if_neg (not_not_intro (vg.mpr p))]
    simp (disch := omega) only [Option.bind_some, Option.map_some, Option.join, cI_r, cL_r, cV_r, xI_r, xL_r, xV_r, xI_t, xL_t, xV_t, lt_r, rtZ_0, rtZ_1, rtZ_zb, gf63_6, ga67, pa67, ix_n]
    have nb : ¬ bdY T g Y := fun ⟨q, z1, z2⟩ => z2 (p.2 q z1)
    refine ⟨_, fun k g1 g2 g3 => ?_, fun i hi => ⟨?_, ?_, ?_⟩, fun i => ⟨?_, ?_, ?_⟩, rfl⟩
    · rw [up2_row _ _ g2, a1 k g1]
    · rw [up2_row _ _ (by decide)]; exact a2 i hi
    · rw [up2_i _ _ _ hi, a1 67 (by decide)]
    · rw [up2_row _ _ (by decide), a1 68 (by decide)]
    · rw [up2_row _ _ (by decide)]; exact a3 i
    · rw [up2_s, b32_or, hb, a1 67 (by decide)]
      exact or_congr_right ⟨fun z => ⟨z, p⟩, fun z => z.1⟩
    · rw [up2_row _ _ (by decide), a1 68 (by decide)]
      exact ⟨Or.inl, fun z => z.elim id (fun z => absurd z.2 nb)⟩
  · rw [if_pos (fun z => p (vg.mp z))]
    by_cases p2 : ∃ q, Y q
    · rw [if_neg (fun z => v0.mp z p2)]
      have yb : bdY T g Y := Classical.not_not.mp (fun z => p ⟨p2, fun q hq => Classical.not_not.mp (fun z2 => z ⟨q, hq, z2⟩)⟩)
      simp (disch := omega) only [Option.bind_some, Option.map_some, Option.join, cI_r, cL_r, cV_r, xI_r, xL_r, xV_r, xI_t, xL_t, xV_t, lt_r, rtZ_0, rtZ_1, rtZ_zb, gf63_7, ga68, pa68, ix_n]
      refine ⟨_, fun k g1 g2 g3 => ?_, fun i hi => ⟨?_, ?_, ?_⟩, fun i => ⟨?_, ?_, ?_⟩, rfl⟩
      · rw [up2_row _ _ g3, a1 k g1]
      · rw [up2_row _ _ (by decide)]; exact a2 i hi
      · rw [up2_row _ _ (by decide), a1 67 (by decide)]
      · rw [up2_i _ _ _ hi, a1 68 (by decide)]
      · rw [up2_row _ _ (by decide)]; exact a3 i
      · rw [up2_row _ _ (by decide), a1 67 (by decide)]
        exact ⟨Or.inl, fun z => z.elim id (fun z => absurd z.2 p)⟩
      · rw [up2_s, b32_or, hb, a1 68 (by decide)]
        exact or_congr_right ⟨fun z => ⟨z, yb⟩, fun z => z.1⟩
    · rw [if_pos (v0.mpr p2)]
      have nb : ¬ bdY T g Y := fun ⟨q, z1, z2⟩ => p2 ⟨q, z1⟩
      refine ⟨A, fun k g1 g2 g3 => a1 k g1, fun i hi => ⟨a2 i hi, by rw [a1 67 (by decide)], by rw [a1 68 (by decide)]⟩, fun i => ⟨a3 i, ?_, ?_⟩, rfl⟩
      · rw [a1 67 (by decide)]
        exact ⟨Or.inl, fun z => z.elim id (fun z => absurd z.2 p)⟩
      · rw [a1 68 (by decide)]
        exact ⟨Or.inl, fun z => z.elim id (fun z => absurd z.2 nb)⟩
/-- what arriving keeps -/
def ArF (I I' : Nat → Nat → Int32) (L L' : Nat → Nat → Int64) (Q Q' : Nat → Nat → Option Nat) : Prop := FiF I I' L L' Q Q' ∧ I' 64 = I 64 ∧ ∀ k, 74 ≤ k → L' k = L k
theorem ArF.rf : ArF I I L L Q Q := ⟨FiF.rf, rfl, fun _ _ => rfl⟩
theorem ArF.tr (h : ArF I I1 L L1 Q Q1) (h' : ArF I1 I2 L1 L2 Q1 Q2) : ArF I I2 L L2 Q Q2 := ⟨h.1.tr h'.1, h'.2.1.trans h.2.1, fun k hk => (h'.2.2 k hk).trans (h.2.2 k hk)⟩
theorem c_arr98 {k s : Nat} {u : Int32} (hG : 100000 ≤ E.2.2.1) (h : FW I L Q T c y W g) (hg : g < c 0) (hk : k < c 4) (hw : b32 W k) (h40 : I 40 6 = nI k) (hs : s < 4 * c 1) (h72 : I 72 0 = nI s) (hm : Mem I T c y W g) (hu : ∀ N, b32 u N → N < 31) (hu2 : ∀ N, b32 u N → ¬ b32 (I 66 (240 * k + s)) N) : ∃ I' L' Q', FW I' L' Q' T c y W g ∧ ArF I I' L L' Q Q' ∧ I' 40 6 = nI k ∧ I' 71 = I 71 ∧ Mem I' T c y W g ∧ (∀ N, b32 (I' 66 (240 * k + s)) N ↔ b32 (I 66 (240 * k + s)) N ∨ b32 u N) ∧ ∀ K, L_X1_arriving_98 E K (rr w 63) (nI (240 * k + s)) E.2.2.1 u (nI (cntP (b32 u) 32)) (Hw E w I L Q) = K (Hw E w I' L' Q') := by
  have k1 : c 1 ≤ 60 := (h.1.2.1.1 1 (by decide)).2
  have k4 : c 4 ≤ 8 := (h.1.2.1.1 4 (by decide)).2
  have hN : cntP (b32 u) 32 ≤ 32 := cntP_le 32
  generalize eN : cntP (b32 u) 32 = M at hN
  refine lpK2 (ρ := (Hp → Rs) → Rs) (σ := (Nat → Nat → Int32) × (Nat → Nat → Int64) × (Nat → Nat → Option Nat) × Int32) (Lp := fun g' r s' K => L_X1_arriving_98 E K (rr w 63) (nI (240 * k + s)) g' s'.2.2.2 (nI (M - r)) (Hw E w s'.1 s'.2.1 s'.2.2.1)) (K := fun s' K => K (Hw E w s'.1 s'.2.1 s'.2.2.1)) (Iv := fun r s' => FW s'.1 s'.2.1 s'.2.2.1 T c y W g ∧ ArF I s'.1 L s'.2.1 Q s'.2.2.1 ∧ s'.1 40 6 = nI k ∧ s'.1 71 = I 71 ∧ s'.1 72 0 = nI s ∧ Mem s'.1 T c y W g ∧ rem32 u r s'.2.2.2 ∧ ∀ N, b32 (s'.1 66 (240 * k + s)) N ↔ b32 (I 66 (240 * k + s)) N ∨ (b32 u N ∧ cntP (b32 u) N < r)) (N := M) (g := E.2.2.1) (i := 0) (s := (I, L, Q, u)) ?_ ?_ ?_ (by omega) (by omega) ⟨h, ArF.rf, h40, rfl, h72, hm, rem32_0 u, fun N => ⟨Or.inl, fun z => z.elim id (fun z => absurd z.2 (by omega))⟩⟩
  · rintro ⟨I', L', Q', x⟩ ⟨z1, z2, z3, z4, z5, z6, z7, z8⟩ ee
    dsimp only at *
    refine ⟨I', L', Q', z1, z2, z3, z4, z6, fun N => ?_, fun K => congrFun ee K⟩
    rw [z8]
    exact or_congr_right ⟨fun z => z.1, fun z => ⟨z, by rw [← eN]; exact cnt_lt z (b32_lt z)⟩⟩
  · rintro g' r ⟨I1, L1, Q1, x⟩ hr ⟨z1, z2, z3, z4, z5, z6, z7, z8⟩
    dsimp only at *
    obtain ⟨n, hn, n1, n2, n3, n4, n5⟩ := rem32_k z7 (by rw [eN]; exact hr)
    have n31 := hu n n1
    have em : nI (M - r) + -1 = nI (M - (r + 1)) := by rw [show M - r = M - (r + 1) + 1 by omega]; exact pk_m1 _
    have cl := c_clear (E := E) (w := w) (I := I1) (L := L1) (Q := Q1) hG so69
    have ob : ∀ q, q < 256 → ¬ bq (rs L1 (69 + 1) 0 4 (fun _ => 0) (69 + 1)) q := fun q hq => clr_b hq
    have oo : ∀ k, k ≠ 70 → rs L1 (69 + 1) 0 4 (fun _ => 0) k = L1 k := fun k hk => rs_row _ _ hk
    generalize rs L1 (69 + 1) 0 4 (fun _ => 0) = L2 at *
    have f1 : FiF I1 I1 L1 L2 Q1 Q1 := ⟨fun _ _ => rfl, fun k hk => oo k (by unfold fiL at hk; omega), fun _ _ => rfl⟩
    have w1 := z1.mv f1 (MapY_k rfl rfl (fun k g1 g2 => oo k (by omega)) z1.2.1) (StepsR_c rfl rfl rfl (oo 50 (by omega)) (oo 52 (by omega)) z1.1.2.2.2.2.2.2.1)
    have hf : Frm w I1 c 72 1 1 := ⟨ia72, by decide, Nat.le_refl _, by decide, fun i hi => ⟨s, by rw [show i = 0 by omega]; exact z5, hs⟩⟩
    have eX : frX I1 72 1 = sg s := by
      funext q
      refine propext ⟨?_, ?_⟩
      · rintro ⟨h1, i, h2, h3⟩
        rw [show i = 0 by omega, z5] at h3
        exact ((nI_eq (by omega) (by omega)).mp h3).symm
      · intro e
        have e' : q = s := e
        exact ⟨by omega, 0, by omega, by rw [e']; exact z5⟩
    obtain ⟨I3, L3, Q3, v1, v2, v3, v4, v5⟩ := c_lead (E := E) (w := w) (I := I1) (L := L2) (Q := Q1) (to := 69) hG (w1.wc hk z3) (w1.2.2.2.1 k hk hw) so69 (by unfold okTo; omega) (by omega) hf (lw_wf (N := n) (by omega))
    rw [eX] at v4
    have v4' : ∀ q, q < 256 → (bq (L3 70) q ↔ lw T c y k n (sg s) q) := fun q hq => by
      rw [v4 q hq]
      exact ⟨fun z => z.elim (fun z => absurd z (ob q hq)) id, Or.inr⟩
    have f2 : FiF I1 I3 L2 L3 Q1 Q3 := ⟨fun j hj => v1.1 j (by unfold fiI at hj; omega) (by unfold fiI at hj; omega) (by unfold fiI at hj; omega) (by unfold fiI at hj; omega), fun j hj => v1.2.1 j (by unfold fiL at hj; omega) (by unfold fiL at hj; omega) (by unfold fiL at hj; omega) (by unfold fiL at hj; omega) (by unfold fiL at hj; omega), v1.2.2⟩
    have w2 := w1.mv f2 v2 v3
    have i3 : ∀ j, 60 ≤ j → I3 j = I1 j := fun j hj => v1.1 j (by omega) (by omega) (by omega) (by omega)
    have bt : ∀ i, b32 (x &&& -x) i ↔ i = n := fun i => by
      rw [b32_low]
      constructor
      · rintro ⟨h1, h2⟩
        rcases Nat.lt_trichotomy i n with e | e | e
        · exact absurd h1 (n4 i e)
        · exact e
        · exact absurd n3 (h2 n e)
      · rintro rfl
        exact ⟨n3, n4⟩
    obtain ⟨I4, j1, j2, j3, j4⟩ := c_judge (E := E) (w := w) (I := I3) (L := L3) (Q := Q3) (j := 240 * k + s) (n := n) (bt := x &&& -x) (Y := lw T c y k n (sg s)) hG w2.1.2.1 w2.1.2.2.1 w2.2.2.2.2.2.1 hg (by omega) bt v4' (lw_lt (fun q hq => by rw [show q = s from hq]; exact hs))
    have f3 : FiF I3 I4 L3 L3 Q3 Q3 := ⟨fun j hj => j1 j (by unfold fiI at hj; omega) (by unfold fiI at hj; omega) (by unfold fiI at hj; omega), fun _ _ => rfl, fun _ _ => rfl⟩
    have w3 := w2.mv f3 (MapY_k (j1 32 (by decide) (by decide) (by decide)) (j1 38 (by decide) (by decide) (by decide)) (fun _ _ _ => rfl) v2) (StepsR_c (j1 48 (by decide) (by decide) (by decide)) (j1 49 (by decide) (by decide) (by decide)) (j1 51 (by decide) (by decide) (by decide)) rfl rfl v3)
    have ar : ArF I1 I4 L1 L3 Q1 Q3 := ⟨(f1.tr f2).tr f3, by rw [j1 64 (by decide) (by decide) (by decide), i3 64 (by decide)], fun k hk => by rw [v1.2.1 k (by omega) (by omega) (by omega) (by omega) (by omega), oo k (by omega)]⟩
    have nt : ¬ b32 (I1 66 (240 * k + s)) n := fun z => by
      rcases (z8 n).mp z with z | z
      · exact hu2 n n1 z
      · omega
    have mm : Mem I4 T c y W g := fun k' hk' hw' s' hs' N => by
      by_cases e : 240 * k' + s' = 240 * k + s
      · have e1 : k' = k := by omega
        have e2 : s' = s := by omega
        subst e1; subst e2
        have m0 := z6 k' hk' hw' s' hs' N
        obtain ⟨x1, x2, x3⟩ := j3 N
        rw [i3 66 (by decide)] at x1
        rw [i3 67 (by decide)] at x2
        rw [i3 68 (by decide)] at x3
        rw [x1, x2, x3, m0.1, m0.2]
        constructor
        · constructor
          · rintro (⟨a, b⟩ | ⟨a, b⟩)
            · exact ⟨Or.inl a, b⟩
            · exact ⟨Or.inr a, by rw [a]; exact b⟩
          · rintro ⟨a | a, b⟩
            · exact Or.inl ⟨a, b⟩
            · exact Or.inr ⟨a, by rw [a] at b; exact b⟩
        · constructor
          · rintro (⟨a, b⟩ | ⟨a, b⟩)
            · exact ⟨Or.inl a, b⟩
            · exact ⟨Or.inr a, by rw [a]; exact b⟩
          · rintro ⟨a | a, b⟩
            · exact Or.inl ⟨a, b⟩
            · exact Or.inr ⟨a, by rw [a] at b; exact b⟩
      · obtain ⟨x1, x2, x3⟩ := j2 _ e
        rw [x1, x2, x3, i3 66 (by decide), i3 67 (by decide), i3 68 (by decide)]
        exact z6 k' hk' hw' s' hs' N
    have tr' : ∀ N, b32 (I4 66 (240 * k + s)) N ↔ b32 (I 66 (240 * k + s)) N ∨ (b32 u N ∧ cntP (b32 u) N < r + 1) := fun N => by
      rw [(j3 N).1, i3 66 (by decide), z8 N]
      constructor
      · rintro ((a | a) | a)
        · exact Or.inl a
        · exact Or.inr ⟨a.1, by omega⟩
        · rw [a]; exact Or.inr ⟨n1, by omega⟩
      · rintro (a | ⟨a, b⟩)
        · exact Or.inl (Or.inl a)
        · by_cases e : cntP (b32 u) N = r
          · exact Or.inr (cnt_inj a n1 (e.trans n2.symm))
          · exact Or.inl (Or.inr ⟨a, by omega⟩)
    have p40 : I4 40 6 = nI k := by rw [j1 40 (by decide) (by decide) (by decide), v1.1 40 (by decide) (by decide) (by decide) (by decide)]; exact z3
    have p71 : I4 71 = I 71 := by rw [j1 71 (by decide) (by decide) (by decide), i3 71 (by decide)]; exact z4
    have p72 : I4 72 0 = nI s := by rw [j1 72 (by decide) (by decide) (by decide), i3 72 (by decide)]; exact z5
    refine ⟨(I4, L3, Q3, x &&& (x - 1)), ⟨w3, z2.tr ar, p40, p71, p72, mm, n5, tr'⟩, ?_⟩
    funext K
    show L_X1_arriving_98 E K (rr w 63) (nI (240 * k + s)) (g' + 1) x (nI (M - r)) (Hw E w I1 L1 Q1) = L_X1_arriving_98 E K (rr w 63) (nI (240 * k + s)) g' (x &&& (x - 1)) (nI (M - (r + 1))) (Hw E w I4 L3 Q3)
    have e1 : lwC (nI n) = enc (lwK n) (lwN n) (lwA n) := lwC_e n (by omega)
    have v5' : F_X9_lead E (rr w 40) (enc (lwK n) (lwN n) (lwA n)) (rr w 72) (1 : Int32) (rr w 69) (Hw E w I1 L2 Q1) = _ := v5
    rw [L_X1_arriving_98, if_neg (nI_nle (show 0 < M - r by omega) (by omega))]
    simp only [Option.bind_some, Option.map_some, Option.join, cI_r, cL_r, cV_r, xI_r, xL_r, xV_r, xI_t, xL_t, xV_t, lt_r, rtZ_0, rtZ_1, rtZ_zb, gf63_8, o69, cl, gf63_0, f_lowest32 n3 n4, f_listed, e1, gf63_10, o40, v5', o63, j4, em]
  · rintro g' ⟨I1, L1, Q1, x⟩ _
    funext K
    show L_X1_arriving_98 E K (rr w 63) (nI (240 * k + s)) (g' + 1) x (nI (M - M)) (Hw E w I1 L1 Q1) = _
    rw [L_X1_arriving_98, Nat.sub_self, if_pos (by decide)]
end
