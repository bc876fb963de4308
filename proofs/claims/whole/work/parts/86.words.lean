/-! where words lead: what they mean; the class' steps over them -/
def ONs (T : Ro) (c : Nat → Nat) (y : Nat) (X : Nat → Prop) (q : Nat) : Prop := q % 2 = 0 ∧ ∃ s, s < 4 * c 1 ∧ X s ∧ isOn T c (thr0 T c y) s (q / 2)
def onN (T : Ro) (c : Nat → Nat) (y : Nat) (X : Nat → Prop) : Nat → (Nat → Prop)
  | 0 => X
  | n + 1 => ONs T c y (onN T c y X n)
def nxZ (T : Ro) (c : Nat → Nat) (y : Nat) (lens : Int64) (Z : Nat → Nat → Prop) (s l : Nat) : Prop := s % 2 = 0 ∧ s < 240 ∧ ∃ s0 l0, Z s0 l0 ∧ isOn T c (thr0 T c y) s0 (s / 2) ∧ mvB lens (wln T (s / 2)) l0 l
section
variable {T : Ro} {c : Nat → Nat} {y : Nat} {X : Nat → Prop}
theorem ONs_lt {q : Nat} (h : ONs T c y X q) : q < 4 * c 1 := by
  obtain ⟨h1, s, h2, h3, h4⟩ := h
  have := h4.1.1; omega
theorem onN_lt (hX : ∀ s, X s → s < 4 * c 1) (n : Nat) : ∀ s, onN T c y X n s → s < 4 * c 1 := by
  cases n with
  | zero => exact hX
  | succ n => exact fun s h => ONs_lt h
theorem onN_e {i j : Nat} (h : ∀ s, ¬ onN T c y X i s) (hij : i ≤ j) : ∀ s, ¬ onN T c y X j s := by
  induction j with
  | zero => rw [show i = 0 by omega] at h; exact h
  | succ j ih =>
    by_cases e : i = j + 1
    · rw [← e]; exact h
    · rintro s ⟨_, s0, _, z, _⟩
      exact ih (by omega) s0 z
end
section
variable {E : Ev} {w : Wo} {I : Nat → Nat → Int32} {L : Nat → Nat → Int64} {Q : Nat → Nat → Option Nat} {c : Nat → Nat} {T : Ro} {a b t u y : Nat}
/-- what a word may change, its aim aside -/
def LdF (I I' : Nat → Nat → Int32) (L L' : Nat → Nat → Int64) (Q Q' : Nat → Nat → Option Nat) (to : Nat) : Prop := (∀ k, k ≠ 38 → k ≠ 48 → k ≠ 49 → k ≠ 51 → I' k = I k) ∧ (∀ k, k ≠ 39 → k ≠ 48 → k ≠ 50 → k ≠ 52 → k ≠ to → L' k = L k) ∧ (∀ k, k ≠ 48 → Q' k = Q k)
theorem LdF.rf {to : Nat} : LdF I I L L Q Q to := ⟨fun _ _ _ _ _ => rfl, fun _ _ _ _ _ _ => rfl, fun _ _ => rfl⟩
theorem LdF.tr {to : Nat} {I1 I2 : Nat → Nat → Int32} {L1 L2 : Nat → Nat → Int64} {Q1 Q2 : Nat → Nat → Option Nat} (h1 : LdF I I1 L L1 Q Q1 to) (h2 : LdF I1 I2 L1 L2 Q1 Q2 to) : LdF I I2 L L2 Q Q2 to := ⟨fun k a1 a2 a3 a4 => (h2.1 k a1 a2 a3 a4).trans (h1.1 k a1 a2 a3 a4), fun k a1 a2 a3 a4 a5 => (h2.2.1 k a1 a2 a3 a4 a5).trans (h1.2.1 k a1 a2 a3 a4 a5), fun k hk => (h2.2.2 k hk).trans (h1.2.2 k hk)⟩
/-- the walker k on the ground of a year -/
def WC (I : Nat → Ro) (L : Nat → Nat → Int64) (Q : Nat → Nat → Option Nat) (T : Ro) (c : Nat → Nat) (y k : Nat) : Prop := WfT T c ∧ LandR I T c ∧ MapY I L T c y ∧ y ≤ 200 ∧ StepsR I L Q ∧ k < c 4 ∧ I 40 6 = nI k ∧ I 19 k = T (724 + 5 * k) ∧ I 20 k = T (725 + 5 * k) ∧ I 21 k = T (726 + 5 * k)
theorem WC.mv {k to : Nat} {I' : Nat → Nat → Int32} {L' : Nat → Nat → Int64} {Q' : Nat → Nat → Option Nat} (h : WC I L Q T c y k) (hf : LdF I I' L L' Q Q' to) (hm : MapY I' L' T c y) (hs : StepsR I' L' Q') : WC I' L' Q' T c y k := by
  obtain ⟨h1, h2, h3, h4, h5, h6, h7, h8, h9, h10⟩ := h
  exact ⟨h1, LandR_c (fun j hj => hf.1 j (by omega) (by omega) (by omega) (by omega)) h2, hm, h4, hs, h6, by rw [hf.1 40 (by decide) (by decide) (by decide) (by decide)]; exact h7, by rw [hf.1 19 (by decide) (by decide) (by decide) (by decide)]; exact h8, by rw [hf.1 20 (by decide) (by decide) (by decide) (by decide)]; exact h9, by rw [hf.1 21 (by decide) (by decide) (by decide) (by decide)]; exact h10⟩
/-- a row of states from which one sets out -/
def Frm (w : Wo) (I : Nat → Ro) (c : Nat → Nat) (fr nf n : Nat) : Prop := IA w fr nf ∧ (fr ≠ 38 ∧ fr ≠ 48 ∧ fr ≠ 49 ∧ fr ≠ 51) ∧ n ≤ nf ∧ n ≤ 240 ∧ ∀ i, i < n → ∃ s, I fr i = nI s ∧ s < 4 * c 1
def frX (I : Nat → Ro) (fr n : Nat) (s : Nat) : Prop := s < 240 ∧ ∃ i, i < n ∧ I fr i = nI s
theorem Frm.mv {fr nf n to : Nat} {I' : Nat → Nat → Int32} {L' : Nat → Nat → Int64} {Q' : Nat → Nat → Option Nat} (h : Frm w I c fr nf n) (hf : LdF I I' L L' Q Q' to) : Frm w I' c fr nf n ∧ I' fr = I fr := by
  have e := hf.1 fr h.2.1.1 h.2.1.2.1 h.2.1.2.2.1 h.2.1.2.2.2
  exact ⟨⟨h.1, h.2.1, h.2.2.1, h.2.2.2.1, by rw [e]; exact h.2.2.2.2⟩, e⟩
theorem Frm.lt {fr nf n s : Nat} (hc : c 1 ≤ 60) (h : Frm w I c fr nf n) (hx : frX I fr n s) : s < 4 * c 1 := by
  obtain ⟨hs, i, hi, e⟩ := hx
  obtain ⟨s', e1, e2⟩ := h.2.2.2.2 i hi
  have : s' = s := (nI_eq (by omega) (by omega)).mp (by rw [← e1, e])
  omega
def Wk (w : Wo) (T : Ro) (c : Nat → Nat) (y fr nf : Nat) (lens : Int64) (I : Nat → Ro) (L : Nat → Nat → Int64) (Q : Nat → Nat → Option Nat) (Z : Nat → Nat → Prop) (a b t u n st en : Nat) : Prop := Cur (2 * c 1) I L Q a b t u n ∧ Q 48 7 = some fr ∧ I 48 8 = nI st ∧ I 48 9 = nI en ∧ en ≤ nf ∧ st ≤ nf ∧ (∀ i, st ≤ i → i < en → ∃ s, I fr i = nI s ∧ s < 4 * c 1) ∧ L 48 10 = lens ∧ MapY I L T c y ∧ ∀ s l, (Zf (I fr) st en (L t) s l ↔ Z s l)
theorem Wk_c {fr nf n st en : Nat} {lens : Int64} {Z Z' : Nat → Nat → Prop} (h : ∀ s l, Z s l ↔ Z' s l) (q : Wk w T c y fr nf lens I L Q Z a b t u n st en) : Wk w T c y fr nf lens I L Q Z' a b t u n st en := by
  have e : Z = Z' := funext fun s => funext fun l => propext (h s l)
  rw [← e]; exact q
theorem c_beginW {fr nf st en : Nat} {lens : Int64} (hG : 100000 ≤ E.2.2.1) (hc : c 1 ≤ 60) (hm : MapY I L T c y) (h : StepsR I L Q) (hf : IA w fr nf) (hfn : fr ≠ 38 ∧ fr ≠ 48 ∧ fr ≠ 49 ∧ fr ≠ 51) (he : en ≤ nf) (hst : st ≤ nf) (hs : ∀ i, st ≤ i → i < en → ∃ s, I fr i = nI s ∧ s < 4 * c 1) (to : Nat) : ∃ a b t u I' L' Q', Wk w T c y fr nf lens I' L' Q' (fun s l => (s < 240 ∧ ∃ i, st ≤ i ∧ i < en ∧ I fr i = nI s) ∧ l = 0) a b t u 0 st en ∧ LdF I I' L L' Q Q' to ∧ (∀ k, k ≠ 48 → k ≠ 50 → k ≠ 52 → L' k = L k) ∧ F_X7_begin E (rr w 48) (rr w fr) (nI st) (nI en) lens (Hw E w I L Q) = rtV (Hw E w I' L' Q') := by
  obtain ⟨a, b, t, u, I', L', Q', h1, h2, h3, h4, h5, h6, h7, h8, h9, h10⟩ := c_begin (E := E) (w := w) (fr := fr) (x2 := nI st) (x3 := nI en) (lens := lens) hG h
  obtain ⟨C1, C2, C3, C4, C5, C6, C7, C8, C9⟩ := h1
  have ef : I' fr = I fr := h7 fr hfn.2.1
  refine ⟨a, b, t, u, I', L', Q', ⟨⟨C1, C2, C3, C4, C5, fun i hi => absurd hi (by omega), C7, C8, C9⟩, h6, h3, h4, he, hst, by rw [ef]; exact hs, h5, ⟨MapR_c (h7 32 (by decide)) (h7 38 (by decide)) (fun k g1 g2 => h8 k (by omega) (by omega) (by omega)) hm.1, by rw [h7 32 (by decide)]; exact hm.2⟩, fun s l => ?_⟩, ⟨fun k g1 g2 g3 g4 => h7 k g2, fun k g1 g2 g3 g4 g5 => h8 k g2 g3 g4, h9⟩, h8, h10⟩
  unfold Zf
  rw [ef]
  constructor
  · rintro (⟨i, z1, z2, z3, z4, z5⟩ | ⟨x, z1, z2, z3⟩)
    · exact ⟨⟨z4, i, z1, z2, z3⟩, z5⟩
    · rw [h2 x z1] at z3; exact absurd z3 b64_0
  · rintro ⟨⟨z1, i, z2, z3, z4⟩, z5⟩
    exact Or.inl ⟨i, z2, z3, z4, z1, z5⟩
theorem c_goW {fr nf n st en : Nat} {lens : Int64} {Z : Nat → Nat → Prop} (hG : 100000 ≤ E.2.2.1) (q1 : WfT T c) (q2 : LandR I T c) (hy : y ≤ 200) (hf : IA w fr nf) (hfn : fr ≠ 38 ∧ fr ≠ 48 ∧ fr ≠ 49 ∧ fr ≠ 51) (h : Wk w T c y fr nf lens I L Q Z a b t u n st en) (to : Nat) : ∃ I' L' Q' n', Wk w T c y fr nf lens I' L' Q' (nxZ T c y lens Z) b a u t n' st 0 ∧ Lst (2 * c 1) (I' b) (L' u) n' ∧ (0 < n' ↔ ∃ s l, nxZ T c y lens Z s l) ∧ LdF I I' L L' Q Q' to ∧ (∀ k, k ≠ 39 → k ≠ 50 → k ≠ 52 → L' k = L k) ∧ F_X7_go E (rr w 48) (Hw E w I L Q) = rtI (zb (0 < n')) (Hw E w I' L' Q') := by
  have k1 : c 1 ≤ 60 := (q1.1 1 (by decide)).2
  obtain ⟨w1, w2, w3, w4, w5, w6, w7, w8, w9, w10⟩ := h
  obtain ⟨I', L', Q', n', d1, d2, d3, d4, d5, d6, d7, d8, d9, d10, d11, d12⟩ := c_go (E := E) (w := w) hG q1 q2 w9 hy w1 w2 hf hfn w3 w4 w5 w6 w7 w8
  have key : ∀ s l, Zf (I' fr) st 0 (L' u) s l ↔ nxZ T c y lens Z s l := fun s l => by
    unfold Zf nxZ
    constructor
    · rintro (⟨i, z1, z2, _⟩ | ⟨x, z1, z2, z3⟩)
      · omega
      · obtain ⟨s0, l0, g1, g2, g3⟩ := (d3 x z1 l).mp z3
        rw [show s / 2 = x by omega]
        exact ⟨by omega, by omega, s0, l0, (w10 s0 l0).mp g1, g2, g3⟩
    · rintro ⟨z1, z2, s0, l0, g1, g2, g3⟩
      exact Or.inr ⟨s / 2, by omega, by omega, (d3 (s / 2) (by omega) l).mpr ⟨s0, l0, (w10 s0 l0).mpr g1, g2, g3⟩⟩
  refine ⟨I', L', Q', n', ⟨d1, d8, d5, d6, by omega, w6, fun i _ hi => absurd hi (by omega), d7, d4, key⟩, d2, ?_, ⟨d9, fun k g1 g2 g3 g4 g5 => d10 k g1 g3 g4, d11⟩, d10, d12⟩
  constructor
  · intro hn
    obtain ⟨j, e1, e2, e3⟩ := d2.2.1 0 hn
    have : ∃ l, b64 (L' u j) l := Classical.byContradiction fun z => e3 (z64.mpr fun l _ y => z ⟨l, y⟩)
    obtain ⟨l, hl⟩ := this
    exact ⟨2 * j, l, (key (2 * j) l).mp (Or.inr ⟨j, by omega, rfl, hl⟩)⟩
  · rintro ⟨s, l, z⟩
    rcases (key s l).mpr z with ⟨i, z1, z2, _⟩ | ⟨x, z1, z2, z3⟩
    · omega
    · obtain ⟨i, hi, _⟩ := d2.2.2.2 x z1 (fun e => by rw [e] at z3; exact b64_0 z3)
      omega
/-- arrows listed are those with tags -/
theorem Lst_Z {fr nf n st : Nat} {lens : Int64} {Z : Nat → Nat → Prop} (h : Wk w T c y fr nf lens I L Q Z a b t u n st 0) (hl : Lst (2 * c 1) (I a) (L t) n) (hc : c 1 ≤ 60) (j : Nat) (hj : j < 120) : (∃ i, i < n ∧ I a i = nI j) ↔ ∃ l, Z (2 * j) l := by
  obtain ⟨w1, w2, w3, w4, w5, w6, w7, w8, w9, w10⟩ := h
  constructor
  · rintro ⟨i, hi, e⟩
    obtain ⟨j', e1, e2, e3⟩ := hl.2.1 i hi
    have : j' = j := (nI_eq (by omega) (by omega)).mp (by rw [← e1, e])
    subst this
    have : ∃ l, b64 (L t j') l := Classical.byContradiction fun z => e3 (z64.mpr fun l _ y => z ⟨l, y⟩)
    obtain ⟨l, hl'⟩ := this
    exact ⟨l, (w10 _ _).mp (Or.inr ⟨j', hj, rfl, hl'⟩)⟩
  · rintro ⟨l, z⟩
    rcases (w10 _ _).mpr z with ⟨i, z1, z2, _⟩ | ⟨x, z1, z2, z3⟩
    · omega
    · have : x = j := by omega
      subst this
      exact hl.2.2.2 x z1 (fun e => by rw [e] at z3; exact b64_0 z3)
theorem nxZ_0 {X : Nat → Prop} {i s l : Nat} (hc : c 1 ≤ 60) (hX : ∀ s, X s → s < 4 * c 1) : nxZ T c y 0 (fun s l => onN T c y X i s ∧ l = 0) s l ↔ onN T c y X (i + 1) s ∧ l = 0 := by
  unfold nxZ mvB
  simp only [if_true]
  constructor
  · rintro ⟨h1, h2, s0, l0, ⟨h3, h4⟩, h5, h6⟩
    exact ⟨⟨h1, s0, onN_lt hX i s0 h3, h3, h5⟩, by omega⟩
  · rintro ⟨h, h1⟩
    have hlt := ONs_lt h
    obtain ⟨h2, s0, h3, h4, h5⟩ := h
    exact ⟨h2, by omega, s0, 0, ⟨h4, rfl⟩, h5, h1⟩
/-- on N -/
theorem c_times31 {fr nf N : Nat} {X : Nat → Prop} (to : Nat) (hG : 100000 ≤ E.2.2.1) (q1 : WfT T c) (q2 : LandR I T c) (hy : y ≤ 200) (hf : IA w fr nf) (hfn : fr ≠ 38 ∧ fr ≠ 48 ∧ fr ≠ 49 ∧ fr ≠ 51) (hN : 1 ≤ N) (hN2 : N < 1000) (hX : ∀ s, X s → s < 4 * c 1) {n st en : Nat} (h : Wk w T c y fr nf 0 I L Q (fun s l => X s ∧ l = 0) a b t u n st en) : ∃ I' L' Q' a' b' t' u' n' st', Wk w T c y fr nf 0 I' L' Q' (fun s l => onN T c y X N s ∧ l = 0) a' b' t' u' n' st' 0 ∧ (∀ j, j < 120 → ((∃ i, i < n' ∧ I' a' i = nI j) ↔ onN T c y X N (2 * j))) ∧ LdF I I' L L' Q Q' to ∧ (∀ k, k ≠ 39 → k ≠ 50 → k ≠ 52 → L' k = L k) ∧ ∀ K, L_X9_goTimes_31 E K (rr w 40) (nI N) E.2.2.1 0 (Hw E w I L Q) = K (Hw E w I' L' Q') := by
  have k1 : c 1 ≤ 60 := (q1.1 1 (by decide)).2
  refine lpE (ρ := (Hp → Rs) → Rs) (σ := (Nat → Nat → Int32) × (Nat → Nat → Int64) × (Nat → Nat → Option Nat)) (Lp := fun g i z => fun K => L_X9_goTimes_31 E K (rr w 40) (nI N) g (nI i) (Hw E w z.1 z.2.1 z.2.2)) (Iv := fun i z => (∃ a' b' t' u' n' st' en', Wk w T c y fr nf 0 z.1 z.2.1 z.2.2 (fun s l => onN T c y X i s ∧ l = 0) a' b' t' u' n' st' en' ∧ (1 ≤ i → en' = 0 ∧ ∀ j, j < 120 → ((∃ i, i < n' ∧ z.1 a' i = nI j) ↔ onN T c y X i (2 * j)))) ∧ LdF I z.1 L z.2.1 Q z.2.2 to ∧ (∀ k, k ≠ 39 → k ≠ 50 → k ≠ 52 → z.2.1 k = L k)) (Post := fun r => ∃ I' L' Q' a' b' t' u' n' st', Wk w T c y fr nf 0 I' L' Q' (fun s l => onN T c y X N s ∧ l = 0) a' b' t' u' n' st' 0 ∧ (∀ j, j < 120 → ((∃ i, i < n' ∧ I' a' i = nI j) ↔ onN T c y X N (2 * j))) ∧ LdF I I' L L' Q Q' to ∧ (∀ k, k ≠ 39 → k ≠ 50 → k ≠ 52 → L' k = L k) ∧ ∀ K, r K = K (Hw E w I' L' Q')) (N := N) ?_ ?_ E.2.2.1 0 (I, L, Q) (by omega) (by omega) ⟨⟨a, b, t, u, n, st, en, h, fun z => absurd z (by omega)⟩, LdF.rf, fun _ _ _ _ => rfl⟩
  · rintro g i ⟨I1, L1, Q1⟩ hi ⟨⟨a1, b1, t1, u1, n1, st1, en1, z1, z2⟩, z3, z4⟩
    dsimp only at *
    obtain ⟨I2, L2, Q2, n2, d1, d2, d3, d4, d5, d6⟩ := c_goW (E := E) (w := w) hG q1 (LandR_c (fun j hj => z3.1 j (by omega) (by omega) (by omega) (by omega)) q2) hy hf hfn z1 to
    have d1' := Wk_c (fun s l => nxZ_0 k1 hX) d1
    have st0 : ∀ K, L_X9_goTimes_31 E K (rr w 40) (nI N) (g + 1) (nI i) (Hw E w I1 L1 Q1) = if zb (0 < n2) = 0 then K (Hw E w I2 L2 Q2) else L_X9_goTimes_31 E K (rr w 40) (nI N) g (nI (i + 1)) (Hw E w I2 L2 Q2) := fun K => by
      rw [L_X9_goTimes_31, if_neg (nI_ge hi (by omega)), gf40_3, Option.bind_some, o48, Option.bind_some, d6, cI_r, nI_1]
    have lz : ∀ j, j < 120 → ((∃ i, i < n2 ∧ I2 b1 i = nI j) ↔ onN T c y X (i + 1) (2 * j)) := fun j hj => by
      rw [Lst_Z d1' d2 k1 j hj]
      exact ⟨fun ⟨l, h⟩ => h.1, fun h => ⟨0, h, rfl⟩⟩
    by_cases p : 0 < n2
    · left
      refine ⟨(I2, L2, Q2), ⟨⟨b1, a1, u1, t1, n2, st1, 0, d1', fun _ => ⟨rfl, lz⟩⟩, z3.tr d4, fun k g1 g2 g3 => (d5 k g1 g2 g3).trans (z4 k g1 g2 g3)⟩, ?_⟩
      funext K
      show L_X9_goTimes_31 E K (rr w 40) (nI N) (g + 1) (nI i) (Hw E w I1 L1 Q1) = _
      rw [st0, zi_t p]
    · right
      have em : ∀ s, ¬ onN T c y X (i + 1) s := fun s h => p (d3.mpr ⟨s, 0, (nxZ_0 k1 hX).mpr ⟨h, rfl⟩⟩)
      have em2 := onN_e em (show i + 1 ≤ N by omega)
      refine ⟨I2, L2, Q2, b1, a1, u1, t1, n2, st1, Wk_c (fun s l => ⟨fun h => absurd h.1 (em s), fun h => absurd h.1 (em2 s)⟩) d1', fun j hj => ?_, z3.tr d4, fun k g1 g2 g3 => (d5 k g1 g2 g3).trans (z4 k g1 g2 g3), fun K => ?_⟩
      · exact ⟨fun ⟨i, h, _⟩ => by omega, fun h => absurd h (em2 _)⟩
      · show L_X9_goTimes_31 E K (rr w 40) (nI N) (g + 1) (nI i) (Hw E w I1 L1 Q1) = _
        rw [st0, zi_f p]
  · rintro g ⟨I1, L1, Q1⟩ ⟨⟨a1, b1, t1, u1, n1, st1, en1, z1, z2⟩, z3, z4⟩
    dsimp only at *
    obtain ⟨e0, z5⟩ := z2 hN
    subst e0
    refine ⟨I1, L1, Q1, a1, b1, t1, u1, n1, st1, z1, z5, z3, z4, fun K => ?_⟩
    show L_X9_goTimes_31 E K (rr w 40) (nI N) (g + 1) (nI N) (Hw E w I1 L1 Q1) = _
    rw [L_X9_goTimes_31, if_pos (nI_le (Nat.le_refl N) (by omega))]
theorem c_times56 {to n : Nat} (hG : 100000 ≤ E.2.2.1) (hA : Abtu Q a b t u) (so : SO w to) (h1 : I 48 1 = nI n) (hn : n ≤ 120) (hx : ∀ i, i < n → ∃ j, I a i = nI j ∧ j < 120) : ∃ L', (∀ k, k ≠ to + 1 → L' k = L k) ∧ (∀ q, q < 256 → (bq (L' (to + 1)) q ↔ bq (L (to + 1)) q ∨ (q % 2 = 0 ∧ ∃ i, i < n ∧ I a i = nI (q / 2)))) ∧ L_X9_goTimes_56 E (rr w 40) (rr w to) E.2.2.1 0 (Hw E w I L Q) = rtV (Hw E w I L' Q) := by
  have gg := fun (L : Nat → Nat → Int64) => hA.g (E := E) (w := w) (I := I) (L := L)
  have ia := (hA.ia (w := w)).1
  refine lpK2 (σ := Nat → Nat → Int64) (Lp := fun g i s => L_X9_goTimes_56 E (rr w 40) (rr w to) g (nI i) (Hw E w I s Q)) (K := fun s => rtV (Hw E w I s Q)) (Iv := fun i s => (∀ k, k ≠ to + 1 → s k = L k) ∧ ∀ q, q < 256 → (bq (s (to + 1)) q ↔ bq (L (to + 1)) q ∨ (q % 2 = 0 ∧ ∃ i', i' < i ∧ I a i' = nI (q / 2)))) (N := n) (g := E.2.2.1) (i := 0) (s := L) ?_ ?_ ?_ (by omega) (by omega) ⟨fun _ _ => rfl, fun q hq => ⟨Or.inl, fun z => z.elim id (fun ⟨_, i, h, _⟩ => absurd h (by omega))⟩⟩
  · rintro L' ⟨z1, z2⟩ ee
    exact ⟨L', z1, z2, ee⟩
  · rintro g i L1 hi ⟨z1, z2⟩
    obtain ⟨j, ej, hj⟩ := hx i hi
    refine ⟨adS L1 (to + 1) (2 * j), ⟨fun k hk => (adS_row hk).trans (z1 k hk), fun q hq => ?_⟩, ?_⟩
    · rw [adS_b (by omega) hq, z2 q hq, or_assoc]
      refine or_congr_right ⟨?_, ?_⟩
      · rintro (⟨h1, i', h2, h3⟩ | rfl)
        · exact ⟨h1, i', by omega, h3⟩
        · exact ⟨by omega, i, by omega, by rw [show 2 * j / 2 = j by omega]; exact ej⟩
      · rintro ⟨h1, i', h2, h3⟩
        by_cases e : i' = i
        · right
          have : q / 2 = j := (nI_eq (by omega) (by omega)).mp (by rw [← h3, e, ej])
          omega
        · exact Or.inl ⟨h1, i', by omega, h3⟩
    · show L_X9_goTimes_56 E (rr w 40) (rr w to) (g + 1) (nI i) (Hw E w I L1 Q) = _
      rw [L_X9_goTimes_56, gf40_3, Option.bind_some, gf48_1, Option.bind_some, h1, if_neg (nI_ge hi (by omega)), Option.bind_some, (gg L1).1, Option.bind_some]
      simp (disch := omega) only [Option.bind_some, Option.map_some, Option.join, cI_r, cL_r, cV_r, xI_r, xL_r, xV_r, xI_t, xL_t, xV_t, lt_r, rtZ_0, rtZ_1, rtZ_zb, ia.ga, ix_n, ej, so.o, m2, pk_mul, c_add so, nI_1]
  · rintro g L1 _
    show L_X9_goTimes_56 E (rr w 40) (rr w to) (g + 1) (nI n) (Hw E w I L1 Q) = _
    rw [L_X9_goTimes_56, gf40_3, Option.bind_some, gf48_1, Option.bind_some, h1, if_pos (nI_le (Nat.le_refl n) (by omega))]
/-- what a word of the class does: its aim grows by W -/
def LdP (E : Ev) (w : Wo) (T : Ro) (c : Nat → Nat) (y : Nat) (I : Nat → Nat → Int32) (L : Nat → Nat → Int64) (Q : Nat → Nat → Option Nat) (to : Nat) (W : Nat → Prop) (r : Rs) : Prop := ∃ I' L' Q', LdF I I' L L' Q Q' (to + 1) ∧ MapY I' L' T c y ∧ StepsR I' L' Q' ∧ (∀ q, q < 256 → (bq (L' (to + 1)) q ↔ bq (L (to + 1)) q ∨ W q)) ∧ r = rtV (Hw E w I' L' Q')
def okTo (to : Nat) : Prop := to + 1 ≠ 39 ∧ to + 1 ≠ 48 ∧ to + 1 ≠ 50 ∧ to + 1 ≠ 52 ∧ ¬ (32 ≤ to + 1 ∧ to + 1 < 40)
def wOn (T : Ro) (c : Nat → Nat) (y : Nat) (pat n : Nat) (X : Nat → Prop) (q : Nat) : Prop := n ≤ pat ∧ onN T c y X n q
theorem pat_n {k : Nat} (h : WC I L Q T c y k) : ∃ p, I 21 k = nI p ∧ T (726 + 5 * k) = nI p ∧ 1 ≤ p ∧ p ≤ 20 ∧ k < 8 := by
  obtain ⟨h1, h2, h3, h4, h5, h6, h7, h8, h9, h10⟩ := h
  obtain ⟨p, e, g1, g2⟩ := (h1.2.2.2.2.2.1 k h6).2.2.2.2
  have : c 4 ≤ 8 := (h1.1 4 (by decide)).2
  exact ⟨p, h10.trans e, e, g1, g2, by omega⟩
theorem c_goTimes {k to fr nf n N : Nat} (hG : 100000 ≤ E.2.2.1) (h : WC I L Q T c y k) (so : SO w to) (ht : okTo to) (hf : Frm w I c fr nf n) (hN : 1 ≤ N) (hN2 : N < 1000) : LdP E w T c y I L Q to (wOn T c y (tn (T (726 + 5 * k))) N (frX I fr n)) (F_X9_goTimes E (rr w 40) (nI N) (rr w fr) (nI n) (rr w to) (Hw E w I L Q)) := by
  obtain ⟨p, p1, p2, p3, p4, p5⟩ := pat_n h
  have tp : tn (T (726 + 5 * k)) = p := by rw [p2]; exact nI_clamp (by omega)
  rw [tp]
  obtain ⟨q1, q2, hm, hy, hs, hk, hw6, -, -, -⟩ := h
  have k1 : c 1 ≤ 60 := (q1.1 1 (by decide)).2
  unfold F_X9_goTimes
  simp (disch := omega) only [Option.bind_some, Option.map_some, Option.join, cI_r, cL_r, cV_r, xI_r, xL_r, xV_r, xI_t, xL_t, xV_t, lt_r, rtZ_0, rtZ_1, rtZ_zb, gf40_1, gf15_7, gf40_6, hw6, ga21, ix_n, p1]
  by_cases c1 : N ≤ p
  · rw [if_pos (nI_le c1 (by omega))]
    obtain ⟨a, b, t, u, I1, L1, Q1, d1, d2, d3, d4⟩ := c_beginW (E := E) (w := w) (st := 0) (en := n) (lens := 0) hG k1 hm hs hf.1 hf.2.1 hf.2.2.1 (by omega) (fun i _ hi => hf.2.2.2.2 i hi) (to + 1)
    have d1' := Wk_c (Z' := fun s l => frX I fr n s ∧ l = 0) (fun s l => ⟨fun z => ⟨⟨z.1.1, by obtain ⟨i, _, g2, g3⟩ := z.1.2; exact ⟨i, g2, g3⟩⟩, z.2⟩, fun z => ⟨⟨z.1.1, by obtain ⟨i, g2, g3⟩ := z.1.2; exact ⟨i, by omega, g2, g3⟩⟩, z.2⟩⟩) d1
    obtain ⟨I2, L2, Q2, a2, b2, t2, u2, n2, st2, e1, e2, e3, e4, e5⟩ := c_times31 (E := E) (w := w) (N := N) (to + 1) hG q1 (LandR_c (fun j hj => d2.1 j (by omega) (by omega) (by omega) (by omega)) q2) hy hf.1 hf.2.1 hN hN2 (fun s hx => hf.lt k1 hx) d1'
    have cur := e1.1
    obtain ⟨L3, g1, g2, g3⟩ := c_times56 (E := E) (w := w) (I := I2) (L := L2) (Q := Q2) hG cur.1 so cur.2.2.1 cur.2.2.2.1 (fun i hi => by obtain ⟨j, z1, z2⟩ := cur.2.2.2.2.2.1 i hi; exact ⟨j, z1, by omega⟩)
    have nn := cur.1.n
    refine ⟨I2, L3, Q2, ⟨(d2.tr e3).1, fun k g1' g2' g3' g4' g5' => (g1 k g5').trans ((d2.tr e3).2.1 k g1' g2' g3' g4' g5'), (d2.tr e3).2.2⟩, ⟨MapR_c rfl rfl (fun k h1 h2 => g1 k (by have := ht; unfold okTo at this; omega)) e1.2.2.2.2.2.2.2.2.1.1, e1.2.2.2.2.2.2.2.2.1.2⟩, ?_, fun q hq => ?_, ?_⟩
    · have st := Cur.st (B := 2 * c 1) (by omega) cur
      exact StepsR_c rfl rfl rfl (g1 50 (by have := ht; unfold okTo at this; omega)) (g1 52 (by have := ht; unfold okTo at this; omega)) st
    · rw [g2 q hq]
      have el : L2 (to + 1) = L (to + 1) := by
        have := ht; unfold okTo at this
        rw [e4 _ (by omega) (by omega) (by omega), d3 _ (by omega) (by omega) (by omega)]
      rw [el]
      refine or_congr_right ⟨?_, ?_⟩
      · rintro ⟨z1, i, z2, z3⟩
        have := (e2 (q / 2) (by
          obtain ⟨j, y1, y2⟩ := cur.2.2.2.2.2.1 i z2
          have : j = q / 2 := (nI_eq (by omega) (by omega)).mp (by rw [← y1, z3])
          omega)).mp ⟨i, z2, z3⟩
        rw [show 2 * (q / 2) = q by omega] at this
        exact ⟨c1, this⟩
      · rintro ⟨_, z⟩
        cases N with
        | zero => omega
        | succ N =>
          have hlt := ONs_lt z
          have z1 := z.1
          exact ⟨z1, (e2 (q / 2) (by omega)).mpr (by rw [show 2 * (q / 2) = q by omega]; exact z)⟩
    · simp only [Option.bind_some, Option.map_some, Option.join, cI_r, cL_r, cV_r, xI_r, xL_r, xV_r, xI_t, xL_t, xV_t, lt_r, rtZ_0, rtZ_1, rtZ_zb, gf40_3, o48]
      rw [show (0 : Int32) = nI 0 from rfl, d4, cV_r, show nI 0 = (0 : Int32) from rfl, e5]
      exact g3
  · rw [if_neg (nI_ge (by omega) (by omega))]
    exact ⟨I, L, Q, LdF.rf, hm, hs, fun q hq => ⟨Or.inl, fun z => z.elim id (fun z => absurd z.1 c1)⟩, rfl⟩
end
