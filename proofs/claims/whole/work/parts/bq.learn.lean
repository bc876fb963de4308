/-! learned: a name that means one kind alone -/
def lrT (T : Ro) (x κ : Nat) : Ro := fun i => if i = x then (1 : Int32) <<< (nI κ &&& 31) else T i
theorem lr_o {T : Ro} {x κ i : Nat} (h : i ≠ x) : lrT T x κ i = T i := by unfold lrT; rw [if_neg h]
theorem lr_s {T : Ro} {x κ : Nat} : lrT T x κ x = (1 : Int32) <<< (nI κ &&& 31) := by unfold lrT; rw [if_pos rfl]
theorem one_k : ∀ κ, κ < 12 → (1 : Int32) <<< (nI κ &&& 31) = nI (2 ^ κ) := by decide
theorem one_b {κ : Nat} (h : κ < 12) : bd ((1 : Int32) <<< (nI κ &&& 31)) 0 4095 := by
  have p : 2 ^ κ ≤ 2 ^ 11 := Nat.pow_le_pow_right (by decide) (by omega)
  exact ⟨2 ^ κ, one_k κ h, Nat.zero_le _, Nat.le_trans p (by decide)⟩
section
variable {E : Ev} {w : Wo} {I I1 I2 : Nat → Nat → Int32} {L L1 L2 : Nat → Nat → Int64} {Q Q1 Q2 : Nat → Nat → Option Nat} {c : Nat → Nat} {T T' : Ro} {y x κ : Nat}
theorem WfT_l (hx : 650 ≤ x ∧ x < 722) (hκ : κ < 12) (q : WfT T c) : WfT (lrT T x κ) c := by
  obtain ⟨q1, q2, q3, q4, q5, q6, q7, q8⟩ := q
  have b0 : c 0 ≤ 40 := (q1 0 (by decide)).2
  have b1 : c 1 ≤ 60 := (q1 1 (by decide)).2
  have b2 : c 2 ≤ 40 := (q1 2 (by decide)).2
  have b3 : c 3 ≤ 6 := (q1 3 (by decide)).2
  have b4 : c 4 ≤ 8 := (q1 4 (by decide)).2
  have b5 : c 5 ≤ 12 := (q1 5 (by decide)).2
  have b6 : c 6 ≤ 30 := (q1 6 (by decide)).2
  refine ⟨fun i hi => by rw [lr_o (by omega)]; exact q1 i hi, ⟨fun p hp => ?_, fun p p' hp hp' e1 e2 => ?_⟩, fun v hv => WfV_T (fun i _ _ => lr_o (by omega)) (by omega) (Nat.le_refl _) (q3 v hv), fun m hm => WfM_T (fun i _ _ => lr_o (by omega)) (by omega) (Nat.le_refl _) (q4 m hm), fun t ht n hn => ?_, fun k hk => WfK_T (fun i _ _ => lr_o (by omega)) (by omega) (Nat.le_refl _) (q6 k hk), fun z hz => WfZ_T (fun i _ _ => lr_o (by omega)) (by omega) (Nat.le_refl _) (q7 z hz), fun r hr => WfR_T (fun i _ _ => lr_o (by omega)) (by omega) (Nat.le_refl _) (Nat.le_refl _) (Nat.le_refl _) (Nat.le_refl _) (q8 r hr)⟩
  · rw [lr_o (by omega), lr_o (by omega)]; exact q2.1 p hp
  · rw [lr_o (by omega), lr_o (by omega)] at e1 e2
    exact q2.2 p p' hp hp' e1 e2
  · by_cases e : 650 + 12 * t + n = x
    · rw [e, lr_s]; exact one_b hκ
    · rw [lr_o e]; exact q5 t ht n hn
theorem LandR_l {r : Nat → Ro} (h : ∀ i, i < 650 → T' i = T i) (q1 : WfT T c) (q : LandR r T c) : LandR r T' c := by
  have b0 : c 0 ≤ 40 := (q1.1 0 (by decide)).2
  have b1 : c 1 ≤ 60 := (q1.1 1 (by decide)).2
  have b2 : c 2 ≤ 40 := (q1.1 2 (by decide)).2
  obtain ⟨⟨p1, p2⟩, ⟨p3, p4⟩, ⟨p5, p6⟩, p7⟩ := q
  exact ⟨⟨by rw [h 0 (by omega)]; exact p1, fun p hp => by rw [h _ (by omega), h _ (by omega)]; exact p2 p hp⟩, ⟨by rw [h 1 (by omega)]; exact p3, fun v hv => LandV_T (fun i _ _ => h i (by omega)) (fun p hp => ⟨h _ (by omega), h _ (by omega)⟩) (by omega) b0 (q1.2.2.1 v hv) (p4 v hv)⟩, ⟨by rw [h 2 (by omega)]; exact p5, fun m hm => LandM_T (fun i _ _ => h i (by omega)) (by omega) (p6 m hm)⟩, p7⟩
theorem MapY_l (h : ∀ i, i < 650 → T' i = T i) (q1 : WfT T c) (q : MapY I L T c y) : MapY I L T' c y := by
  have b0 : c 0 ≤ 40 := (q1.1 0 (by decide)).2
  have b1 : c 1 ≤ 60 := (q1.1 1 (by decide)).2
  have b2 : c 2 ≤ 40 := (q1.1 2 (by decide)).2
  exact ⟨MapR_T (fun i _ h2 => h i h2) (fun p hp => ⟨h _ (by omega), h _ (by omega)⟩) b0 rfl b1 rfl b2 q1.2.2.1 q.1, q.2⟩
theorem WC_l {k : Nat} (hx : 650 ≤ x ∧ x < 722) (hκ : κ < 12) (h : WC I L Q T c y k) : WC I L Q (lrT T x κ) c y k := by
  obtain ⟨h1, h2, h3, h4, h5, h6, h7, h8, h9, h10⟩ := h
  have o : ∀ i, i < 650 → lrT T x κ i = T i := fun i hi => lr_o (by omega)
  exact ⟨WfT_l hx hκ h1, LandR_l o h1 h2, MapY_l o h1 h3, h4, h5, h6, h7, by rw [lr_o (by omega)]; exact h8, by rw [lr_o (by omega)]; exact h9, by rw [lr_o (by omega)]; exact h10⟩
theorem spl_l {s : Nat} (hx : 650 ≤ x) (hs : s < 240) : spl (lrT T x κ) s = spl T s := spl_T (fun i _ _ => lr_o (by omega)) hs
theorem stdK_l {ks : Int32} {p : Nat} (hx : 650 ≤ x) (hc : c 2 ≤ 40) : stdK (lrT T x κ) c y ks p ↔ stdK T c y ks p := by
  unfold stdK mkAt
  refine exists_congr fun m => exists_congr fun kd => and_congr_right fun _ => and_congr_left fun _ => and_congr_right fun hm => ?_
  rw [lr_o (by omega), lr_o (by omega), lr_o (by omega), lr_o (by omega)]
/-- the kinds that a name means, where one name is supposed -/
theorem knd_l {k n n' tk : Nat} (ht : T (722 + 5 * k) = nI tk) (htk : tk < 6) (hn : n < 12) (hn' : n' < 12) : knd (lrT T (650 + 12 * tk + n) κ) k n' = if n' = n then ((1 : Int32) <<< (nI κ &&& 31)) &&& T (723 + 5 * k) else knd T k n' := by
  unfold knd
  rw [lr_o (show 722 + 5 * k ≠ 650 + 12 * tk + n by omega), lr_o (show 723 + 5 * k ≠ 650 + 12 * tk + n by omega), ht, show tn (nI tk) = tk from nI_clamp (by omega)]
  by_cases e : n' = n
  · rw [if_pos e, e, lr_s]
  · rw [if_neg e, lr_o (by omega)]
/-- all but one name's ground -/
def GndB (I : Nat → Ro) (L : Nat → Nat → Int64) (T : Ro) (c : Nat → Nat) (y k n : Nat) : Prop := ∀ n', n' < 12 → n' ≠ n → I 41 (12 * k + n') = knd T k n' ∧ ∀ p, p < 64 → (b64 (L 42 (12 * k + n')) p ↔ stdA T c y k n' p)
/-- a record -/
def recD (T : Ro) (c : Nat → Nat) (r z s y p t : Nat) : Prop := (T (2839 + 5 * r) = nI z ∧ z < c 5) ∧ (T (2840 + 5 * r) = nI s ∧ s < 4 * c 1) ∧ (T (2841 + 5 * r) = nI y ∧ y ≤ 200) ∧ (T (2842 + 5 * r) = nI p ∧ p < 40) ∧ T (764 + 173 * z) = nI t ∧ t ≤ 10
theorem rec_ex {r : Nat} (q1 : WfT T c) (hr : r < c 6) : ∃ z s y p t, recD T c r z s y p t := by
  have b0 : c 0 ≤ 40 := (q1.1 0 (by decide)).2
  obtain ⟨-, ⟨z, e1, h1⟩, ⟨s, e2, h2⟩, ⟨y, e3, -, h3⟩, ⟨p, e4, h4⟩⟩ := q1.2.2.2.2.2.2.2 r hr
  obtain ⟨t, e5, h5⟩ := say_n q1 h1
  exact ⟨z, s, y, p, t, ⟨e1, h1⟩, ⟨e2, h2⟩, ⟨e3, h3⟩, ⟨e4, by omega⟩, e5, h5⟩
theorem rec_uq {r z s y p t z' s' y' p' t' : Nat} (q1 : WfT T c) (h : recD T c r z s y p t) (h' : recD T c r z' s' y' p' t') : z = z' ∧ s = s' ∧ y = y' ∧ p = p' ∧ t = t' := by
  have b1 : c 1 ≤ 60 := (q1.1 1 (by decide)).2
  have b5 : c 5 ≤ 12 := (q1.1 5 (by decide)).2
  obtain ⟨⟨a1, a2⟩, ⟨a3, a4⟩, ⟨a5, a6⟩, ⟨a7, a8⟩, a9, a10⟩ := h
  obtain ⟨⟨b1, b2⟩, ⟨b3, b4⟩, ⟨b5, b6⟩, ⟨b7, b8⟩, b9, b10⟩ := h'
  have e1 : z = z' := (nI_eq (by omega) (by omega)).mp (by rw [← a1, b1])
  subst e1
  exact ⟨rfl, (nI_eq (by omega) (by omega)).mp (by rw [← a3, b3]), (nI_eq (by omega) (by omega)).mp (by rw [← a5, b5]), (nI_eq (by omega) (by omega)).mp (by rw [← a7, b7]), (nI_eq (by omega) (by omega)).mp (by rw [← a9, b9])⟩
def LPr (T : Ro) (c : Nat → Nat) (k r : Nat) : Prop := ∀ z s y p t, recD T c r z s y p t → lsP T c y k z s t p
theorem LPr_i {k r z s y p t : Nat} (q1 : WfT T c) (h : recD T c r z s y p t) : LPr T c k r ↔ lsP T c y k z s t p := by
  refine ⟨fun g => g z s y p t h, fun g z' s' y' p' t' h' => ?_⟩
  obtain ⟨rfl, rfl, rfl, rfl, rfl⟩ := rec_uq q1 h h'
  exact g
/-- all records of a walker up to some are as he went -/
def went (T : Ro) (c : Nat → Nat) (k R : Nat) : Prop := ∀ r, r < R → T (2838 + 5 * r) = nI k → LPr T c k r
noncomputable def bsum (P : Nat → Prop) : Nat → Int32
  | 0 => 0
  | n + 1 => @ite _ (P n) (Classical.propDecidable _) (bsum P n ||| ((1 : Int32) <<< (nI n &&& 31))) (bsum P n)
theorem bsum_t {P : Nat → Prop} {n : Nat} (h : P n) : bsum P (n + 1) = bsum P n ||| ((1 : Int32) <<< (nI n &&& 31)) := by rw [bsum, if_pos h]
theorem bsum_f {P : Nat → Prop} {n : Nat} (h : ¬ P n) : bsum P (n + 1) = bsum P n := by rw [bsum, if_neg h]
theorem bsum_c {P R : Nat → Prop} {n : Nat} (h : ∀ i, i < n → (P i ↔ R i)) : bsum P n = bsum R n := by
  induction n with
  | zero => rfl
  | succ n ih =>
    by_cases p : P n
    · rw [bsum_t p, bsum_t ((h n (by omega)).mp p), ih (fun i hi => h i (by omega))]
    · rw [bsum_f p, bsum_f (fun z => p ((h n (by omega)).mpr z)), ih (fun i hi => h i (by omega))]
theorem bsum_all {P : Nat → Prop} (h : ∀ i, i < 12 → P i) : bsum P 12 = 4095 := by
  rw [bsum_t (h 11 (by decide)), bsum_t (h 10 (by decide)), bsum_t (h 9 (by decide)), bsum_t (h 8 (by decide)), bsum_t (h 7 (by decide)), bsum_t (h 6 (by decide)), bsum_t (h 5 (by decide)), bsum_t (h 4 (by decide)), bsum_t (h 3 (by decide)), bsum_t (h 2 (by decide)), bsum_t (h 1 (by decide)), bsum_t (h 0 (by decide))]
  show ((0 : Int32) ||| _) ||| _ ||| _ ||| _ ||| _ ||| _ ||| _ ||| _ ||| _ ||| _ ||| _ ||| _ = _
  decide
theorem b32_or {a b : Int32} {i : Nat} : b32 (a ||| b) i ↔ b32 a i ∨ b32 b i := by
  unfold b32; rw [Int32.toBitVec_or, BitVec.getLsbD_or, Bool.or_eq_true]
theorem b32_one : ∀ n, n < 12 → ∀ i, i < 32 → (((1 : Int32) <<< (nI n &&& 31)).toBitVec.getLsbD i = decide (i = n)) := by decide +kernel
theorem bsum_b {P : Nat → Prop} {n i : Nat} (hn : n ≤ 12) (hi : i < 32) : b32 (bsum P n) i ↔ i < n ∧ P i := by
  induction n with
  | zero => exact ⟨fun z => absurd z (by unfold b32 bsum; simp), fun z => absurd z.1 (by omega)⟩
  | succ n ih =>
    have ii := ih (by omega)
    by_cases p : P n
    · rw [bsum_t p, b32_or, ii]
      have o : b32 ((1 : Int32) <<< (nI n &&& 31)) i ↔ i = n := by
        unfold b32; rw [b32_one n (by omega) i hi]; exact decide_eq_true_iff
      rw [o]
      constructor
      · rintro (⟨h1, h2⟩ | h)
        · exact ⟨by omega, h2⟩
        · rw [h]; exact ⟨by omega, p⟩
      · rintro ⟨h1, h2⟩
        by_cases e : i = n
        · exact Or.inr e
        · exact Or.inl ⟨by omega, h2⟩
    · rw [bsum_f p, ii]
      constructor
      · rintro ⟨h1, h2⟩; exact ⟨by omega, h2⟩
      · rintro ⟨h1, h2⟩
        refine ⟨?_, h2⟩
        by_cases e : i = n
        · rw [e] at h2; exact absurd h2 p
        · omega
end
