/-! telling: what is read -/
def cb (b : Nat) : Int32 := (nI b).toInt8.toInt32
theorem cbF : ∀ b, b < 256 → (cb b = 32 ↔ b = 32) ∧ (cb b = 10 ↔ b = 10) ∧ (cb b = 59 ↔ b = 59) ∧ (cb b < 48 ↔ (b < 48 ∨ 128 ≤ b)) ∧ (57 < cb b ↔ (57 < b ∧ b < 128)) ∧ (cb b < 97 ↔ (b < 97 ∨ 128 ≤ b)) ∧ (122 < cb b ↔ (122 < b ∧ b < 128)) := by decide +kernel
theorem cbN : ∀ b, b < 128 → cb b = nI b := by decide +kernel
theorem nIF : ∀ b, b < 256 → (nI b = 32 ↔ b = 32) ∧ (nI b = 10 ↔ b = 10) ∧ (nI b = 59 ↔ b = 59) ∧ (nI b < 48 ↔ b < 48) ∧ (57 < nI b ↔ 57 < b) ∧ (nI b < 97 ↔ b < 97) ∧ (122 < nI b ↔ 122 < b) := by decide +kernel
def blk (b : Nat) : Bool := b == 32 || b == 10
def dgt (b : Nat) : Bool := decide (48 ≤ b) && decide (b ≤ 57)
def ltr (b : Nat) : Bool := decide (97 ≤ b) && decide (b ≤ 122)
theorem blk_t {b : Nat} : blk b = true ↔ b = 32 ∨ b = 10 := by unfold blk; simp
theorem dgt_t {b : Nat} : dgt b = true ↔ 48 ≤ b ∧ b ≤ 57 := by unfold dgt; simp
theorem ltr_t {b : Nat} : ltr b = true ↔ 97 ≤ b ∧ b ≤ 122 := by unfold ltr; simp
/-- as far as such bytes go -/
def adv (B : Nat → Nat) (n : Nat) (C : Nat → Bool) : Nat → Nat → Nat
  | 0, p => p
  | d + 1, p => if p < n ∧ C (B p) = true then adv B n C d (p + 1) else p
section
variable {B : Nat → Nat} {n : Nat} {C : Nat → Bool}
theorem adv_t {d p : Nat} (h1 : p < n) (h2 : C (B p) = true) : adv B n C (d + 1) p = adv B n C d (p + 1) := by rw [adv, if_pos ⟨h1, h2⟩]
theorem adv_f {d p : Nat} (h2 : ¬ C (B p) = true) : adv B n C (d + 1) p = p := by rw [adv, if_neg (fun z => h2 z.2)]
theorem adv_ge : ∀ d p, p ≤ adv B n C d p := by
  intro d
  induction d with
  | zero => intro p; exact Nat.le_refl _
  | succ d ih =>
    intro p
    rw [adv]
    split
    · have := ih (p + 1); omega
    · exact Nat.le_refl _
theorem adv_le : ∀ d p, p ≤ n → adv B n C d p ≤ n := by
  intro d
  induction d with
  | zero => intro p h; exact h
  | succ d ih =>
    intro p h
    rw [adv]
    split
    · rename_i z; exact ih (p + 1) (by omega)
    · exact h
theorem adv_in : ∀ d p j, p ≤ j → j < adv B n C d p → C (B j) = true := by
  intro d
  induction d with
  | zero => intro p j h1 h2; rw [adv] at h2; omega
  | succ d ih =>
    intro p j h1 h2
    rw [adv] at h2
    split at h2
    · rename_i z
      by_cases e : j = p
      · rw [e]; exact z.2
      · exact ih (p + 1) j (by omega) h2
    · omega
theorem adv_out : ∀ d p, n - p ≤ d → adv B n C d p < n → ¬ C (B (adv B n C d p)) = true := by
  intro d
  induction d with
  | zero => intro p h1 h2; rw [adv] at h2; omega
  | succ d ih =>
    intro p h1 h2
    rw [adv] at h2 ⊢
    split
    · rename_i z
      rw [if_pos z] at h2
      exact ih (p + 1) (by omega) h2
    · rename_i z
      rw [if_neg z] at h2
      exact fun y => z ⟨h2, y⟩
end
/-- the class' words: six letters each -/
def voc (i : Nat) : Int32 := nI (sch 0 i)
theorem vocC {m : Nat} (h : m < 144) : sCh 0 (nI m) = some (voc m) := by
  unfold sCh
  rw [if_pos (by decide), show sln 0 = 144 by decide +kernel, ix_n h (by decide)]
  rfl
def Mt (B : Nat → Nat) (st en k : Nat) : Prop := en - st ≤ 6 ∧ ∀ i, i < 6 → (if st + i < en then cb (B (st + i)) else 32) = voc (6 * k + i)
theorem voc_uq : ∀ k, k < 24 → ∀ k', k' < 24 → (∀ i, i < 6 → voc (6 * k + i) = voc (6 * k' + i)) → k = k' := by decide +kernel
theorem Mt_uq {B : Nat → Nat} {st en k k' : Nat} (hk : k < 24) (hk' : k' < 24) (h : Mt B st en k) (h' : Mt B st en k') : k = k' := voc_uq k hk k' hk' (fun i hi => (h.2 i hi).symm.trans (h'.2 i hi))
def wkP (B : Nat → Nat) (st en κ : Nat) : Prop := (κ = 27 ∧ ∀ k, k < 24 → ¬ Mt B st en k) ∨ (κ < 24 ∧ Mt B st en κ)
noncomputable def wk (B : Nat → Nat) (st en : Nat) : Nat := Classical.epsilon (wkP B st en)
theorem wk_s {B : Nat → Nat} {st en : Nat} : wkP B st en (wk B st en) := by
  refine Classical.epsilon_spec (p := wkP B st en) ?_
  by_cases e : ∃ k, k < 24 ∧ Mt B st en k
  · obtain ⟨k, h1, h2⟩ := e
    exact ⟨k, Or.inr ⟨h1, h2⟩⟩
  · exact ⟨27, Or.inl ⟨rfl, fun k hk z => e ⟨k, hk, z⟩⟩⟩
theorem wkP_uq {B : Nat → Nat} {st en κ κ' : Nat} (h : wkP B st en κ) (h' : wkP B st en κ') : κ = κ' := by
  rcases h with ⟨h1, h2⟩ | ⟨h1, h2⟩ <;> rcases h' with ⟨g1, g2⟩ | ⟨g1, g2⟩
  · omega
  · exact absurd g2 (h2 _ g1)
  · exact absurd h2 (g2 _ h1)
  · exact Mt_uq h1 g1 h2 g2
theorem wk_k {B : Nat → Nat} {st en k : Nat} (hk : k < 24) : wk B st en = k ↔ Mt B st en k := by
  constructor
  · intro e
    rcases wk_s (B := B) (st := st) (en := en) with h | h
    · omega
    · rw [e] at h; exact h.2
  · intro h
    exact wkP_uq wk_s (Or.inr ⟨hk, h⟩)
/-- the value of one or two digits -/
def nv (B : Nat → Nat) (st p : Nat) : Nat := if p ≤ st then 0 else if p = st + 1 then B st - 48 else 10 * (B st - 48) + (B (st + 1) - 48)
def spn (B : Nat → Nat) (n p : Nat) : Nat := adv B n blk (n - p) p
/-- what comes: 0 to 23 a word, 24 a number, 25 a semicolon, 26 the end, 27 another word, 28 nothing that is read -/
noncomputable def tkn (B : Nat → Nat) (n p : Nat) : Nat := if n ≤ spn B n p then 26 else if B (spn B n p) = 59 then 25 else if dgt (B (spn B n p)) = true then (if 2 < adv B n dgt (n - spn B n p) (spn B n p) - spn B n p then 28 else 24) else if ltr (B (spn B n p)) = true then wk B (spn B n p) (adv B n ltr (n - spn B n p) (spn B n p)) else 28
def nxp (B : Nat → Nat) (n p : Nat) : Nat := if n ≤ spn B n p then spn B n p else if B (spn B n p) = 59 then spn B n p + 1 else if dgt (B (spn B n p)) = true then adv B n dgt (n - spn B n p) (spn B n p) else if ltr (B (spn B n p)) = true then adv B n ltr (n - spn B n p) (spn B n p) else spn B n p
def tvl (B : Nat → Nat) (n p : Nat) : Nat := nv B (spn B n p) (nxp B n p)
section
variable {E : Ev} {w : Wo} {I : Nat → Nat → Int32} {L : Nat → Nat → Int64} {Q : Nat → Nat → Option Nat} {B : Nat → Nat} {n : Nat}
theorem spn_ge {p : Nat} : p ≤ spn B n p := adv_ge _ _
theorem spn_le {p : Nat} (h : p ≤ n) : spn B n p ≤ n := adv_le _ _ h
theorem nxp_le {p : Nat} (h : p ≤ n) : nxp B n p ≤ n := by
  have h1 := spn_le (B := B) h
  unfold nxp
  split
  · exact h1
  · split
    · omega
    · split
      · exact adv_le _ _ h1
      · split
        · exact adv_le _ _ h1
        · exact h1
theorem adv_gt {C : Nat → Bool} {p : Nat} (h : p < n) (hc : C (B p) = true) : p < adv B n C (n - p) p := by
  rw [show n - p = (n - p - 1) + 1 by omega, adv_t h hc]
  have := adv_ge (B := B) (n := n) (C := C) (n - p - 1) (p + 1)
  omega
theorem nxp_gt {p : Nat} (h : p ≤ n) (h1 : tkn B n p ≠ 26) (h2 : tkn B n p ≠ 28) : p < nxp B n p := by
  have g1 := spn_le (B := B) h
  have g2 := spn_ge (B := B) (n := n) (p := p)
  unfold tkn at h1 h2
  unfold nxp
  by_cases c1 : n ≤ spn B n p
  · rw [if_pos c1] at h1; exact absurd rfl h1
  · rw [if_neg c1] at h2 ⊢
    by_cases c2 : B (spn B n p) = 59
    · rw [if_pos c2]; omega
    · rw [if_neg c2] at h2 ⊢
      by_cases c3 : dgt (B (spn B n p)) = true
      · rw [if_pos c3]
        have := adv_gt (B := B) (n := n) (C := dgt) (p := spn B n p) (by omega) c3
        omega
      · rw [if_neg c3] at h2 ⊢
        by_cases c4 : ltr (B (spn B n p)) = true
        · rw [if_pos c4]
          have := adv_gt (B := B) (n := n) (C := ltr) (p := spn B n p) (by omega) c4
          omega
        · rw [if_neg c4] at h2; exact absurd rfl h2
theorem tkn_le {p : Nat} : tkn B n p ≤ 28 := by
  unfold tkn
  repeat' split
  all_goals first | omega | skip
  rcases wk_s (B := B) (st := spn B n p) (en := adv B n ltr (n - spn B n p) (spn B n p)) with h | h <;> omega
def L6 (I I' : Nat → Nat → Int32) : Prop := (∀ k, k ≠ 121 → I' k = I k) ∧ ∀ i, i ≠ 6 → I' 121 i = I 121 i
theorem L6.rf : L6 I I := ⟨fun _ _ => rfl, fun _ _ => rfl⟩
theorem L6.tr {I1 I2 : Nat → Nat → Int32} (h : L6 I I1) (g : L6 I1 I2) : L6 I I2 := ⟨fun k hk => (g.1 k hk).trans (h.1 k hk), fun i hi => (g.2 i hi).trans (h.2 i hi)⟩
theorem L6.up {v : Int32} : L6 I (up2 I 121 6 v) := ⟨fun k hk => up2_row _ _ hk, fun i hi => up2_i _ _ _ hi⟩
def cBy (B : Nat → Nat) (n : Nat) (I : Nat → Nat → Int32) : Prop := ∀ i, i < n → I 122 i = cb (B i) ∧ B i < 256
theorem cBy_k {I' : Nat → Nat → Int32} (h : cBy B n I) (e : I' 122 = I 122) : cBy B n I' := fun i hi => by rw [e]; exact h i hi
theorem c_scan0 (hn : n ≤ 200) : ∀ d g p (I : Nat → Nat → Int32), n - p = d → p ≤ n → d < g → I 121 6 = nI p → cBy B n I → ∃ I', L6 I I' ∧ I' 121 6 = nI (adv B n blk d p) ∧ ∀ K, L_X5_scan_0 E K (rr w 121) (nI n) g (Hw E w I L Q) = K (Hw E w I' L Q) := by
  intro d
  induction d with
  | zero =>
    intro g p I hd hp hg e6 hb
    obtain ⟨g, rfl⟩ : ∃ m, g = m + 1 := ⟨g - 1, by omega⟩
    refine ⟨I, L6.rf, by rw [adv]; exact e6, fun K => ?_⟩
    rw [L_X5_scan_0]
    simp (disch := omega) only [Option.bind_some, Option.map_some, Option.join, cI_r, cL_r, cV_r, xI_r, xL_r, xV_r, xI_t, xL_t, xV_t, lt_r, rtZ_0, rtZ_1, rtZ_zb, gf121_6, e6, nI_leI, if_pos]
  | succ d ih =>
    intro g p I hd hp hg e6 hb
    obtain ⟨g, rfl⟩ : ∃ m, g = m + 1 := ⟨g - 1, by omega⟩
    have hb' := hb p (by omega)
    have F := cbF (B p) hb'.2
    by_cases c : blk (B p) = true
    · rw [adv_t (by omega) c]
      obtain ⟨I', a1, a2, a3⟩ := ih g (p + 1) (up2 I 121 6 (nI (p + 1))) (by omega) (by omega) (by omega) (up2_s _ _ _ _) (cBy_k hb (up2_row _ _ (by decide)))
      refine ⟨I', L6.up.tr a1, a2, fun K => ?_⟩
      rw [← a3 K, L_X5_scan_0]
      unfold J_X5_scan_36
      rcases blk_t.mp c with e | e
      · simp (disch := omega) only [Option.bind_some, Option.map_some, Option.join, cI_r, cL_r, cV_r, xI_r, xL_r, xV_r, xI_t, xL_t, xV_t, lt_r, rtZ_0, rtZ_1, rtZ_zb, gf121_6, e6, nI_leI, if_neg, gf121_0, ga122, ix_n, hb'.1, if_pos (F.1.mpr e), pf121_6, nI_1]
      · have n32 : ¬ cb (B p) = 32 := fun z => by have := F.1.mp z; omega
        simp (disch := omega) only [Option.bind_some, Option.map_some, Option.join, cI_r, cL_r, cV_r, xI_r, xL_r, xV_r, xI_t, xL_t, xV_t, lt_r, rtZ_0, rtZ_1, rtZ_zb, gf121_6, e6, nI_leI, if_neg, gf121_0, ga122, ix_n, hb'.1, if_neg n32, if_neg (not_not_intro (F.2.1.mpr e)), pf121_6, nI_1]
    · rw [adv_f c]
      refine ⟨I, L6.rf, e6, fun K => ?_⟩
      have n32 : ¬ cb (B p) = 32 := fun z => c (blk_t.mpr (Or.inl (F.1.mp z)))
      have n10 : ¬ cb (B p) = 10 := fun z => c (blk_t.mpr (Or.inr (F.2.1.mp z)))
      rw [L_X5_scan_0]
      simp (disch := omega) only [Option.bind_some, Option.map_some, Option.join, cI_r, cL_r, cV_r, xI_r, xL_r, xV_r, xI_t, xL_t, xV_t, lt_r, rtZ_0, rtZ_1, rtZ_zb, gf121_6, e6, nI_leI, if_neg, gf121_0, ga122, ix_n, hb'.1, if_neg n32, if_pos n10]
theorem c_scanW0 (hn : n ≤ 200) : ∀ d g p (I : Nat → Nat → Int32), n - p = d → p ≤ n → d < g → I 121 6 = nI p → cBy B n I → ∃ I', L6 I I' ∧ I' 121 6 = nI (adv B n ltr d p) ∧ ∀ K, L_X5_scanWord_0 E K (rr w 121) (nI n) g (Hw E w I L Q) = K (Hw E w I' L Q) := by
  intro d
  induction d with
  | zero =>
    intro g p I hd hp hg e6 hb
    obtain ⟨g, rfl⟩ : ∃ m, g = m + 1 := ⟨g - 1, by omega⟩
    refine ⟨I, L6.rf, by rw [adv]; exact e6, fun K => ?_⟩
    rw [L_X5_scanWord_0]
    simp (disch := omega) only [Option.bind_some, Option.map_some, Option.join, cI_r, cL_r, cV_r, xI_r, xL_r, xV_r, xI_t, xL_t, xV_t, lt_r, rtZ_0, rtZ_1, rtZ_zb, gf121_6, e6, nI_leI, if_pos]
  | succ d ih =>
    intro g p I hd hp hg e6 hb
    obtain ⟨g, rfl⟩ : ∃ m, g = m + 1 := ⟨g - 1, by omega⟩
    have hb' := hb p (by omega)
    have F := cbF (B p) hb'.2
    by_cases c : ltr (B p) = true
    · rw [adv_t (by omega) c]
      obtain ⟨I', a1, a2, a3⟩ := ih g (p + 1) (up2 I 121 6 (nI (p + 1))) (by omega) (by omega) (by omega) (up2_s _ _ _ _) (cBy_k hb (up2_row _ _ (by decide)))
      refine ⟨I', L6.up.tr a1, a2, fun K => ?_⟩
      have c' := ltr_t.mp c
      have x1 : ¬ cb (B p) < 97 := fun z => by have := F.2.2.2.2.2.1.mp z; omega
      have x2 : ¬ 122 < cb (B p) := fun z => by have := F.2.2.2.2.2.2.mp z; omega
      rw [← a3 K, L_X5_scanWord_0]
      simp (disch := omega) only [Option.bind_some, Option.map_some, Option.join, cI_r, cL_r, cV_r, xI_r, xL_r, xV_r, xI_t, xL_t, xV_t, lt_r, rtZ_0, rtZ_1, rtZ_zb, gf121_6, e6, nI_leI, if_neg, gf121_0, ga122, ix_n, hb'.1, if_neg x1, if_neg x2, pf121_6, nI_1]
    · rw [adv_f c]
      refine ⟨I, L6.rf, e6, fun K => ?_⟩
      rw [L_X5_scanWord_0]
      by_cases x1 : cb (B p) < 97
      · simp (disch := omega) only [Option.bind_some, Option.map_some, Option.join, cI_r, cL_r, cV_r, xI_r, xL_r, xV_r, xI_t, xL_t, xV_t, lt_r, rtZ_0, rtZ_1, rtZ_zb, gf121_6, e6, nI_leI, if_neg, gf121_0, ga122, ix_n, hb'.1, if_pos x1]
      · have x2 : 122 < cb (B p) := F.2.2.2.2.2.2.mpr (by
          have z1 : ¬ (B p < 97 ∨ 128 ≤ B p) := fun z => x1 (F.2.2.2.2.2.1.mpr z)
          have z2 : ¬ (97 ≤ B p ∧ B p ≤ 122) := fun z => c (ltr_t.mpr z)
          omega)
        simp (disch := omega) only [Option.bind_some, Option.map_some, Option.join, cI_r, cL_r, cV_r, xI_r, xL_r, xV_r, xI_t, xL_t, xV_t, lt_r, rtZ_0, rtZ_1, rtZ_zb, gf121_6, e6, nI_leI, if_neg, gf121_0, ga122, ix_n, hb'.1, if_neg x1, if_pos x2]
def L69 (I I' : Nat → Nat → Int32) : Prop := (∀ k, k ≠ 121 → I' k = I k) ∧ ∀ i, i ≠ 6 → i ≠ 9 → I' 121 i = I 121 i
theorem nv_s {st p : Nat} (h1 : st ≤ p) (h2 : 48 ≤ B p) : nv B st (p + 1) = if 2 ≤ p - st then nv B st p else 10 * nv B st p + B p - 48 := by
  unfold nv
  by_cases e : p = st
  · subst e
    rw [if_neg (by omega), if_pos rfl, if_neg (by omega), if_pos (Nat.le_refl _)]
    omega
  · by_cases e2 : p = st + 1
    · subst e2
      rw [if_neg (by omega), if_neg (by omega), if_neg (by omega), if_neg (by omega), if_pos rfl]
      omega
    · rw [if_neg (by omega), if_neg (by omega), if_pos (by omega), if_neg (by omega), if_neg e2]
theorem c_scanN5 (hn : n ≤ 200) : ∀ d g p st (I : Nat → Nat → Int32), n - p = d → p ≤ n → st ≤ p → d < g → I 121 6 = nI p → I 121 7 = nI st → I 121 9 = nI (nv B st p) → cBy B n I → ∃ I', L69 I I' ∧ I' 121 6 = nI (adv B n dgt d p) ∧ I' 121 9 = nI (nv B st (adv B n dgt d p)) ∧ ∀ K, L_X5_scanNumber_5 E K (rr w 121) (nI n) g (Hw E w I L Q) = K (Hw E w I' L Q) := by
  intro d
  induction d with
  | zero =>
    intro g p st I hd hp hs hg e6 e7 e9 hb
    obtain ⟨g, rfl⟩ : ∃ m, g = m + 1 := ⟨g - 1, by omega⟩
    refine ⟨I, ⟨fun _ _ => rfl, fun _ _ _ => rfl⟩, by rw [adv]; exact e6, by rw [adv]; exact e9, fun K => ?_⟩
    rw [L_X5_scanNumber_5]
    simp (disch := omega) only [Option.bind_some, Option.map_some, Option.join, cI_r, cL_r, cV_r, xI_r, xL_r, xV_r, xI_t, xL_t, xV_t, lt_r, rtZ_0, rtZ_1, rtZ_zb, gf121_6, e6, nI_leI, if_pos]
  | succ d ih =>
    intro g p st I hd hp hs hg e6 e7 e9 hb
    obtain ⟨g, rfl⟩ : ∃ m, g = m + 1 := ⟨g - 1, by omega⟩
    have hb' := hb p (by omega)
    have F := cbF (B p) hb'.2
    by_cases c : dgt (B p) = true
    · rw [adv_t (by omega) c]
      have c' := dgt_t.mp c
      have x1 : ¬ cb (B p) < 48 := fun z => by have := F.2.2.2.1.mp z; omega
      have x2 : ¬ 57 < cb (B p) := fun z => by have := F.2.2.2.2.1.mp z; omega
      generalize eA : up2 (up2 I 121 9 (nI (nv B st (p + 1)))) 121 6 (nI (p + 1)) = A
      have a6 : A 121 6 = nI (p + 1) := by rw [← eA, up2_s]
      have a9 : A 121 9 = nI (nv B st (p + 1)) := by rw [← eA, up2_i _ _ _ (by decide), up2_s]
      have ai : ∀ i, i ≠ 6 → i ≠ 9 → A 121 i = I 121 i := fun i h1 h2 => by rw [← eA, up2_i _ _ _ h1, up2_i _ _ _ h2]
      have ak : ∀ k, k ≠ 121 → A k = I k := fun k hk => by rw [← eA, up2_row _ _ hk, up2_row _ _ hk]
      obtain ⟨I', b1, b2, b3, b4⟩ := ih g (p + 1) st A (by omega) (by omega) (by omega) (by omega) a6 (by rw [ai 7 (by decide) (by decide)]; exact e7) a9 (cBy_k hb (ak 122 (by decide)))
      refine ⟨I', ⟨fun k hk => (b1.1 k hk).trans (ak k hk), fun i h1 h2 => (b1.2 i h1 h2).trans (ai i h1 h2)⟩, b2, b3, fun K => ?_⟩
      rw [← b4 K, L_X5_scanNumber_5]
      unfold J_X5_scanNumber_82
      have nvs := nv_s (B := B) hs c'.1
      have sb : nI p - nI st = nI (p - st) := nI_sub' hs
      by_cases c2 : 2 ≤ p - st
      · rw [if_pos c2] at nvs
        have e9' : ∀ v, up2 I 121 9 v 121 6 = nI p := fun v => by rw [up2_i _ _ _ (by decide)]; exact e6
        have t2 : nI 2 ≤ nI (p - st) := nI_le c2 (by omega)
        simp (disch := omega) only [Option.bind_some, Option.map_some, Option.join, cI_r, cL_r, cV_r, xI_r, xL_r, xV_r, xI_t, xL_t, xV_t, lt_r, rtZ_0, rtZ_1, rtZ_zb, gf121_6, e6, nI_leI, if_neg, gf121_0, ga122, ix_n, hb'.1, if_neg x1, if_neg x2, gf121_7, e7, sb, m2, if_pos, gf121_9, e9, pf121_9, e9', pf121_6, nI_1, ← nvs, eA]
      · rw [if_neg c2] at nvs
        have e9' : ∀ v, up2 I 121 9 v 121 6 = nI p := fun v => by rw [up2_i _ _ _ (by decide)]; exact e6
        have ar : (10 : Int32) * nI (nv B st p) + cb (B p) - (48 : Int32) = nI (nv B st (p + 1)) := by
          rw [cbN (B p) (by omega), m10, pk_mul, nI_add, show (48 : Int32) = nI 48 from rfl, nI_sub' (by omega), nvs]
        simp (disch := omega) only [Option.bind_some, Option.map_some, Option.join, cI_r, cL_r, cV_r, xI_r, xL_r, xV_r, xI_t, xL_t, xV_t, lt_r, rtZ_0, rtZ_1, rtZ_zb, gf121_6, e6, nI_leI, if_neg, gf121_0, ga122, ix_n, hb'.1, if_neg x1, if_neg x2, gf121_7, e7, sb, m2, gf121_9, e9, ar, pf121_9, e9', pf121_6, nI_1, eA]
    · rw [adv_f c]
      refine ⟨I, ⟨fun _ _ => rfl, fun _ _ _ => rfl⟩, e6, e9, fun K => ?_⟩
      rw [L_X5_scanNumber_5]
      by_cases x1 : cb (B p) < 48
      · simp (disch := omega) only [Option.bind_some, Option.map_some, Option.join, cI_r, cL_r, cV_r, xI_r, xL_r, xV_r, xI_t, xL_t, xV_t, lt_r, rtZ_0, rtZ_1, rtZ_zb, gf121_6, e6, nI_leI, if_neg, gf121_0, ga122, ix_n, hb'.1, if_pos x1]
      · have x2 : 57 < cb (B p) := F.2.2.2.2.1.mpr (by
          have z1 : ¬ (B p < 48 ∨ 128 ≤ B p) := fun z => x1 (F.2.2.2.1.mpr z)
          have z2 : ¬ (48 ≤ B p ∧ B p ≤ 57) := fun z => c (dgt_t.mpr z)
          omega)
        simp (disch := omega) only [Option.bind_some, Option.map_some, Option.join, cI_r, cL_r, cV_r, xI_r, xL_r, xV_r, xI_t, xL_t, xV_t, lt_r, rtZ_0, rtZ_1, rtZ_zb, gf121_6, e6, nI_leI, if_neg, gf121_0, ga122, ix_n, hb'.1, if_neg x1, if_pos x2]
theorem c_isWordX {st en k : Nat} (hG : 100000 ≤ E.2.2.1) (hn : n ≤ 200) (e7 : I 121 7 = nI st) (e6 : I 121 6 = nI en) (hst : st ≤ n) (hen : en ≤ n) (hb : cBy B n I) (hk : k < 24) (h6 : en - st ≤ 6) : F_X5_isWord E (rr w 121) (nI k) (Hw E w I L Q) = rtI (zb (Mt B st en k)) (Hw E w I L Q) := by
  unfold F_X5_isWord
  refine lpE (σ := Unit) (Lp := fun g i _ => L_X5_isWord_2 E (rr w 121) (nI k) g (nI i) (Hw E w I L Q)) (Iv := fun i _ => ∀ j, j < i → (if st + j < en then cb (B (st + j)) else 32) = voc (6 * k + j)) (Post := fun o => o = rtI (zb (Mt B st en k)) (Hw E w I L Q)) (N := 6) ?_ ?_ E.2.2.1 0 () (by omega) (by omega) (fun j hj => absurd hj (by omega))
  · rintro g i _ hi hn'
    have vc : sCh 0 (nI (6 * k + i)) = some (voc (6 * k + i)) := vocC (by omega)
    have stp : L_X5_isWord_2 E (rr w 121) (nI k) (g + 1) (nI i) (Hw E w I L Q) = if voc (6 * k + i) = (if st + i < en then cb (B (st + i)) else 32) then L_X5_isWord_2 E (rr w 121) (nI k) g (nI (i + 1)) (Hw E w I L Q) else rtI 0 (Hw E w I L Q) := by
      rw [L_X5_isWord_2]
      unfold J_X5_isWord_37
      by_cases c : st + i < en
      · have hb' := (hb (st + i) (by omega)).1
        rw [if_pos c]
        simp (disch := omega) only [Option.bind_some, Option.map_some, Option.join, cI_r, cL_r, cV_r, xI_r, xL_r, xV_r, xI_t, xL_t, xV_t, lt_r, rtZ_0, rtZ_1, rtZ_zb, m6, nI_leI, if_neg, gf121_7, e7, gf121_6, e6, nI_add, gf121_0, ga122, ix_n, hb', pk_mul, show k * 6 + i = 6 * k + i by omega, vc, nI_1]
      · rw [if_neg c]
        have le : nI en ≤ nI (st + i) := nI_le (by omega) (by omega)
        simp (disch := omega) only [Option.bind_some, Option.map_some, Option.join, cI_r, cL_r, cV_r, xI_r, xL_r, xV_r, xI_t, xL_t, xV_t, lt_r, rtZ_0, rtZ_1, rtZ_zb, m6, nI_leI, if_neg, gf121_7, e7, gf121_6, e6, nI_add, if_pos le, pk_mul, show k * 6 + i = 6 * k + i by omega, vc, nI_1, if_pos]
    by_cases c : voc (6 * k + i) = (if st + i < en then cb (B (st + i)) else 32)
    · left
      refine ⟨(), fun j hj => ?_, ?_⟩
      · by_cases e : j = i
        · rw [e]; exact c.symm
        · exact hn' j (by omega)
      · show L_X5_isWord_2 E (rr w 121) (nI k) (g + 1) (nI i) (Hw E w I L Q) = _
        rw [stp, if_pos c]
    · right
      show L_X5_isWord_2 E (rr w 121) (nI k) (g + 1) (nI i) (Hw E w I L Q) = _
      rw [stp, if_neg c, zb_f (fun z => c (z.2 i hi).symm)]
  · rintro g _ hn'
    show L_X5_isWord_2 E (rr w 121) (nI k) (g + 1) (nI 6) (Hw E w I L Q) = _
    rw [L_X5_isWord_2, m6, if_pos (nI_le (Nat.le_refl 6) (by decide)), zb_t ⟨h6, hn'⟩]
    rfl
def L8 (I I' : Nat → Nat → Int32) : Prop := (∀ k, k ≠ 121 → I' k = I k) ∧ ∀ i, i ≠ 8 → I' 121 i = I 121 i
theorem c_scanW57 {st en : Nat} (hG : 100000 ≤ E.2.2.1) (hn : n ≤ 200) (e7 : I 121 7 = nI st) (e6 : I 121 6 = nI en) (hse : st ≤ en) (hen : en ≤ n) (hb : cBy B n I) (e8 : I 121 8 = 27) : ∃ I', L8 I I' ∧ I' 121 8 = nI (wk B st en) ∧ L_X5_scanWord_57 E (rr w 121) E.2.2.1 0 (Hw E w I L Q) = rtV (Hw E w I' L Q) := by
  have sb : nI en - nI st = nI (en - st) := nI_sub' hse
  by_cases c6 : en - st ≤ 6
  · refine lpK2 (σ := Nat → Nat → Int32) (Lp := fun g i s => L_X5_scanWord_57 E (rr w 121) g (nI i) (Hw E w s L Q)) (K := fun s => rtV (Hw E w s L Q)) (Iv := fun i s => L8 I s ∧ ∃ κ, s 121 8 = nI κ ∧ ((κ = 27 ∧ ∀ k, k < i → ¬ Mt B st en k) ∨ (κ < i ∧ Mt B st en κ))) (N := 24) (g := E.2.2.1) (i := 0) (s := I) ?_ ?_ ?_ (by omega) (by omega) ⟨⟨fun _ _ => rfl, fun _ _ => rfl⟩, 27, e8, Or.inl ⟨rfl, fun k hk => absurd hk (by omega)⟩⟩
    · rintro I' ⟨z1, κ, z2, z3⟩ ee
      refine ⟨I', z1, ?_, ee⟩
      rw [z2, wkP_uq (B := B) (st := st) (en := en) z3 wk_s]
    · rintro g i I1 hi ⟨z1, κ, z2, z3⟩
      have f7 : I1 121 7 = nI st := by rw [z1.2 7 (by decide)]; exact e7
      have f6 : I1 121 6 = nI en := by rw [z1.2 6 (by decide)]; exact e6
      have iw := c_isWordX (E := E) (w := w) (I := I1) (L := L) (Q := Q) (B := B) (n := n) (k := i) hG hn f7 f6 (by omega) hen (cBy_k hb (z1.1 122 (by decide))) hi c6
      have n6 : ¬ nI 6 < nI (en - st) := nI_nlt c6 (by decide)
      by_cases p : Mt B st en i
      · refine ⟨up2 I1 121 8 (nI i), ⟨⟨fun k hk => by rw [up2_row _ _ hk]; exact z1.1 k hk, fun j hj => by rw [up2_i _ _ _ hj]; exact z1.2 j hj⟩, i, up2_s _ _ _ _, Or.inr ⟨by omega, p⟩⟩, ?_⟩
        show L_X5_scanWord_57 E (rr w 121) (g + 1) (nI i) (Hw E w I1 L Q) = _
        rw [L_X5_scanWord_57]
        simp (disch := omega) only [Option.bind_some, Option.map_some, Option.join, cI_r, cL_r, cV_r, xI_r, xL_r, xV_r, xI_t, xL_t, xV_t, lt_r, rtZ_0, rtZ_1, rtZ_zb, m24, nI_leI, if_neg, gf121_6, f6, gf121_7, f7, sb, m6, if_neg n6, o121, iw, zi_t p, pf121_8, nI_1]
      · refine ⟨I1, ⟨z1, κ, z2, ?_⟩, ?_⟩
        · rcases z3 with ⟨h1, h2⟩ | ⟨h1, h2⟩
          · left
            refine ⟨h1, fun k hk => ?_⟩
            by_cases e : k = i
            · rw [e]; exact p
            · exact h2 k (by omega)
          · exact Or.inr ⟨by omega, h2⟩
        · show L_X5_scanWord_57 E (rr w 121) (g + 1) (nI i) (Hw E w I1 L Q) = _
          rw [L_X5_scanWord_57]
          simp (disch := omega) only [Option.bind_some, Option.map_some, Option.join, cI_r, cL_r, cV_r, xI_r, xL_r, xV_r, xI_t, xL_t, xV_t, lt_r, rtZ_0, rtZ_1, rtZ_zb, m24, nI_leI, if_neg, gf121_6, f6, gf121_7, f7, sb, m6, if_neg n6, o121, iw, zi_f p, nI_1]
    · rintro g I1 _
      show L_X5_scanWord_57 E (rr w 121) (g + 1) (nI 24) (Hw E w I1 L Q) = _
      rw [L_X5_scanWord_57, m24, if_pos (nI_le (Nat.le_refl 24) (by decide))]
  · obtain ⟨G, hGG⟩ : ∃ G, E.2.2.1 = G + 1 := ⟨E.2.2.1 - 1, by omega⟩
    have w27 : wk B st en = 27 := wkP_uq wk_s (Or.inl ⟨rfl, fun k _ z => c6 z.1⟩)
    refine ⟨I, ⟨fun _ _ => rfl, fun _ _ => rfl⟩, by rw [w27]; exact e8, ?_⟩
    have p6 : nI 6 < nI (en - st) := by rw [nI_ltI (by decide) (by omega)]; omega
    rw [hGG, L_X5_scanWord_57, if_neg (by decide)]
    simp only [Option.bind_some, Option.map_some, Option.join, cI_r, cL_r, cV_r, xI_r, xL_r, xV_r, xI_t, xL_t, xV_t, lt_r, rtZ_0, rtZ_1, rtZ_zb, gf121_6, e6, gf121_7, e7, sb, m6, if_pos p6]
/-- what the class reads next -/
def ckd (κ : Nat) : Int32 := if κ = 28 then -1 else nI κ
def Lx (I I' : Nat → Nat → Int32) : Prop := (∀ k, k ≠ 121 → I' k = I k) ∧ ∀ i, ¬ (6 ≤ i ∧ i ≤ 9) → I' 121 i = I 121 i
theorem c_scan {p : Nat} (hG : 100000 ≤ E.2.2.1) (hn : n ≤ 200) (hp : p ≤ n) (e6 : I 121 6 = nI p) (hb : cBy B n I) : ∃ I', Lx I I' ∧ I' 121 7 = nI (spn B n p) ∧ I' 121 8 = ckd (tkn B n p) ∧ I' 121 6 = nI (nxp B n p) ∧ (tkn B n p = 24 → I' 121 9 = nI (tvl B n p)) ∧ F_X5_scan E (rr w 121) (nI n) (Hw E w I L Q) = rtV (Hw E w I' L Q) := by
  unfold F_X5_scan
  obtain ⟨I1, a1, a2, a3⟩ := c_scan0 (E := E) (w := w) (L := L) (Q := Q) (B := B) hn (n - p) E.2.2.1 p I rfl hp (by omega) e6 hb
  rw [a3]
  have ge := spn_ge (B := B) (n := n) (p := p)
  have le := spn_le (B := B) hp
  have a2' : I1 121 6 = nI (spn B n p) := a2
  unfold tvl
  generalize hs : spn B n p = s at *
  have hb1 : cBy B n I1 := cBy_k hb (a1.1 122 (by decide))
  generalize eA : up2 I1 121 7 (nI s) = A
  have A7 : A 121 7 = nI s := by rw [← eA, up2_s]
  have A6 : A 121 6 = nI s := by rw [← eA, up2_i _ _ _ (by decide)]; exact a2'
  have Ai : ∀ i, i ≠ 6 → i ≠ 7 → A 121 i = I 121 i := fun i h1 h2 => by rw [← eA, up2_i _ _ _ h2]; exact a1.2 i h1
  have Ak : ∀ k, k ≠ 121 → A k = I k := fun k hk => by rw [← eA, up2_row _ _ hk]; exact a1.1 k hk
  have hA : cBy B n A := cBy_k hb (Ak 122 (by decide))
  unfold J_X5_scan_49
  simp only [Option.bind_some, Option.map_some, Option.join, cI_r, cL_r, cV_r, xI_r, xL_r, xV_r, xI_t, xL_t, xV_t, lt_r, rtZ_0, rtZ_1, rtZ_zb, gf121_6, a2', pf121_7, eA, A6]
  by_cases c1 : s < n
  · rw [if_pos ((nI_ltI (by omega) (by omega)).mpr c1)]
    have hb' := hA s c1
    have F := cbF (B s) hb'.2
    simp (disch := omega) only [Option.bind_some, Option.map_some, Option.join, cI_r, cL_r, cV_r, xI_r, xL_r, xV_r, xI_t, xL_t, xV_t, lt_r, rtZ_0, rtZ_1, rtZ_zb, gf121_0, ga122, ix_n, hb'.1, gf121_6, A6]
    by_cases c2 : B s = 59
    · rw [if_neg (not_not_intro (F.2.2.1.mpr c2))]
      have tk : tkn B n p = 25 := by unfold tkn; rw [hs, if_neg (by omega), if_pos c2]
      have nx : nxp B n p = s + 1 := by unfold nxp; rw [hs, if_neg (by omega), if_pos c2]
      rw [tk, nx]
      simp only [Option.bind_some, Option.map_some, Option.join, cI_r, cL_r, cV_r, xI_r, xL_r, xV_r, xI_t, xL_t, xV_t, lt_r, rtZ_0, rtZ_1, rtZ_zb, pf121_6, pf121_8, nI_1]
      refine ⟨_, ⟨fun k hk => by rw [up2_row _ _ hk, up2_row _ _ hk]; exact Ak k hk, fun i hi => by rw [up2_i _ _ _ (by omega), up2_i _ _ _ (by omega)]; exact Ai i (by omega) (by omega)⟩, by rw [up2_i _ _ _ (by decide), up2_i _ _ _ (by decide)]; exact A7, up2_s _ _ _ _, by rw [up2_i _ _ _ (by decide), up2_s], fun z => absurd z (by decide), rfl⟩
    · rw [if_pos (fun z => c2 (F.2.2.1.mp z))]
      have J143 : ¬ dgt (B s) = true → ∃ I', Lx I I' ∧ I' 121 7 = nI s ∧ I' 121 8 = ckd (tkn B n p) ∧ I' 121 6 = nI (nxp B n p) ∧ (tkn B n p = 24 → I' 121 9 = nI (nv B s (nxp B n p))) ∧ J_X5_scan_143 E (rr w 121) (nI n) (Hw E w A L Q) = rtV (Hw E w I' L Q) := by
        intro c3
        unfold J_X5_scan_143
        simp (disch := omega) only [Option.bind_some, Option.map_some, Option.join, cI_r, cL_r, cV_r, xI_r, xL_r, xV_r, xI_t, xL_t, xV_t, lt_r, rtZ_0, rtZ_1, rtZ_zb, gf121_0, ga122, ix_n, hb'.1, gf121_6, A6]
        by_cases c4 : ltr (B s) = true
        · have c4' := ltr_t.mp c4
          rw [if_neg (fun z => by have := F.2.2.2.2.2.1.mp z; omega), if_neg (fun z => by have := F.2.2.2.2.2.2.mp z; omega)]
          have tk : tkn B n p = wk B s (adv B n ltr (n - s) s) := by unfold tkn; rw [hs, if_neg (by omega), if_neg c2, if_neg c3, if_pos c4]
          have nx : nxp B n p = adv B n ltr (n - s) s := by unfold nxp; rw [hs, if_neg (by omega), if_neg c2, if_neg c3, if_pos c4]
          obtain ⟨I2, b1, b2, b3⟩ := c_scanW0 (E := E) (w := w) (L := L) (Q := Q) (B := B) hn (n - s) E.2.2.1 s A rfl le (by omega) A6 hA
          have ge2 := adv_ge (B := B) (n := n) (C := ltr) (n - s) s
          have le2 := adv_le (B := B) (n := n) (C := ltr) (n - s) s le
          rw [tk, nx]
          generalize adv B n ltr (n - s) s = e at *
          generalize eD : up2 I2 121 8 27 = D
          have D8 : D 121 8 = 27 := by rw [← eD, up2_s]
          have Di : ∀ i, i ≠ 8 → D 121 i = I2 121 i := fun i h1 => by rw [← eD, up2_i _ _ _ h1]
          have Dk : ∀ k, k ≠ 121 → D k = I2 k := fun k hk => by rw [← eD, up2_row _ _ hk]
          obtain ⟨I3, d1, d2, d3⟩ := c_scanW57 (E := E) (w := w) (I := D) (L := L) (Q := Q) (B := B) (n := n) (st := s) (en := e) hG hn (by rw [Di 7 (by decide), b1.2 7 (by decide)]; exact A7) (by rw [Di 6 (by decide)]; exact b2) ge2 le2 (cBy_k hA (by rw [Dk 122 (by decide), b1.1 122 (by decide)])) D8
          have w28 : wk B s e ≠ 28 ∧ wk B s e ≠ 24 := by rcases wk_s (B := B) (st := s) (en := e) with h | h <;> omega
          refine ⟨I3, ⟨fun k hk => by rw [d1.1 k hk, Dk k hk, b1.1 k hk, Ak k hk], fun i hi => by rw [d1.2 i (by omega), Di i (by omega), b1.2 i (by omega)]; exact Ai i (by omega) (by omega)⟩, by rw [d1.2 7 (by decide), Di 7 (by decide), b1.2 7 (by decide)]; exact A7, by unfold ckd; rw [if_neg w28.1]; exact d2, by rw [d1.2 6 (by decide), Di 6 (by decide)]; exact b2, fun z => absurd z w28.2, ?_⟩
          unfold F_X5_scanWord
          simp only [Option.bind_some, Option.map_some, Option.join, cI_r, cL_r, cV_r, xI_r, xL_r, xV_r, xI_t, xL_t, xV_t, lt_r, rtZ_0, rtZ_1, rtZ_zb, o121, b3, pf121_8, eD, d3]
        · have tk : tkn B n p = 28 := by unfold tkn; rw [hs, if_neg (by omega), if_neg c2, if_neg c3, if_neg c4]
          have nx : nxp B n p = s := by unfold nxp; rw [hs, if_neg (by omega), if_neg c2, if_neg c3, if_neg c4]
          rw [tk, nx]
          have fin : ∃ I', Lx I I' ∧ I' 121 7 = nI s ∧ I' 121 8 = ckd 28 ∧ I' 121 6 = nI s ∧ (28 = 24 → I' 121 9 = nI (nv B s s)) ∧ rtV (Hw E w (up2 A 121 8 (-1)) L Q) = rtV (Hw E w I' L Q) := ⟨_, ⟨fun k hk => by rw [up2_row _ _ hk]; exact Ak k hk, fun i hi => by rw [up2_i _ _ _ (by omega)]; exact Ai i (by omega) (by omega)⟩, by rw [up2_i _ _ _ (by decide)]; exact A7, up2_s _ _ _ _, by rw [up2_i _ _ _ (by decide)]; exact A6, fun z => absurd z (by decide), rfl⟩
          by_cases x1 : cb (B s) < 97
          · rw [if_pos x1]
            simp only [Option.bind_some, Option.map_some, Option.join, cI_r, cL_r, cV_r, xI_r, xL_r, xV_r, xI_t, xL_t, xV_t, lt_r, rtZ_0, rtZ_1, rtZ_zb, pf121_8]
            exact fin
          · rw [if_neg x1, if_pos (F.2.2.2.2.2.2.mpr (by
              have z1 : ¬ (B s < 97 ∨ 128 ≤ B s) := fun z => x1 (F.2.2.2.2.2.1.mpr z)
              have z2 : ¬ (97 ≤ B s ∧ B s ≤ 122) := fun z => c4 (ltr_t.mpr z)
              omega))]
            simp only [Option.bind_some, Option.map_some, Option.join, cI_r, cL_r, cV_r, xI_r, xL_r, xV_r, xI_t, xL_t, xV_t, lt_r, rtZ_0, rtZ_1, rtZ_zb, pf121_8]
            exact fin
      by_cases c3 : dgt (B s) = true
      · have c3' := dgt_t.mp c3
        rw [if_neg (fun z => by have := F.2.2.2.1.mp z; omega), if_neg (fun z => by have := F.2.2.2.2.1.mp z; omega)]
        have nx : nxp B n p = adv B n dgt (n - s) s := by unfold nxp; rw [hs, if_neg (by omega), if_neg c2, if_pos c3]
        have tk : tkn B n p = if 2 < adv B n dgt (n - s) s - s then 28 else 24 := by unfold tkn; rw [hs, if_neg (by omega), if_neg c2, if_pos c3]
        generalize eD : up2 A 121 9 0 = D
        have D9 : D 121 9 = 0 := by rw [← eD, up2_s]
        have Di : ∀ i, i ≠ 9 → D 121 i = A 121 i := fun i h1 => by rw [← eD, up2_i _ _ _ h1]
        have Dk : ∀ k, k ≠ 121 → D k = A k := fun k hk => by rw [← eD, up2_row _ _ hk]
        obtain ⟨I2, b1, b2, b3, b4⟩ := c_scanN5 (E := E) (w := w) (L := L) (Q := Q) (B := B) hn (n - s) E.2.2.1 s s D rfl le (Nat.le_refl _) (by omega) (by rw [Di 6 (by decide)]; exact A6) (by rw [Di 7 (by decide)]; exact A7) (by rw [D9]; unfold nv; rw [if_pos (Nat.le_refl _)]; rfl) (cBy_k hA (Dk 122 (by decide)))
        have ge2 := adv_ge (B := B) (n := n) (C := dgt) (n - s) s
        have le2 := adv_le (B := B) (n := n) (C := dgt) (n - s) s le
        rw [tk, nx]
        generalize adv B n dgt (n - s) s = e at *
        have f7 : I2 121 7 = nI s := by rw [b1.2 7 (by decide) (by decide), Di 7 (by decide)]; exact A7
        have sb : nI e - nI s = nI (e - s) := nI_sub' ge2
        have fr : ∀ v, Lx I (up2 I2 121 8 v) ∧ up2 I2 121 8 v 121 7 = nI s ∧ up2 I2 121 8 v 121 6 = nI e ∧ up2 I2 121 8 v 121 9 = nI (nv B s e) := fun v => ⟨⟨fun k hk => by rw [up2_row _ _ hk, b1.1 k hk, Dk k hk, Ak k hk], fun i hi => by rw [up2_i _ _ _ (by omega), b1.2 i (by omega) (by omega), Di i (by omega)]; exact Ai i (by omega) (by omega)⟩, by rw [up2_i _ _ _ (by decide)]; exact f7, by rw [up2_i _ _ _ (by decide)]; exact b2, by rw [up2_i _ _ _ (by decide)]; exact b3⟩
        unfold F_X5_scanNumber J_X5_scanNumber_98
        simp only [Option.bind_some, Option.map_some, Option.join, cI_r, cL_r, cV_r, xI_r, xL_r, xV_r, xI_t, xL_t, xV_t, lt_r, rtZ_0, rtZ_1, rtZ_zb, o121, pf121_9, eD, b4, gf121_6, b2, gf121_7, f7, sb, m2]
        by_cases c5 : 2 < e - s
        · rw [if_pos c5, if_pos ((nI_ltI (by decide) (by omega)).mpr c5)]
          simp only [Option.bind_some, Option.map_some, Option.join, cI_r, cL_r, cV_r, xI_r, xL_r, xV_r, xI_t, xL_t, xV_t, lt_r, rtZ_0, rtZ_1, rtZ_zb, pf121_8]
          exact ⟨_, (fr _).1, (fr _).2.1, up2_s _ _ _ _, (fr _).2.2.1, fun z => absurd z (by decide), rfl⟩
        · rw [if_neg c5, if_neg (fun z => c5 ((nI_ltI (by decide) (by omega)).mp z))]
          simp only [Option.bind_some, Option.map_some, Option.join, cI_r, cL_r, cV_r, xI_r, xL_r, xV_r, xI_t, xL_t, xV_t, lt_r, rtZ_0, rtZ_1, rtZ_zb, pf121_8]
          exact ⟨_, (fr _).1, (fr _).2.1, up2_s _ _ _ _, (fr _).2.2.1, fun _ => (fr _).2.2.2, rfl⟩
      · obtain ⟨I', r1, r2, r3, r4, r5, r6⟩ := J143 c3
        refine ⟨I', r1, r2, r3, r4, r5, ?_⟩
        by_cases x1 : cb (B s) < 48
        · rw [if_pos x1]; exact r6
        · rw [if_neg x1, if_pos (F.2.2.2.2.1.mpr (by
            have z1 : ¬ (B s < 48 ∨ 128 ≤ B s) := fun z => x1 (F.2.2.2.1.mpr z)
            have z2 : ¬ (48 ≤ B s ∧ B s ≤ 57) := fun z => c3 (dgt_t.mpr z)
            omega))]
          exact r6
  · rw [if_neg (fun z => c1 ((nI_ltI (by omega) (by omega)).mp z))]
    have tk : tkn B n p = 26 := by unfold tkn; rw [hs, if_pos (by omega)]
    have nx : nxp B n p = s := by unfold nxp; rw [hs, if_pos (by omega)]
    rw [tk, nx]
    simp only [Option.bind_some, Option.map_some, Option.join, cI_r, cL_r, cV_r, xI_r, xL_r, xV_r, xI_t, xL_t, xV_t, lt_r, rtZ_0, rtZ_1, rtZ_zb, pf121_8]
    exact ⟨_, ⟨fun k hk => by rw [up2_row _ _ hk]; exact Ak k hk, fun i hi => by rw [up2_i _ _ _ (by omega)]; exact Ai i (by omega) (by omega)⟩, by rw [up2_i _ _ _ (by decide)]; exact A7, up2_s _ _ _ _, by rw [up2_i _ _ _ (by decide)]; exact A6, fun z => absurd z (by decide), rfl⟩
end
