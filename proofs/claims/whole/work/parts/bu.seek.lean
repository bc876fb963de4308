/-! shortest: what is looked for -/
def lw (T : Ro) (c : Nat → Nat) (y k N : Nat) (X : Nat → Prop) : Nat → Prop := wd T c y k (tn (lwK N)) (tn (lwN N)) (lwA N) X
def stpS (T : Ro) (c : Nat → Nat) (y N : Nat) (S : Nat → Nat → Prop) : Nat → Nat → Prop := fun k => lw T c y k N (S k)
/-- all of some walkers find where to go -/
def trs (T : Ro) (c : Nat → Nat) (y : Nat) (W : Int32) (N : Nat) (S : Nat → Nat → Prop) : Prop := ∀ k, k < c 4 → b32 W k → ∃ q, lw T c y k N (S k) q
def okS (T : Ro) (c : Nat → Nat) (y : Nat) (W : Int32) (g : Nat) : Nat → (Nat → Nat → Prop) → Prop
  | 0, S => ∀ k, k < c 4 → b32 W k → ∀ s, S k s → spl T s = nI g
  | d + 1, S => ∃ N, N < 31 ∧ trs T c y W N S ∧ okS T c y W g d (stpS T c y N S)
/-- the first such row of words -/
def isF (T : Ro) (c : Nat → Nat) (y : Nat) (W : Int32) (g : Nat) : Nat → (Nat → Nat → Prop) → (Nat → Nat) → Prop
  | 0, _, _ => True
  | d + 1, S, f => (f 0 < 31 ∧ trs T c y W (f 0) S ∧ okS T c y W g d (stpS T c y (f 0) S)) ∧ (∀ N, N < f 0 → ¬ (trs T c y W N S ∧ okS T c y W g d (stpS T c y N S))) ∧ isF T c y W g d (stpS T c y (f 0) S) (fun i => f (i + 1))
theorem isF_uq {T : Ro} {c : Nat → Nat} {y : Nat} {W : Int32} {g : Nat} : ∀ d S f f', isF T c y W g d S f → isF T c y W g d S f' → ∀ i, i < d → f i = f' i := by
  intro d
  induction d with
  | zero => intro S f f' _ _ i hi; omega
  | succ d ih =>
    intro S f f' h h' i hi
    have e : f 0 = f' 0 := by
      rcases Nat.lt_trichotomy (f 0) (f' 0) with g | g | g
      · exact absurd h.1.2 (h'.2.1 _ g)
      · exact g
      · exact absurd h'.1.2 (h.2.1 _ g)
    cases i with
    | zero => exact e
    | succ i =>
      have h2 := h.2.2
      have h2' := h'.2.2
      rw [← e] at h2'
      exact ih _ _ _ h2 h2' i (by omega)
theorem and1_0 (y : Int32) : (y &&& 1) = 0 ↔ ¬ (y &&& 1) = 1 := by
  obtain ⟨n, hn, rfl⟩ := wb_of32 y
  rw [show nI n &&& 1 = nI (n % 2 ^ 1) from pk_andN hn 1 (by decide)]
  have e : n % 2 ^ 1 = 0 ∨ n % 2 ^ 1 = 1 := by omega
  rcases e with e | e <;> rw [e] <;> decide
section
variable {E : Ev} {w : Wo} {I I1 I2 : Nat → Nat → Int32} {L L1 L2 : Nat → Nat → Int64} {Q : Nat → Nat → Option Nat} {c : Nat → Nat} {T : Ro} {y : Nat} {W : Int32}
theorem lw_lt {k N : Nat} {X : Nat → Prop} (hX : ∀ q, X q → q < 4 * c 1) : ∀ q, lw T c y k N X q → q < 4 * c 1 := wd_lt hX
theorem la158 : LA w 158 128 := ⟨lv_of (by decide), rfl, by decide⟩
theorem m_tries0 {N st : Nat} {h : Hp} (hN : N ≤ 30) : F_X12_tries E (rr w 163) (nI N) (nI st) h = L_X12_tries_118 E (rr w 163) (nI st) (lwK N) (lwN N) (lwA N) E.2.2.1 0 h := by
  have i1 : (1 : Int32) = nI 1 := rfl
  have rm2 : ∀ N, 27 ≤ N → N ≤ 30 → rmI (nI N - (27 : Int32)) (2 : Int32) = some (nI ((N - 27) % 2)) := by
    intro N g1 g2
    have : N = 27 ∨ N = 28 ∨ N = 29 ∨ N = 30 := by omega
    rcases this with rfl | rfl | rfl | rfl <;> decide
  have rm12 : ∀ N, 3 ≤ N → N < 27 → rmI (nI N - (3 : Int32)) (12 : Int32) = some (nI ((N - 3) % 12)) := by
    have : ∀ N, N < 27 → 3 ≤ N → rmI (nI N - (3 : Int32)) (12 : Int32) = some (nI ((N - 3) % 12)) := by decide
    exact fun N g1 g2 => this N g2 g1
  unfold F_X12_tries J_X12_tries_40 J_X12_tries_82 J_X12_tries_90
  simp only [m2, m3, m15, m27, m29]
  by_cases c0 : N = 0
  · subst c0
    simp only [show nI 0 = 0 from rfl, not_true_eq_false, if_false]
    rw [if_pos (by decide)]
    rfl
  · have n0 : ¬ nI N = 0 := fun e => c0 ((nI_eq (by omega) (show 0 < 2 ^ 31 by decide)).mp e)
    rw [if_pos n0, if_pos n0, if_pos n0, if_pos n0, if_pos n0]
    by_cases c1 : 3 ≤ N
    · rw [if_pos (nI_le c1 (by omega)), if_pos (nI_le c1 (by omega)), if_pos (nI_le c1 (by omega)), if_pos (nI_le c1 (by omega))]
      have n2 : ¬ nI N ≤ nI 2 := nI_ge (show 2 < N by omega) (by omega)
      by_cases c2 : 15 ≤ N
      · rw [if_pos (nI_le c2 (by omega))]
        by_cases c3 : 27 ≤ N
        · rw [if_pos (nI_le c3 (by omega)), if_pos (nI_le c3 (by omega))]
          rw [show rmI (nI N - nI 27) (nI 2) = some (nI ((N - 27) % 2)) from rm2 N c3 hN]
          simp only [Option.bind_some]
          have key : lwK N = 9 ∧ lwA N = -1 := by
            unfold lwK lwA
            rw [if_neg c0, if_neg (by omega), if_neg (by omega), if_neg (by omega), if_neg (by omega), if_neg (by omega), if_neg (by omega)]
            exact ⟨rfl, rfl⟩
          rw [key.1, key.2]
          by_cases c4 : 29 ≤ N
          · rw [if_pos (nI_le c4 (by omega)), if_neg n2, if_pos (nI_le c3 (by omega))]
            have e : lwN N = nI 2 * nI 2 + nI ((N - 27) % 2) := by
              unfold lwN
              rw [if_neg c0, if_neg (by omega), if_neg (by omega), if_neg (by omega), pk_mul, nI_add]
            rw [e]
          · rw [if_neg (nI_ge (show N < 29 by omega) (by decide)), if_neg n2, if_pos (nI_le c3 (by omega))]
            have e : lwN N = nI 2 * 1 + nI ((N - 27) % 2) := by
              unfold lwN
              rw [if_neg c0, if_neg (by omega), if_neg (by omega), if_pos (by omega), i1, pk_mul, nI_add]
            rw [e]
        · rw [if_neg (nI_ge (show N < 27 by omega) (by decide)), if_neg (nI_ge (show N < 27 by omega) (by decide)), if_neg n2, if_neg (nI_ge (show N < 27 by omega) (by decide))]
          rw [show nI N - nI 3 = nI N - (3 : Int32) from rfl, show (12 : Int32) = 12 from rfl, rm12 N c1 (by omega), Option.bind_some]
          have key : lwK N = 2 ∧ lwN N = 0 ∧ lwA N = nI ((N - 3) % 12) := by
            unfold lwK lwN lwA
            rw [if_neg c0, if_neg (by omega), if_neg (by omega), if_pos (by omega), if_neg c0, if_neg (by omega), if_pos (by omega), if_neg (by omega), if_neg (by omega), if_pos (by omega), show (N - 3) % 12 = N - 15 by omega]
            exact ⟨rfl, rfl, rfl⟩
          rw [key.1, key.2.1, key.2.2]
          rfl
      · rw [if_neg (nI_ge (show N < 15 by omega) (by decide)), if_neg (nI_ge (show N < 27 by omega) (by decide)), if_neg n2, if_neg (nI_ge (show N < 27 by omega) (by decide))]
        rw [show nI N - nI 3 = nI N - (3 : Int32) from rfl, rm12 N c1 (by omega), Option.bind_some]
        have key : lwK N = 1 ∧ lwN N = 0 ∧ lwA N = nI ((N - 3) % 12) := by
          unfold lwK lwN lwA
          rw [if_neg c0, if_neg (by omega), if_pos (by omega), if_neg c0, if_neg (by omega), if_pos (by omega), if_neg (by omega), if_pos (by omega), show (N - 3) % 12 = N - 3 by omega]
          exact ⟨rfl, rfl, rfl⟩
        rw [key.1, key.2.1, key.2.2]
    · have c1' : ¬ nI 3 ≤ nI N := nI_ge (show N < 3 by omega) (by decide)
      rw [if_neg c1', if_neg c1', if_pos (nI_le (show N ≤ 2 by omega) (by decide))]
      have key : lwK N = 8 ∧ lwN N = nI N - 1 ∧ lwA N = -1 := by
        unfold lwK lwN lwA
        rw [if_neg c0, if_pos (by omega), if_neg c0, if_pos (by omega), if_pos (by omega), i1, nI_sub (show 1 ≤ N by omega) (by omega)]
        exact ⟨rfl, rfl, rfl⟩
      rw [key.1, key.2.1, key.2.2]
end
