/-! where a word leads from some states: each state by itself -/
def sg (s : Nat) : Nat → Prop := fun q => q = s
section
variable {T : Ro} {c : Nat → Nat} {y k : Nat} {X : Nat → Prop}
theorem ONs_add {F : (Nat → Prop) → Nat → Prop} (h : ∀ q, F X q ↔ ∃ s, X s ∧ F (sg s) q) (q : Nat) : ONs T c y (F X) q ↔ ∃ s, X s ∧ ONs T c y (F (sg s)) q := by
  unfold ONs
  constructor
  · rintro ⟨h1, s', h2, h3, h4⟩
    obtain ⟨s, g1, g2⟩ := (h s').mp h3
    exact ⟨s, g1, h1, s', h2, g2, h4⟩
  · rintro ⟨s, g1, h1, s', h2, g2, h4⟩
    exact ⟨h1, s', h2, (h s').mpr ⟨s, g1, g2⟩, h4⟩
theorem onN_add (n q : Nat) : onN T c y X n q ↔ ∃ s, X s ∧ onN T c y (sg s) n q := by
  induction n generalizing q with
  | zero => exact ⟨fun h => ⟨q, h, rfl⟩, fun ⟨s, h1, h2⟩ => by rw [show q = s from h2]; exact h1⟩
  | succ n ih => exact ONs_add (F := fun X => onN T c y X n) ih q
theorem fU_add {St : Nat → Prop} (n q : Nat) : fU T c y St X n q ↔ ∃ s, X s ∧ fU T c y St (sg s) n q := by
  induction n generalizing q with
  | zero => exact ⟨fun h => ⟨q, h, rfl⟩, fun ⟨s, h1, h2⟩ => by rw [show q = s from h2]; exact h1⟩
  | succ n ih =>
    show (ONs T c y (fU T c y St X n) q ∧ ¬ St q) ↔ ∃ s, X s ∧ (ONs T c y (fU T c y St (sg s) n) q ∧ ¬ St q)
    rw [ONs_add (F := fun X => fU T c y St X n) ih q]
    exact ⟨fun ⟨⟨s, h1, h2⟩, h3⟩ => ⟨s, h1, h2, h3⟩, fun ⟨s, h1, h2, h3⟩ => ⟨⟨s, h1, h2⟩, h3⟩⟩
theorem stU_add {St : Nat → Prop} (n q : Nat) : stU T c y St X n q ↔ ∃ s, X s ∧ stU T c y St (sg s) n q := by
  unfold stU
  rw [ONs_add (F := fun X => fU T c y St X n) (fU_add n) q]
  exact ⟨fun ⟨⟨s, h1, h2⟩, h3⟩ => ⟨s, h1, h2, h3⟩, fun ⟨s, h1, h2, h3⟩ => ⟨⟨s, h1, h2⟩, h3⟩⟩
theorem wUn_add {St : Nat → Prop} {pa : Prop} (n q : Nat) : wUn T c y St pa X n q ↔ ∃ s, X s ∧ wUn T c y St pa (sg s) n q := by
  unfold wUn
  rw [stU_add, ONs_add (F := fun X => stU T c y St X n) (stU_add n) q]
  constructor
  · rintro (⟨h1, s, h2, h3⟩ | ⟨h1, s, h2, h3⟩)
    · exact ⟨s, h2, Or.inl ⟨h1, h3⟩⟩
    · exact ⟨s, h2, Or.inr ⟨h1, h3⟩⟩
  · rintro ⟨s, h2, ⟨h1, h3⟩ | ⟨h1, h3⟩⟩
    · exact Or.inl ⟨h1, s, h2, h3⟩
    · exact Or.inr ⟨h1, s, h2, h3⟩
theorem nxZ_add {lens : Int64} {F : (Nat → Prop) → Nat → Nat → Prop} (h : ∀ q l, F X q l ↔ ∃ s, X s ∧ F (sg s) q l) (q l : Nat) : nxZ T c y lens (F X) q l ↔ ∃ s, X s ∧ nxZ T c y lens (F (sg s)) q l := by
  unfold nxZ
  constructor
  · rintro ⟨h1, h2, s0, l0, h3, h4⟩
    obtain ⟨s, g1, g2⟩ := (h s0 l0).mp h3
    exact ⟨s, g1, h1, h2, s0, l0, g2, h4⟩
  · rintro ⟨s, g1, h1, h2, s0, l0, g2, h4⟩
    exact ⟨h1, h2, s0, l0, (h s0 l0).mpr ⟨s, g1, g2⟩, h4⟩
theorem Z0_add (q l : Nat) : Z0 X q l ↔ ∃ s, X s ∧ Z0 (sg s) q l := by
  unfold Z0
  exact ⟨fun ⟨h1, h2⟩ => ⟨q, h1, rfl, h2⟩, fun ⟨s, h1, h2, h3⟩ => ⟨by rw [show q = s from h2]; exact h1, h3⟩⟩
theorem ZI_add {lens : Int64} (n q l : Nat) : ZI T c y lens (Z0 X) n q l ↔ ∃ s, X s ∧ ZI T c y lens (Z0 (sg s)) n q l := by
  induction n generalizing q l with
  | zero => exact Z0_add q l
  | succ n ih => exact nxZ_add (F := fun X => ZI T c y lens (Z0 X) n) ih q l
theorem ZT_add {cn : Nat → Prop} {N : Nat} (n q l : Nat) : ZT T c y cn N (Z0 X) n q l ↔ ∃ s, X s ∧ ZT T c y cn N (Z0 (sg s)) n q l := by
  induction n generalizing q l with
  | zero => exact Z0_add q l
  | succ n ih =>
    have ii := nxZ_add (T := T) (c := c) (y := y) (lens := 0) (F := fun X => ZT T c y cn N (Z0 X) n) ih
    show nthZ cn N (nxZ T c y 0 (ZT T c y cn N (Z0 X) n)) q l ↔ ∃ s, X s ∧ nthZ cn N (nxZ T c y 0 (ZT T c y cn N (Z0 (sg s)) n)) q l
    unfold nthZ
    rw [ii q l, ii q (l - 1)]
    constructor
    · rintro (⟨h1, s, h2, h3⟩ | ⟨h1, h1', h1'', s, h2, h3⟩)
      · exact ⟨s, h2, Or.inl ⟨h1, h3⟩⟩
      · exact ⟨s, h2, Or.inr ⟨h1, h1', h1'', h3⟩⟩
    · rintro ⟨s, h2, ⟨h1, h3⟩ | ⟨h1, h1', h1'', h3⟩⟩
      · exact Or.inl ⟨h1, s, h2, h3⟩
      · exact Or.inr ⟨h1, h1', h1'', s, h2, h3⟩
theorem wd_add {kd n : Nat} {a : Int32} (q : Nat) : wd T c y k kd n a X q ↔ ∃ s, X s ∧ wd T c y k kd n a (sg s) q := by
  unfold wd
  split
  · unfold wOn
    rw [onN_add]
    exact ⟨fun ⟨h1, s, h2, h3⟩ => ⟨s, h2, h1, h3⟩, fun ⟨s, h2, h1, h3⟩ => ⟨h1, s, h2, h3⟩⟩
  · constructor
    · rintro ⟨i, h1, h2⟩
      obtain ⟨s, h3, h4⟩ := (wUn_add i q).mp h2
      exact ⟨s, h3, i, h1, h4⟩
    · rintro ⟨s, h3, i, h1, h4⟩
      exact ⟨i, h1, (wUn_add i q).mpr ⟨s, h3, h4⟩⟩
  · constructor
    · rintro ⟨i, h1, h2⟩
      obtain ⟨s, h3, h4⟩ := (wUn_add i q).mp h2
      exact ⟨s, h3, i, h1, h4⟩
    · rintro ⟨s, h3, i, h1, h4⟩
      exact ⟨i, h1, (wUn_add i q).mpr ⟨s, h3, h4⟩⟩
  · unfold wFar
    constructor
    · rintro ⟨i, h1, l, h2, h5⟩
      obtain ⟨s, h3, h4⟩ := (ZI_add _ q l).mp h2
      exact ⟨s, h3, i, h1, l, h4, h5⟩
    · rintro ⟨s, h3, i, h1, l, h4, h5⟩
      exact ⟨i, h1, l, (ZI_add _ q l).mpr ⟨s, h3, h4⟩, h5⟩
  · exact ⟨fun ⟨h1, h2⟩ => ⟨q, h1, rfl, h2⟩, fun ⟨s, h1, h2, h3⟩ => ⟨by rw [show q = s from h2]; exact h1, h3⟩⟩
  · exact ⟨fun ⟨h1, h2⟩ => ⟨q, h1, rfl, h2⟩, fun ⟨s, h1, h2, h3⟩ => ⟨by rw [show q = s from h2]; exact h1, h3⟩⟩
  · exact ⟨fun h1 => ⟨q, h1, rfl⟩, fun ⟨s, h1, h2⟩ => by rw [show q = s from h2]; exact h1⟩
  · unfold wBack
    exact ⟨fun ⟨s, h1, h2⟩ => ⟨s, h1, s, rfl, h2⟩, fun ⟨s, h1, s', h2, h3⟩ => ⟨s, h1, by rw [← show s' = s from h2]; exact h3⟩⟩
  · unfold wSide
    exact ⟨fun ⟨h0, s, h1, h2, h3⟩ => ⟨s, h2, h0, s, h1, rfl, h3⟩, fun ⟨s, h1, h0, s', h2, h3, h4⟩ => ⟨h0, s', h2, by rw [show s' = s from h3]; exact h1, h4⟩⟩
  · unfold wNth adN
    constructor
    · rintro ⟨i, h1, h2, s', h3, h4, h5⟩
      obtain ⟨s, g1, g2⟩ := (nxZ_add (F := fun X => ZT T c y _ _ (Z0 X) i) (ZT_add i) s' _).mp h4
      exact ⟨s, g1, i, h1, h2, s', h3, g2, h5⟩
    · rintro ⟨s, g1, i, h1, h2, s', h3, g2, h5⟩
      exact ⟨i, h1, h2, s', h3, (nxZ_add (F := fun X => ZT T c y _ _ (Z0 X) i) (ZT_add i) s' _).mpr ⟨s, g1, g2⟩, h5⟩
end
