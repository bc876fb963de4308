/-! take: one home of rows takes what another holds -/
theorem cp2_row {I : Nat → Nat → Int32} {k k2 z x y k' : Nat} (h : k' ≠ k2) : cp2 I k k2 z x y k' = I k' := by funext i; unfold cp2; rw [if_neg h]
theorem cp2_in {I : Nat → Nat → Int32} {k k2 y i : Nat} (h : i < y) : cp2 I k k2 0 0 y k2 i = I k i := by
  unfold cp2 va_cpy
  rw [if_pos rfl, if_pos ⟨by omega, by omega⟩]
  congr 1; omega
section
variable {E : Ev} {w : Wo} {I : Nat → Nat → Int32} {L : Nat → Nat → Int64} {Q : Nat → Nat → Option Nat}
theorem acp_0 {k k2 n : Nat} {yi : Int32} (hk : lvk w k ∧ sh k = .inl (0, n)) (hk2 : lvk w k2 ∧ sh k2 = .inl (0, n)) (ey : yi = nI n) (hn : n < 2 ^ 31) : acp E 0 (Hw E w I L Q) (rr w k) 0 (rr w k2) 0 yi = some (Hw E w (cp2 I k k2 0 0 n) L Q) := acp_w hk.1 hk2.1 hk.2 hk2.2 (by decide) (by decide) ⟨by decide, by decide⟩ ⟨by decide, by decide⟩ ⟨by rw [ey]; exact nI_pos hn, by rw [ey]; exact nI_clamp hn⟩ (by omega) (by omega) (Or.inl rfl)
theorem acp_2 {k k2 n : Nat} {yi : Int32} (hk : lvk w k ∧ sh k = .inl (2, n)) (hk2 : lvk w k2 ∧ sh k2 = .inl (2, n)) (ey : yi = nI n) (hn : n < 2 ^ 31) (hb : ∀ i, i < n → I k i = 0 ∨ I k i = 1) : acp E 2 (Hw E w I L Q) (rr w k) 0 (rr w k2) 0 yi = some (Hw E w (cp2 I k k2 0 0 n) L Q) := acp_w hk.1 hk2.1 hk.2 hk2.2 (by decide) (by decide) ⟨by decide, by decide⟩ ⟨by decide, by decide⟩ ⟨by rw [ey]; exact nI_pos hn, by rw [ey]; exact nI_clamp hn⟩ (by omega) (by omega) (Or.inr ⟨rfl, fun i hi => by rw [Nat.zero_add]; exact hb i hi⟩)
def LdO (w : Wo) (b : Nat) : Prop := (lvk w b ∧ sh b = .inr (3, [0, b + 1 + 3, b + 2 + 3, 0, b + 3 + 3, b + 4 + 3, b + 5 + 3, b + 6 + 3, b + 7 + 3, b + 8 + 3, b + 9 + 3, 0, b + 10 + 3, b + 11 + 3, b + 12 + 3, b + 13 + 3, b + 14 + 3])) ∧ (lvk w (b + 1) ∧ sh (b + 1) = .inl (0, 40)) ∧ (lvk w (b + 2) ∧ sh (b + 2) = .inl (0, 40)) ∧ (lvk w (b + 3) ∧ sh (b + 3) = .inl (0, 60)) ∧ (lvk w (b + 4) ∧ sh (b + 4) = .inl (0, 60)) ∧ (lvk w (b + 5) ∧ sh (b + 5) = .inl (0, 60)) ∧ (lvk w (b + 6) ∧ sh (b + 6) = .inl (0, 60)) ∧ (lvk w (b + 7) ∧ sh (b + 7) = .inl (0, 240)) ∧ (lvk w (b + 8) ∧ sh (b + 8) = .inl (0, 120)) ∧ (lvk w (b + 9) ∧ sh (b + 9) = .inl (0, 120)) ∧ (lvk w (b + 10) ∧ sh (b + 10) = .inl (0, 40)) ∧ (lvk w (b + 11) ∧ sh (b + 11) = .inl (0, 40)) ∧ (lvk w (b + 12) ∧ sh (b + 12) = .inl (2, 40)) ∧ (lvk w (b + 13) ∧ sh (b + 13) = .inl (0, 40)) ∧ (lvk w (b + 14) ∧ sh (b + 14) = .inl (0, 40))
/-- the booleans are copied by a loop -/
theorem lpz_Ld {d s : Nat} (hG : 100000 ≤ E.2.2.1) (hd : LdO w d) (hs : LdO w s) (ap : d + 15 ≤ s ∨ s + 15 ≤ d) (hb12 : ∀ i, i < 40 → I (s + 12) i = 0 ∨ I (s + 12) i = 1) : ∃ J, (∀ k, ¬ (k = d + 12) → J k = I k) ∧ (∀ x, x < 40 → J (d + 12) x = I (s + 12) x) ∧ L_X3_take_222 E (rr w d) (rr w s) E.2.2.1 0 (Hw E w I L Q) = rtV (Hw E w J L Q) := by
  obtain ⟨hd0, hd1, hd2, hd3, hd4, hd5, hd6, hd7, hd8, hd9, hd10, hd11, hd12, hd13, hd14⟩ := hd
  obtain ⟨hs0, hs1, hs2, hs3, hs4, hs5, hs6, hs7, hs8, hs9, hs10, hs11, hs12, hs13, hs14⟩ := hs
  refine lpK2 (ρ := Rs) (σ := Nat → Nat → Int32) (Lp := fun g i S => L_X3_take_222 E (rr w d) (rr w s) g (nI i) (Hw E w S L Q)) (Iv := fun i S => (∀ k, ¬ (k = d + 12) → S k = I k) ∧ (∀ x, x < i → S (d + 12) x = I (s + 12) x)) (K := fun S => rtV (Hw E w S L Q)) (N := 40) (g := E.2.2.1) (i := 0) (s := I) (fun S q e => ⟨S, q.1, q.2, e⟩) ?_ ?_ (by omega) (by omega) ⟨fun _ _ => rfl, fun x hx => absurd hx (Nat.not_lt_zero x)⟩
  · rintro g i S hi ⟨p0, p12⟩
    have g12 : S (s + 12) i = I (s + 12) i := by rw [p0 (s + 12) (by omega)]
    refine ⟨(up2 S (d + 12) i (I (s + 12) i)), ⟨fun k hk => by rw [up2_row (k := d + 12) (k' := k) _ _ (by omega)]; exact p0 k hk, fun x hx => ?_⟩, ?_⟩
    · by_cases e : x = i
      · subst e; rw [up2_s]
      · rw [up2_i _ _ _ e]; exact p12 x (by omega)
    · show L_X3_take_222 E (rr w d) (rr w s) (g + 1) (nI i) (Hw E w S L Q) = L_X3_take_222 E (rr w d) (rr w s) g (nI (i + 1)) (Hw E w (up2 S (d + 12) i (I (s + 12) i)) L Q)
      rw [L_X3_take_222, if_neg (show ¬ (40 : Int32) ≤ nI i from nI_ge hi (by decide))]
      rw [gfC_w (j := d + 12) hd0.1 hd0.2 (f := 14) rfl, Option.bind_some, gfC_w (j := s + 12) hs0.1 hs0.2 (f := 14) rfl, Option.bind_some, gaI_w hs12.1 hs12.2 (by decide) (by decide), ix_n hi (by decide), Option.map_some, Option.bind_some, paZ_w hd12.1 hd12.2, ix_n hi (by decide), Option.map_some, Option.bind_some, g12, vn01 (hb12 i hi)]
      rw [nI_1]
  · rintro g S -
    show L_X3_take_222 E (rr w d) (rr w s) (g + 1) (nI 40) (Hw E w S L Q) = rtV (Hw E w S L Q)
    rw [L_X3_take_222, if_pos (show (40 : Int32) ≤ nI 40 from nI_le (Nat.le_refl 40) (by decide))]
theorem take_Ld {d s : Nat} (hG : 100000 ≤ E.2.2.1) (hd : LdO w d) (hs : LdO w s) (ap : d + 15 ≤ s ∨ s + 15 ≤ d) (hb12 : ∀ i, i < 40 → I (s + 12) i = 0 ∨ I (s + 12) i = 1) : ∃ J, (∀ k, ¬ (d ≤ k ∧ k < d + 15) → J k = I k) ∧ (J d 0 = I s 0 ∧ J d 3 = I s 3 ∧ J d 11 = I s 11 ∧ (∀ x, x < 40 → J (d + 1) x = I (s + 1) x) ∧ (∀ x, x < 40 → J (d + 2) x = I (s + 2) x) ∧ (∀ x, x < 60 → J (d + 3) x = I (s + 3) x) ∧ (∀ x, x < 60 → J (d + 4) x = I (s + 4) x) ∧ (∀ x, x < 60 → J (d + 5) x = I (s + 5) x) ∧ (∀ x, x < 60 → J (d + 6) x = I (s + 6) x) ∧ (∀ x, x < 240 → J (d + 7) x = I (s + 7) x) ∧ (∀ x, x < 120 → J (d + 8) x = I (s + 8) x) ∧ (∀ x, x < 120 → J (d + 9) x = I (s + 9) x) ∧ (∀ x, x < 40 → J (d + 10) x = I (s + 10) x) ∧ (∀ x, x < 40 → J (d + 11) x = I (s + 11) x) ∧ (∀ x, x < 40 → J (d + 12) x = I (s + 12) x) ∧ (∀ x, x < 40 → J (d + 13) x = I (s + 13) x) ∧ (∀ x, x < 40 → J (d + 14) x = I (s + 14) x)) ∧ F_X3_take E (rr w d) (rr w s) (Hw E w I L Q) = rtV (Hw E w J L Q) := by
  have hd' := hd
  have hs' := hs
  obtain ⟨hd0, hd1, hd2, hd3, hd4, hd5, hd6, hd7, hd8, hd9, hd10, hd11, hd12, hd13, hd14⟩ := hd
  obtain ⟨hs0, hs1, hs2, hs3, hs4, hs5, hs6, hs7, hs8, hs9, hs10, hs11, hs12, hs13, hs14⟩ := hs
  obtain ⟨J1, e1⟩ : ∃ J, J = up2 I d 0 (I s 0) := ⟨_, rfl⟩
  have r1 : ∀ k, k ≠ d → J1 k = I k := fun k hk => by rw [e1, up2_row _ _ hk]
  have q1 : ∀ f, f ≠ 0 → J1 d f = I d f := fun f hf => by rw [e1, up2_i _ _ _ hf]
  have v1 : J1 d 0 = I s 0 := by rw [e1, up2_s]
  obtain ⟨J2, e2⟩ : ∃ J, J = cp2 J1 (s + 1) (d + 1) 0 0 40 := ⟨_, rfl⟩
  have r2 : ∀ k, k ≠ d + 1 → J2 k = J1 k := fun k hk => by rw [e2, cp2_row hk]
  have v2 : ∀ x, x < 40 → J2 (d + 1) x = J1 (s + 1) x := fun x hx => by rw [e2, cp2_in hx]
  obtain ⟨J3, e3⟩ : ∃ J, J = cp2 J2 (s + 2) (d + 2) 0 0 40 := ⟨_, rfl⟩
  have r3 : ∀ k, k ≠ d + 2 → J3 k = J2 k := fun k hk => by rw [e3, cp2_row hk]
  have v3 : ∀ x, x < 40 → J3 (d + 2) x = J2 (s + 2) x := fun x hx => by rw [e3, cp2_in hx]
  obtain ⟨J4, e4⟩ : ∃ J, J = up2 J3 d 3 (J3 s 3) := ⟨_, rfl⟩
  have r4 : ∀ k, k ≠ d → J4 k = J3 k := fun k hk => by rw [e4, up2_row _ _ hk]
  have q4 : ∀ f, f ≠ 3 → J4 d f = J3 d f := fun f hf => by rw [e4, up2_i _ _ _ hf]
  have v4 : J4 d 3 = J3 s 3 := by rw [e4, up2_s]
  obtain ⟨J5, e5⟩ : ∃ J, J = cp2 J4 (s + 3) (d + 3) 0 0 60 := ⟨_, rfl⟩
  have r5 : ∀ k, k ≠ d + 3 → J5 k = J4 k := fun k hk => by rw [e5, cp2_row hk]
  have v5 : ∀ x, x < 60 → J5 (d + 3) x = J4 (s + 3) x := fun x hx => by rw [e5, cp2_in hx]
  obtain ⟨J6, e6⟩ : ∃ J, J = cp2 J5 (s + 4) (d + 4) 0 0 60 := ⟨_, rfl⟩
  have r6 : ∀ k, k ≠ d + 4 → J6 k = J5 k := fun k hk => by rw [e6, cp2_row hk]
  have v6 : ∀ x, x < 60 → J6 (d + 4) x = J5 (s + 4) x := fun x hx => by rw [e6, cp2_in hx]
  obtain ⟨J7, e7⟩ : ∃ J, J = cp2 J6 (s + 5) (d + 5) 0 0 60 := ⟨_, rfl⟩
  have r7 : ∀ k, k ≠ d + 5 → J7 k = J6 k := fun k hk => by rw [e7, cp2_row hk]
  have v7 : ∀ x, x < 60 → J7 (d + 5) x = J6 (s + 5) x := fun x hx => by rw [e7, cp2_in hx]
  obtain ⟨J8, e8⟩ : ∃ J, J = cp2 J7 (s + 6) (d + 6) 0 0 60 := ⟨_, rfl⟩
  have r8 : ∀ k, k ≠ d + 6 → J8 k = J7 k := fun k hk => by rw [e8, cp2_row hk]
  have v8 : ∀ x, x < 60 → J8 (d + 6) x = J7 (s + 6) x := fun x hx => by rw [e8, cp2_in hx]
  obtain ⟨J9, e9⟩ : ∃ J, J = cp2 J8 (s + 7) (d + 7) 0 0 240 := ⟨_, rfl⟩
  have r9 : ∀ k, k ≠ d + 7 → J9 k = J8 k := fun k hk => by rw [e9, cp2_row hk]
  have v9 : ∀ x, x < 240 → J9 (d + 7) x = J8 (s + 7) x := fun x hx => by rw [e9, cp2_in hx]
  obtain ⟨J10, e10⟩ : ∃ J, J = cp2 J9 (s + 8) (d + 8) 0 0 120 := ⟨_, rfl⟩
  have r10 : ∀ k, k ≠ d + 8 → J10 k = J9 k := fun k hk => by rw [e10, cp2_row hk]
  have v10 : ∀ x, x < 120 → J10 (d + 8) x = J9 (s + 8) x := fun x hx => by rw [e10, cp2_in hx]
  obtain ⟨J11, e11⟩ : ∃ J, J = cp2 J10 (s + 9) (d + 9) 0 0 120 := ⟨_, rfl⟩
  have r11 : ∀ k, k ≠ d + 9 → J11 k = J10 k := fun k hk => by rw [e11, cp2_row hk]
  have v11 : ∀ x, x < 120 → J11 (d + 9) x = J10 (s + 9) x := fun x hx => by rw [e11, cp2_in hx]
  obtain ⟨J12, e12⟩ : ∃ J, J = up2 J11 d 11 (J11 s 11) := ⟨_, rfl⟩
  have r12 : ∀ k, k ≠ d → J12 k = J11 k := fun k hk => by rw [e12, up2_row _ _ hk]
  have q12 : ∀ f, f ≠ 11 → J12 d f = J11 d f := fun f hf => by rw [e12, up2_i _ _ _ hf]
  have v12 : J12 d 11 = J11 s 11 := by rw [e12, up2_s]
  obtain ⟨J13, e13⟩ : ∃ J, J = cp2 J12 (s + 10) (d + 10) 0 0 40 := ⟨_, rfl⟩
  have r13 : ∀ k, k ≠ d + 10 → J13 k = J12 k := fun k hk => by rw [e13, cp2_row hk]
  have v13 : ∀ x, x < 40 → J13 (d + 10) x = J12 (s + 10) x := fun x hx => by rw [e13, cp2_in hx]
  obtain ⟨J14, e14⟩ : ∃ J, J = cp2 J13 (s + 11) (d + 11) 0 0 40 := ⟨_, rfl⟩
  have r14 : ∀ k, k ≠ d + 11 → J14 k = J13 k := fun k hk => by rw [e14, cp2_row hk]
  have v14 : ∀ x, x < 40 → J14 (d + 11) x = J13 (s + 11) x := fun x hx => by rw [e14, cp2_in hx]
  obtain ⟨J15, e15⟩ : ∃ J, J = cp2 J14 (s + 13) (d + 13) 0 0 40 := ⟨_, rfl⟩
  have r15 : ∀ k, k ≠ d + 13 → J15 k = J14 k := fun k hk => by rw [e15, cp2_row hk]
  have v15 : ∀ x, x < 40 → J15 (d + 13) x = J14 (s + 13) x := fun x hx => by rw [e15, cp2_in hx]
  obtain ⟨J16, e16⟩ : ∃ J, J = cp2 J15 (s + 14) (d + 14) 0 0 40 := ⟨_, rfl⟩
  have r16 : ∀ k, k ≠ d + 14 → J16 k = J15 k := fun k hk => by rw [e16, cp2_row hk]
  have v16 : ∀ x, x < 40 → J16 (d + 14) x = J15 (s + 14) x := fun x hx => by rw [e16, cp2_in hx]
  obtain ⟨J17, r17, v17_12, e17⟩ := lpz_Ld (E := E) (w := w) (I := J16) (L := L) (Q := Q) hG hd' hs' ap (fun i hi => by rw [r16 (s + 12) (by omega), r15 (s + 12) (by omega), r14 (s + 12) (by omega), r13 (s + 12) (by omega), r12 (s + 12) (by omega), r11 (s + 12) (by omega), r10 (s + 12) (by omega), r9 (s + 12) (by omega), r8 (s + 12) (by omega), r7 (s + 12) (by omega), r6 (s + 12) (by omega), r5 (s + 12) (by omega), r4 (s + 12) (by omega), r3 (s + 12) (by omega), r2 (s + 12) (by omega), r1 (s + 12) (by omega)]; exact hb12 i hi)
  refine ⟨J17, fun k hk => ?_, ⟨?_, ?_, ?_, ?_, ?_, ?_, ?_, ?_, ?_, ?_, ?_, ?_, ?_, ?_, ?_, ?_, ?_⟩, ?_⟩
  · rw [r17 k (by omega), r16 k (by omega), r15 k (by omega), r14 k (by omega), r13 k (by omega), r12 k (by omega), r11 k (by omega), r10 k (by omega), r9 k (by omega), r8 k (by omega), r7 k (by omega), r6 k (by omega), r5 k (by omega), r4 k (by omega), r3 k (by omega), r2 k (by omega), r1 k (by omega)]
  · rw [r17 d (by omega), r16 d (by omega), r15 d (by omega), r14 d (by omega), r13 d (by omega), q12 0 (by decide), r11 d (by omega), r10 d (by omega), r9 d (by omega), r8 d (by omega), r7 d (by omega), r6 d (by omega), r5 d (by omega), q4 0 (by decide), r3 d (by omega), r2 d (by omega), v1]
  · rw [r17 d (by omega), r16 d (by omega), r15 d (by omega), r14 d (by omega), r13 d (by omega), q12 3 (by decide), r11 d (by omega), r10 d (by omega), r9 d (by omega), r8 d (by omega), r7 d (by omega), r6 d (by omega), r5 d (by omega), v4, r3 s (by omega), r2 s (by omega), r1 s (by omega)]
  · rw [r17 d (by omega), r16 d (by omega), r15 d (by omega), r14 d (by omega), r13 d (by omega), v12, r11 s (by omega), r10 s (by omega), r9 s (by omega), r8 s (by omega), r7 s (by omega), r6 s (by omega), r5 s (by omega), r4 s (by omega), r3 s (by omega), r2 s (by omega), r1 s (by omega)]
  · intro x hx; rw [r17 (d + 1) (by omega), r16 (d + 1) (by omega), r15 (d + 1) (by omega), r14 (d + 1) (by omega), r13 (d + 1) (by omega), r12 (d + 1) (by omega), r11 (d + 1) (by omega), r10 (d + 1) (by omega), r9 (d + 1) (by omega), r8 (d + 1) (by omega), r7 (d + 1) (by omega), r6 (d + 1) (by omega), r5 (d + 1) (by omega), r4 (d + 1) (by omega), r3 (d + 1) (by omega), v2 x hx, r1 (s + 1) (by omega)]
  · intro x hx; rw [r17 (d + 2) (by omega), r16 (d + 2) (by omega), r15 (d + 2) (by omega), r14 (d + 2) (by omega), r13 (d + 2) (by omega), r12 (d + 2) (by omega), r11 (d + 2) (by omega), r10 (d + 2) (by omega), r9 (d + 2) (by omega), r8 (d + 2) (by omega), r7 (d + 2) (by omega), r6 (d + 2) (by omega), r5 (d + 2) (by omega), r4 (d + 2) (by omega), v3 x hx, r2 (s + 2) (by omega), r1 (s + 2) (by omega)]
  · intro x hx; rw [r17 (d + 3) (by omega), r16 (d + 3) (by omega), r15 (d + 3) (by omega), r14 (d + 3) (by omega), r13 (d + 3) (by omega), r12 (d + 3) (by omega), r11 (d + 3) (by omega), r10 (d + 3) (by omega), r9 (d + 3) (by omega), r8 (d + 3) (by omega), r7 (d + 3) (by omega), r6 (d + 3) (by omega), v5 x hx, r4 (s + 3) (by omega), r3 (s + 3) (by omega), r2 (s + 3) (by omega), r1 (s + 3) (by omega)]
  · intro x hx; rw [r17 (d + 4) (by omega), r16 (d + 4) (by omega), r15 (d + 4) (by omega), r14 (d + 4) (by omega), r13 (d + 4) (by omega), r12 (d + 4) (by omega), r11 (d + 4) (by omega), r10 (d + 4) (by omega), r9 (d + 4) (by omega), r8 (d + 4) (by omega), r7 (d + 4) (by omega), v6 x hx, r5 (s + 4) (by omega), r4 (s + 4) (by omega), r3 (s + 4) (by omega), r2 (s + 4) (by omega), r1 (s + 4) (by omega)]
  · intro x hx; rw [r17 (d + 5) (by omega), r16 (d + 5) (by omega), r15 (d + 5) (by omega), r14 (d + 5) (by omega), r13 (d + 5) (by omega), r12 (d + 5) (by omega), r11 (d + 5) (by omega), r10 (d + 5) (by omega), r9 (d + 5) (by omega), r8 (d + 5) (by omega), v7 x hx, r6 (s + 5) (by omega), r5 (s + 5) (by omega), r4 (s + 5) (by omega), r3 (s + 5) (by omega), r2 (s + 5) (by omega), r1 (s + 5) (by omega)]
  · intro x hx; rw [r17 (d + 6) (by omega), r16 (d + 6) (by omega), r15 (d + 6) (by omega), r14 (d + 6) (by omega), r13 (d + 6) (by omega), r12 (d + 6) (by omega), r11 (d + 6) (by omega), r10 (d + 6) (by omega), r9 (d + 6) (by omega), v8 x hx, r7 (s + 6) (by omega), r6 (s + 6) (by omega), r5 (s + 6) (by omega), r4 (s + 6) (by omega), r3 (s + 6) (by omega), r2 (s + 6) (by omega), r1 (s + 6) (by omega)]
  · intro x hx; rw [r17 (d + 7) (by omega), r16 (d + 7) (by omega), r15 (d + 7) (by omega), r14 (d + 7) (by omega), r13 (d + 7) (by omega), r12 (d + 7) (by omega), r11 (d + 7) (by omega), r10 (d + 7) (by omega), v9 x hx, r8 (s + 7) (by omega), r7 (s + 7) (by omega), r6 (s + 7) (by omega), r5 (s + 7) (by omega), r4 (s + 7) (by omega), r3 (s + 7) (by omega), r2 (s + 7) (by omega), r1 (s + 7) (by omega)]
  · intro x hx; rw [r17 (d + 8) (by omega), r16 (d + 8) (by omega), r15 (d + 8) (by omega), r14 (d + 8) (by omega), r13 (d + 8) (by omega), r12 (d + 8) (by omega), r11 (d + 8) (by omega), v10 x hx, r9 (s + 8) (by omega), r8 (s + 8) (by omega), r7 (s + 8) (by omega), r6 (s + 8) (by omega), r5 (s + 8) (by omega), r4 (s + 8) (by omega), r3 (s + 8) (by omega), r2 (s + 8) (by omega), r1 (s + 8) (by omega)]
  · intro x hx; rw [r17 (d + 9) (by omega), r16 (d + 9) (by omega), r15 (d + 9) (by omega), r14 (d + 9) (by omega), r13 (d + 9) (by omega), r12 (d + 9) (by omega), v11 x hx, r10 (s + 9) (by omega), r9 (s + 9) (by omega), r8 (s + 9) (by omega), r7 (s + 9) (by omega), r6 (s + 9) (by omega), r5 (s + 9) (by omega), r4 (s + 9) (by omega), r3 (s + 9) (by omega), r2 (s + 9) (by omega), r1 (s + 9) (by omega)]
  · intro x hx; rw [r17 (d + 10) (by omega), r16 (d + 10) (by omega), r15 (d + 10) (by omega), r14 (d + 10) (by omega), v13 x hx, r12 (s + 10) (by omega), r11 (s + 10) (by omega), r10 (s + 10) (by omega), r9 (s + 10) (by omega), r8 (s + 10) (by omega), r7 (s + 10) (by omega), r6 (s + 10) (by omega), r5 (s + 10) (by omega), r4 (s + 10) (by omega), r3 (s + 10) (by omega), r2 (s + 10) (by omega), r1 (s + 10) (by omega)]
  · intro x hx; rw [r17 (d + 11) (by omega), r16 (d + 11) (by omega), r15 (d + 11) (by omega), v14 x hx, r13 (s + 11) (by omega), r12 (s + 11) (by omega), r11 (s + 11) (by omega), r10 (s + 11) (by omega), r9 (s + 11) (by omega), r8 (s + 11) (by omega), r7 (s + 11) (by omega), r6 (s + 11) (by omega), r5 (s + 11) (by omega), r4 (s + 11) (by omega), r3 (s + 11) (by omega), r2 (s + 11) (by omega), r1 (s + 11) (by omega)]
  · intro x hx; rw [v17_12 x hx, r16 (s + 12) (by omega), r15 (s + 12) (by omega), r14 (s + 12) (by omega), r13 (s + 12) (by omega), r12 (s + 12) (by omega), r11 (s + 12) (by omega), r10 (s + 12) (by omega), r9 (s + 12) (by omega), r8 (s + 12) (by omega), r7 (s + 12) (by omega), r6 (s + 12) (by omega), r5 (s + 12) (by omega), r4 (s + 12) (by omega), r3 (s + 12) (by omega), r2 (s + 12) (by omega), r1 (s + 12) (by omega)]
  · intro x hx; rw [r17 (d + 13) (by omega), r16 (d + 13) (by omega), v15 x hx, r14 (s + 13) (by omega), r13 (s + 13) (by omega), r12 (s + 13) (by omega), r11 (s + 13) (by omega), r10 (s + 13) (by omega), r9 (s + 13) (by omega), r8 (s + 13) (by omega), r7 (s + 13) (by omega), r6 (s + 13) (by omega), r5 (s + 13) (by omega), r4 (s + 13) (by omega), r3 (s + 13) (by omega), r2 (s + 13) (by omega), r1 (s + 13) (by omega)]
  · intro x hx; rw [r17 (d + 14) (by omega), v16 x hx, r15 (s + 14) (by omega), r14 (s + 14) (by omega), r13 (s + 14) (by omega), r12 (s + 14) (by omega), r11 (s + 14) (by omega), r10 (s + 14) (by omega), r9 (s + 14) (by omega), r8 (s + 14) (by omega), r7 (s + 14) (by omega), r6 (s + 14) (by omega), r5 (s + 14) (by omega), r4 (s + 14) (by omega), r3 (s + 14) (by omega), r2 (s + 14) (by omega), r1 (s + 14) (by omega)]
  · unfold F_X3_take
    rw [gfI_w hs0.1 hs0.2 (f := 0) rfl, Option.bind_some, pfI_w hd0.1 hd0.2 (f := 0) rfl, Option.bind_some, ← e1]
    rw [gfC_w (j := s + 1) hs0.1 hs0.2 (f := 1) rfl, Option.bind_some, gfC_w (j := d + 1) hd0.1 hd0.2 (f := 1) rfl, Option.bind_some, acp_0 (yi := 40) hs1 hd1 rfl (by decide), Option.bind_some, ← e2]
    rw [gfC_w (j := s + 2) hs0.1 hs0.2 (f := 2) rfl, Option.bind_some, gfC_w (j := d + 2) hd0.1 hd0.2 (f := 2) rfl, Option.bind_some, acp_0 (yi := 40) hs2 hd2 rfl (by decide), Option.bind_some, ← e3]
    rw [gfI_w hs0.1 hs0.2 (f := 3) rfl, Option.bind_some, pfI_w hd0.1 hd0.2 (f := 3) rfl, Option.bind_some, ← e4]
    rw [gfC_w (j := s + 3) hs0.1 hs0.2 (f := 4) rfl, Option.bind_some, gfC_w (j := d + 3) hd0.1 hd0.2 (f := 4) rfl, Option.bind_some, acp_0 (yi := 60) hs3 hd3 rfl (by decide), Option.bind_some, ← e5]
    rw [gfC_w (j := s + 4) hs0.1 hs0.2 (f := 5) rfl, Option.bind_some, gfC_w (j := d + 4) hd0.1 hd0.2 (f := 5) rfl, Option.bind_some, acp_0 (yi := 60) hs4 hd4 rfl (by decide), Option.bind_some, ← e6]
    rw [gfC_w (j := s + 5) hs0.1 hs0.2 (f := 6) rfl, Option.bind_some, gfC_w (j := d + 5) hd0.1 hd0.2 (f := 6) rfl, Option.bind_some, acp_0 (yi := 60) hs5 hd5 rfl (by decide), Option.bind_some, ← e7]
    rw [gfC_w (j := s + 6) hs0.1 hs0.2 (f := 7) rfl, Option.bind_some, gfC_w (j := d + 6) hd0.1 hd0.2 (f := 7) rfl, Option.bind_some, acp_0 (yi := 60) hs6 hd6 rfl (by decide), Option.bind_some, ← e8]
    rw [gfC_w (j := s + 7) hs0.1 hs0.2 (f := 8) rfl, Option.bind_some, gfC_w (j := d + 7) hd0.1 hd0.2 (f := 8) rfl, Option.bind_some, acp_0 (yi := 240) hs7 hd7 rfl (by decide), Option.bind_some, ← e9]
    rw [gfC_w (j := s + 8) hs0.1 hs0.2 (f := 9) rfl, Option.bind_some, gfC_w (j := d + 8) hd0.1 hd0.2 (f := 9) rfl, Option.bind_some, acp_0 (yi := 120) hs8 hd8 rfl (by decide), Option.bind_some, ← e10]
    rw [gfC_w (j := s + 9) hs0.1 hs0.2 (f := 10) rfl, Option.bind_some, gfC_w (j := d + 9) hd0.1 hd0.2 (f := 10) rfl, Option.bind_some, acp_0 (yi := 120) hs9 hd9 rfl (by decide), Option.bind_some, ← e11]
    rw [gfI_w hs0.1 hs0.2 (f := 11) rfl, Option.bind_some, pfI_w hd0.1 hd0.2 (f := 11) rfl, Option.bind_some, ← e12]
    rw [gfC_w (j := s + 10) hs0.1 hs0.2 (f := 12) rfl, Option.bind_some, gfC_w (j := d + 10) hd0.1 hd0.2 (f := 12) rfl, Option.bind_some, acp_0 (yi := 40) hs10 hd10 rfl (by decide), Option.bind_some, ← e13]
    rw [gfC_w (j := s + 11) hs0.1 hs0.2 (f := 13) rfl, Option.bind_some, gfC_w (j := d + 11) hd0.1 hd0.2 (f := 13) rfl, Option.bind_some, acp_0 (yi := 40) hs11 hd11 rfl (by decide), Option.bind_some, ← e14]
    rw [gfC_w (j := s + 13) hs0.1 hs0.2 (f := 15) rfl, Option.bind_some, gfC_w (j := d + 13) hd0.1 hd0.2 (f := 15) rfl, Option.bind_some, acp_0 (yi := 40) hs13 hd13 rfl (by decide), Option.bind_some, ← e15]
    rw [gfC_w (j := s + 14) hs0.1 hs0.2 (f := 16) rfl, Option.bind_some, gfC_w (j := d + 14) hd0.1 hd0.2 (f := 16) rfl, Option.bind_some, acp_0 (yi := 40) hs14 hd14 rfl (by decide), Option.bind_some, ← e16]
    exact e17
def FkO (w : Wo) (b : Nat) : Prop := (lvk w b ∧ sh b = .inr (2, [0, b + 1 + 3, 0, b + 2 + 3, b + 3 + 3, b + 4 + 3, b + 5 + 3, b + 6 + 3])) ∧ (lvk w (b + 1) ∧ sh (b + 1) = .inl (0, 72)) ∧ (lvk w (b + 2) ∧ sh (b + 2) = .inl (0, 8)) ∧ (lvk w (b + 3) ∧ sh (b + 3) = .inl (0, 8)) ∧ (lvk w (b + 4) ∧ sh (b + 4) = .inl (2, 8)) ∧ (lvk w (b + 5) ∧ sh (b + 5) = .inl (2, 8)) ∧ (lvk w (b + 6) ∧ sh (b + 6) = .inl (0, 8))
/-- the booleans are copied by a loop -/
theorem lpz_Fk {d s : Nat} (hG : 100000 ≤ E.2.2.1) (hd : FkO w d) (hs : FkO w s) (ap : d + 7 ≤ s ∨ s + 7 ≤ d) (hb4 : ∀ i, i < 8 → I (s + 4) i = 0 ∨ I (s + 4) i = 1) (hb5 : ∀ i, i < 8 → I (s + 5) i = 0 ∨ I (s + 5) i = 1) : ∃ J, (∀ k, ¬ (k = d + 4 ∨ k = d + 5) → J k = I k) ∧ (∀ x, x < 8 → J (d + 4) x = I (s + 4) x) ∧ (∀ x, x < 8 → J (d + 5) x = I (s + 5) x) ∧ L_X2_take_78 E (rr w d) (rr w s) E.2.2.1 0 (Hw E w I L Q) = rtV (Hw E w J L Q) := by
  obtain ⟨hd0, hd1, hd2, hd3, hd4, hd5, hd6⟩ := hd
  obtain ⟨hs0, hs1, hs2, hs3, hs4, hs5, hs6⟩ := hs
  refine lpK2 (ρ := Rs) (σ := Nat → Nat → Int32) (Lp := fun g i S => L_X2_take_78 E (rr w d) (rr w s) g (nI i) (Hw E w S L Q)) (Iv := fun i S => (∀ k, ¬ (k = d + 4 ∨ k = d + 5) → S k = I k) ∧ (∀ x, x < i → S (d + 4) x = I (s + 4) x) ∧ (∀ x, x < i → S (d + 5) x = I (s + 5) x)) (K := fun S => rtV (Hw E w S L Q)) (N := 8) (g := E.2.2.1) (i := 0) (s := I) (fun S q e => ⟨S, q.1, q.2.1, q.2.2, e⟩) ?_ ?_ (by omega) (by omega) ⟨fun _ _ => rfl, fun x hx => absurd hx (Nat.not_lt_zero x), fun x hx => absurd hx (Nat.not_lt_zero x)⟩
  · rintro g i S hi ⟨p0, p4, p5⟩
    have g4 : S (s + 4) i = I (s + 4) i := by rw [p0 (s + 4) (by omega)]
    have g5 : S (s + 5) i = I (s + 5) i := by rw [p0 (s + 5) (by omega)]
    refine ⟨(up2 (up2 S (d + 4) i (I (s + 4) i)) (d + 5) i (I (s + 5) i)), ⟨fun k hk => by rw [up2_row (k := d + 5) (k' := k) _ _ (by omega), up2_row (k := d + 4) (k' := k) _ _ (by omega)]; exact p0 k hk, fun x hx => ?_, fun x hx => ?_⟩, ?_⟩
    · by_cases e : x = i
      · subst e; rw [up2_row (k := d + 5) (k' := d + 4) _ _ (by omega), up2_s]
      · rw [up2_row (k := d + 5) (k' := d + 4) _ _ (by omega), up2_i _ _ _ e]; exact p4 x (by omega)
    · by_cases e : x = i
      · subst e; rw [up2_s]
      · rw [up2_i _ _ _ e, up2_row (k := d + 4) (k' := d + 5) _ _ (by omega)]; exact p5 x (by omega)
    · show L_X2_take_78 E (rr w d) (rr w s) (g + 1) (nI i) (Hw E w S L Q) = L_X2_take_78 E (rr w d) (rr w s) g (nI (i + 1)) (Hw E w (up2 (up2 S (d + 4) i (I (s + 4) i)) (d + 5) i (I (s + 5) i)) L Q)
      rw [L_X2_take_78, if_neg (show ¬ (8 : Int32) ≤ nI i from nI_ge hi (by decide))]
      rw [gfC_w (j := d + 4) hd0.1 hd0.2 (f := 5) rfl, Option.bind_some, gfC_w (j := s + 4) hs0.1 hs0.2 (f := 5) rfl, Option.bind_some, gaI_w hs4.1 hs4.2 (by decide) (by decide), ix_n hi (by decide), Option.map_some, Option.bind_some, paZ_w hd4.1 hd4.2, ix_n hi (by decide), Option.map_some, Option.bind_some, g4, vn01 (hb4 i hi)]
      rw [gfC_w (j := d + 5) hd0.1 hd0.2 (f := 6) rfl, Option.bind_some, gfC_w (j := s + 5) hs0.1 hs0.2 (f := 6) rfl, Option.bind_some, gaI_w hs5.1 hs5.2 (by decide) (by decide), ix_n hi (by decide), Option.map_some, Option.bind_some, paZ_w hd5.1 hd5.2, ix_n hi (by decide), Option.map_some, Option.bind_some, up2_row (k := d + 4) (k' := s + 5) _ _ (by omega), g5, vn01 (hb5 i hi)]
      rw [nI_1]
  · rintro g S -
    show L_X2_take_78 E (rr w d) (rr w s) (g + 1) (nI 8) (Hw E w S L Q) = rtV (Hw E w S L Q)
    rw [L_X2_take_78, if_pos (show (8 : Int32) ≤ nI 8 from nI_le (Nat.le_refl 8) (by decide))]
theorem take_Fk {d s : Nat} (hG : 100000 ≤ E.2.2.1) (hd : FkO w d) (hs : FkO w s) (ap : d + 7 ≤ s ∨ s + 7 ≤ d) (hb4 : ∀ i, i < 8 → I (s + 4) i = 0 ∨ I (s + 4) i = 1) (hb5 : ∀ i, i < 8 → I (s + 5) i = 0 ∨ I (s + 5) i = 1) : ∃ J, (∀ k, ¬ (d ≤ k ∧ k < d + 7) → J k = I k) ∧ (J d 0 = I s 0 ∧ J d 2 = I s 2 ∧ (∀ x, x < 72 → J (d + 1) x = I (s + 1) x) ∧ (∀ x, x < 8 → J (d + 2) x = I (s + 2) x) ∧ (∀ x, x < 8 → J (d + 3) x = I (s + 3) x) ∧ (∀ x, x < 8 → J (d + 4) x = I (s + 4) x) ∧ (∀ x, x < 8 → J (d + 5) x = I (s + 5) x) ∧ (∀ x, x < 8 → J (d + 6) x = I (s + 6) x)) ∧ F_X2_take E (rr w d) (rr w s) (Hw E w I L Q) = rtV (Hw E w J L Q) := by
  have hd' := hd
  have hs' := hs
  obtain ⟨hd0, hd1, hd2, hd3, hd4, hd5, hd6⟩ := hd
  obtain ⟨hs0, hs1, hs2, hs3, hs4, hs5, hs6⟩ := hs
  obtain ⟨J1, e1⟩ : ∃ J, J = up2 I d 0 (I s 0) := ⟨_, rfl⟩
  have r1 : ∀ k, k ≠ d → J1 k = I k := fun k hk => by rw [e1, up2_row _ _ hk]
  have q1 : ∀ f, f ≠ 0 → J1 d f = I d f := fun f hf => by rw [e1, up2_i _ _ _ hf]
  have v1 : J1 d 0 = I s 0 := by rw [e1, up2_s]
  obtain ⟨J2, e2⟩ : ∃ J, J = cp2 J1 (s + 1) (d + 1) 0 0 72 := ⟨_, rfl⟩
  have r2 : ∀ k, k ≠ d + 1 → J2 k = J1 k := fun k hk => by rw [e2, cp2_row hk]
  have v2 : ∀ x, x < 72 → J2 (d + 1) x = J1 (s + 1) x := fun x hx => by rw [e2, cp2_in hx]
  obtain ⟨J3, e3⟩ : ∃ J, J = up2 J2 d 2 (J2 s 2) := ⟨_, rfl⟩
  have r3 : ∀ k, k ≠ d → J3 k = J2 k := fun k hk => by rw [e3, up2_row _ _ hk]
  have q3 : ∀ f, f ≠ 2 → J3 d f = J2 d f := fun f hf => by rw [e3, up2_i _ _ _ hf]
  have v3 : J3 d 2 = J2 s 2 := by rw [e3, up2_s]
  obtain ⟨J4, e4⟩ : ∃ J, J = cp2 J3 (s + 2) (d + 2) 0 0 8 := ⟨_, rfl⟩
  have r4 : ∀ k, k ≠ d + 2 → J4 k = J3 k := fun k hk => by rw [e4, cp2_row hk]
  have v4 : ∀ x, x < 8 → J4 (d + 2) x = J3 (s + 2) x := fun x hx => by rw [e4, cp2_in hx]
  obtain ⟨J5, e5⟩ : ∃ J, J = cp2 J4 (s + 3) (d + 3) 0 0 8 := ⟨_, rfl⟩
  have r5 : ∀ k, k ≠ d + 3 → J5 k = J4 k := fun k hk => by rw [e5, cp2_row hk]
  have v5 : ∀ x, x < 8 → J5 (d + 3) x = J4 (s + 3) x := fun x hx => by rw [e5, cp2_in hx]
  obtain ⟨J6, e6⟩ : ∃ J, J = cp2 J5 (s + 6) (d + 6) 0 0 8 := ⟨_, rfl⟩
  have r6 : ∀ k, k ≠ d + 6 → J6 k = J5 k := fun k hk => by rw [e6, cp2_row hk]
  have v6 : ∀ x, x < 8 → J6 (d + 6) x = J5 (s + 6) x := fun x hx => by rw [e6, cp2_in hx]
  obtain ⟨J7, r7, v7_4, v7_5, e7⟩ := lpz_Fk (E := E) (w := w) (I := J6) (L := L) (Q := Q) hG hd' hs' ap (fun i hi => by rw [r6 (s + 4) (by omega), r5 (s + 4) (by omega), r4 (s + 4) (by omega), r3 (s + 4) (by omega), r2 (s + 4) (by omega), r1 (s + 4) (by omega)]; exact hb4 i hi) (fun i hi => by rw [r6 (s + 5) (by omega), r5 (s + 5) (by omega), r4 (s + 5) (by omega), r3 (s + 5) (by omega), r2 (s + 5) (by omega), r1 (s + 5) (by omega)]; exact hb5 i hi)
  refine ⟨J7, fun k hk => ?_, ⟨?_, ?_, ?_, ?_, ?_, ?_, ?_, ?_⟩, ?_⟩
  · rw [r7 k (by omega), r6 k (by omega), r5 k (by omega), r4 k (by omega), r3 k (by omega), r2 k (by omega), r1 k (by omega)]
  · rw [r7 d (by omega), r6 d (by omega), r5 d (by omega), r4 d (by omega), q3 0 (by decide), r2 d (by omega), v1]
  · rw [r7 d (by omega), r6 d (by omega), r5 d (by omega), r4 d (by omega), v3, r2 s (by omega), r1 s (by omega)]
  · intro x hx; rw [r7 (d + 1) (by omega), r6 (d + 1) (by omega), r5 (d + 1) (by omega), r4 (d + 1) (by omega), r3 (d + 1) (by omega), v2 x hx, r1 (s + 1) (by omega)]
  · intro x hx; rw [r7 (d + 2) (by omega), r6 (d + 2) (by omega), r5 (d + 2) (by omega), v4 x hx, r3 (s + 2) (by omega), r2 (s + 2) (by omega), r1 (s + 2) (by omega)]
  · intro x hx; rw [r7 (d + 3) (by omega), r6 (d + 3) (by omega), v5 x hx, r4 (s + 3) (by omega), r3 (s + 3) (by omega), r2 (s + 3) (by omega), r1 (s + 3) (by omega)]
  · intro x hx; rw [v7_4 x hx, r6 (s + 4) (by omega), r5 (s + 4) (by omega), r4 (s + 4) (by omega), r3 (s + 4) (by omega), r2 (s + 4) (by omega), r1 (s + 4) (by omega)]
  · intro x hx; rw [v7_5 x hx, r6 (s + 5) (by omega), r5 (s + 5) (by omega), r4 (s + 5) (by omega), r3 (s + 5) (by omega), r2 (s + 5) (by omega), r1 (s + 5) (by omega)]
  · intro x hx; rw [r7 (d + 6) (by omega), v6 x hx, r5 (s + 6) (by omega), r4 (s + 6) (by omega), r3 (s + 6) (by omega), r2 (s + 6) (by omega), r1 (s + 6) (by omega)]
  · unfold F_X2_take
    rw [gfI_w hs0.1 hs0.2 (f := 0) rfl, Option.bind_some, pfI_w hd0.1 hd0.2 (f := 0) rfl, Option.bind_some, ← e1]
    rw [gfC_w (j := s + 1) hs0.1 hs0.2 (f := 1) rfl, Option.bind_some, gfC_w (j := d + 1) hd0.1 hd0.2 (f := 1) rfl, Option.bind_some, acp_0 (yi := 72) hs1 hd1 rfl (by decide), Option.bind_some, ← e2]
    rw [gfI_w hs0.1 hs0.2 (f := 2) rfl, Option.bind_some, pfI_w hd0.1 hd0.2 (f := 2) rfl, Option.bind_some, ← e3]
    rw [gfC_w (j := s + 2) hs0.1 hs0.2 (f := 3) rfl, Option.bind_some, gfC_w (j := d + 2) hd0.1 hd0.2 (f := 3) rfl, Option.bind_some, acp_0 (yi := 8) hs2 hd2 rfl (by decide), Option.bind_some, ← e4]
    rw [gfC_w (j := s + 3) hs0.1 hs0.2 (f := 4) rfl, Option.bind_some, gfC_w (j := d + 3) hd0.1 hd0.2 (f := 4) rfl, Option.bind_some, acp_0 (yi := 8) hs3 hd3 rfl (by decide), Option.bind_some, ← e5]
    rw [gfC_w (j := s + 6) hs0.1 hs0.2 (f := 7) rfl, Option.bind_some, gfC_w (j := d + 6) hd0.1 hd0.2 (f := 7) rfl, Option.bind_some, acp_0 (yi := 8) hs6 hd6 rfl (by decide), Option.bind_some, ← e6]
    exact e7
def BkO (w : Wo) (b : Nat) : Prop := (lvk w b ∧ sh b = .inr (0, [0, b + 1 + 3, b + 2 + 3, b + 3 + 3, b + 4 + 3, 0, b + 5 + 3, b + 6 + 3, b + 7 + 3, b + 8 + 3, b + 9 + 3])) ∧ (lvk w (b + 1) ∧ sh (b + 1) = .inl (0, 12)) ∧ (lvk w (b + 2) ∧ sh (b + 2) = .inl (0, 12)) ∧ (lvk w (b + 3) ∧ sh (b + 3) = .inl (0, 12)) ∧ (lvk w (b + 4) ∧ sh (b + 4) = .inl (0, 480)) ∧ (lvk w (b + 5) ∧ sh (b + 5) = .inl (0, 30)) ∧ (lvk w (b + 6) ∧ sh (b + 6) = .inl (0, 30)) ∧ (lvk w (b + 7) ∧ sh (b + 7) = .inl (0, 30)) ∧ (lvk w (b + 8) ∧ sh (b + 8) = .inl (0, 30)) ∧ (lvk w (b + 9) ∧ sh (b + 9) = .inl (0, 30))
theorem take_Bk {d s : Nat} (hd : BkO w d) (hs : BkO w s) (ap : d + 10 ≤ s ∨ s + 10 ≤ d)  : ∃ J, (∀ k, ¬ (d ≤ k ∧ k < d + 10) → J k = I k) ∧ (J d 0 = I s 0 ∧ J d 5 = I s 5 ∧ (∀ x, x < 12 → J (d + 1) x = I (s + 1) x) ∧ (∀ x, x < 12 → J (d + 2) x = I (s + 2) x) ∧ (∀ x, x < 12 → J (d + 3) x = I (s + 3) x) ∧ (∀ x, x < 480 → J (d + 4) x = I (s + 4) x) ∧ (∀ x, x < 30 → J (d + 5) x = I (s + 5) x) ∧ (∀ x, x < 30 → J (d + 6) x = I (s + 6) x) ∧ (∀ x, x < 30 → J (d + 7) x = I (s + 7) x) ∧ (∀ x, x < 30 → J (d + 8) x = I (s + 8) x) ∧ (∀ x, x < 30 → J (d + 9) x = I (s + 9) x)) ∧ F_X0_take E (rr w d) (rr w s) (Hw E w I L Q) = rtV (Hw E w J L Q) := by
  obtain ⟨hd0, hd1, hd2, hd3, hd4, hd5, hd6, hd7, hd8, hd9⟩ := hd
  obtain ⟨hs0, hs1, hs2, hs3, hs4, hs5, hs6, hs7, hs8, hs9⟩ := hs
  obtain ⟨J1, e1⟩ : ∃ J, J = up2 I d 0 (I s 0) := ⟨_, rfl⟩
  have r1 : ∀ k, k ≠ d → J1 k = I k := fun k hk => by rw [e1, up2_row _ _ hk]
  have q1 : ∀ f, f ≠ 0 → J1 d f = I d f := fun f hf => by rw [e1, up2_i _ _ _ hf]
  have v1 : J1 d 0 = I s 0 := by rw [e1, up2_s]
  obtain ⟨J2, e2⟩ : ∃ J, J = cp2 J1 (s + 1) (d + 1) 0 0 12 := ⟨_, rfl⟩
  have r2 : ∀ k, k ≠ d + 1 → J2 k = J1 k := fun k hk => by rw [e2, cp2_row hk]
  have v2 : ∀ x, x < 12 → J2 (d + 1) x = J1 (s + 1) x := fun x hx => by rw [e2, cp2_in hx]
  obtain ⟨J3, e3⟩ : ∃ J, J = cp2 J2 (s + 2) (d + 2) 0 0 12 := ⟨_, rfl⟩
  have r3 : ∀ k, k ≠ d + 2 → J3 k = J2 k := fun k hk => by rw [e3, cp2_row hk]
  have v3 : ∀ x, x < 12 → J3 (d + 2) x = J2 (s + 2) x := fun x hx => by rw [e3, cp2_in hx]
  obtain ⟨J4, e4⟩ : ∃ J, J = cp2 J3 (s + 3) (d + 3) 0 0 12 := ⟨_, rfl⟩
  have r4 : ∀ k, k ≠ d + 3 → J4 k = J3 k := fun k hk => by rw [e4, cp2_row hk]
  have v4 : ∀ x, x < 12 → J4 (d + 3) x = J3 (s + 3) x := fun x hx => by rw [e4, cp2_in hx]
  obtain ⟨J5, e5⟩ : ∃ J, J = cp2 J4 (s + 4) (d + 4) 0 0 480 := ⟨_, rfl⟩
  have r5 : ∀ k, k ≠ d + 4 → J5 k = J4 k := fun k hk => by rw [e5, cp2_row hk]
  have v5 : ∀ x, x < 480 → J5 (d + 4) x = J4 (s + 4) x := fun x hx => by rw [e5, cp2_in hx]
  obtain ⟨J6, e6⟩ : ∃ J, J = up2 J5 d 5 (J5 s 5) := ⟨_, rfl⟩
  have r6 : ∀ k, k ≠ d → J6 k = J5 k := fun k hk => by rw [e6, up2_row _ _ hk]
  have q6 : ∀ f, f ≠ 5 → J6 d f = J5 d f := fun f hf => by rw [e6, up2_i _ _ _ hf]
  have v6 : J6 d 5 = J5 s 5 := by rw [e6, up2_s]
  obtain ⟨J7, e7⟩ : ∃ J, J = cp2 J6 (s + 5) (d + 5) 0 0 30 := ⟨_, rfl⟩
  have r7 : ∀ k, k ≠ d + 5 → J7 k = J6 k := fun k hk => by rw [e7, cp2_row hk]
  have v7 : ∀ x, x < 30 → J7 (d + 5) x = J6 (s + 5) x := fun x hx => by rw [e7, cp2_in hx]
  obtain ⟨J8, e8⟩ : ∃ J, J = cp2 J7 (s + 6) (d + 6) 0 0 30 := ⟨_, rfl⟩
  have r8 : ∀ k, k ≠ d + 6 → J8 k = J7 k := fun k hk => by rw [e8, cp2_row hk]
  have v8 : ∀ x, x < 30 → J8 (d + 6) x = J7 (s + 6) x := fun x hx => by rw [e8, cp2_in hx]
  obtain ⟨J9, e9⟩ : ∃ J, J = cp2 J8 (s + 7) (d + 7) 0 0 30 := ⟨_, rfl⟩
  have r9 : ∀ k, k ≠ d + 7 → J9 k = J8 k := fun k hk => by rw [e9, cp2_row hk]
  have v9 : ∀ x, x < 30 → J9 (d + 7) x = J8 (s + 7) x := fun x hx => by rw [e9, cp2_in hx]
  obtain ⟨J10, e10⟩ : ∃ J, J = cp2 J9 (s + 8) (d + 8) 0 0 30 := ⟨_, rfl⟩
  have r10 : ∀ k, k ≠ d + 8 → J10 k = J9 k := fun k hk => by rw [e10, cp2_row hk]
  have v10 : ∀ x, x < 30 → J10 (d + 8) x = J9 (s + 8) x := fun x hx => by rw [e10, cp2_in hx]
  obtain ⟨J11, e11⟩ : ∃ J, J = cp2 J10 (s + 9) (d + 9) 0 0 30 := ⟨_, rfl⟩
  have r11 : ∀ k, k ≠ d + 9 → J11 k = J10 k := fun k hk => by rw [e11, cp2_row hk]
  have v11 : ∀ x, x < 30 → J11 (d + 9) x = J10 (s + 9) x := fun x hx => by rw [e11, cp2_in hx]
  refine ⟨J11, fun k hk => ?_, ⟨?_, ?_, ?_, ?_, ?_, ?_, ?_, ?_, ?_, ?_, ?_⟩, ?_⟩
  · rw [r11 k (by omega), r10 k (by omega), r9 k (by omega), r8 k (by omega), r7 k (by omega), r6 k (by omega), r5 k (by omega), r4 k (by omega), r3 k (by omega), r2 k (by omega), r1 k (by omega)]
  · rw [r11 d (by omega), r10 d (by omega), r9 d (by omega), r8 d (by omega), r7 d (by omega), q6 0 (by decide), r5 d (by omega), r4 d (by omega), r3 d (by omega), r2 d (by omega), v1]
  · rw [r11 d (by omega), r10 d (by omega), r9 d (by omega), r8 d (by omega), r7 d (by omega), v6, r5 s (by omega), r4 s (by omega), r3 s (by omega), r2 s (by omega), r1 s (by omega)]
  · intro x hx; rw [r11 (d + 1) (by omega), r10 (d + 1) (by omega), r9 (d + 1) (by omega), r8 (d + 1) (by omega), r7 (d + 1) (by omega), r6 (d + 1) (by omega), r5 (d + 1) (by omega), r4 (d + 1) (by omega), r3 (d + 1) (by omega), v2 x hx, r1 (s + 1) (by omega)]
  · intro x hx; rw [r11 (d + 2) (by omega), r10 (d + 2) (by omega), r9 (d + 2) (by omega), r8 (d + 2) (by omega), r7 (d + 2) (by omega), r6 (d + 2) (by omega), r5 (d + 2) (by omega), r4 (d + 2) (by omega), v3 x hx, r2 (s + 2) (by omega), r1 (s + 2) (by omega)]
  · intro x hx; rw [r11 (d + 3) (by omega), r10 (d + 3) (by omega), r9 (d + 3) (by omega), r8 (d + 3) (by omega), r7 (d + 3) (by omega), r6 (d + 3) (by omega), r5 (d + 3) (by omega), v4 x hx, r3 (s + 3) (by omega), r2 (s + 3) (by omega), r1 (s + 3) (by omega)]
  · intro x hx; rw [r11 (d + 4) (by omega), r10 (d + 4) (by omega), r9 (d + 4) (by omega), r8 (d + 4) (by omega), r7 (d + 4) (by omega), r6 (d + 4) (by omega), v5 x hx, r4 (s + 4) (by omega), r3 (s + 4) (by omega), r2 (s + 4) (by omega), r1 (s + 4) (by omega)]
  · intro x hx; rw [r11 (d + 5) (by omega), r10 (d + 5) (by omega), r9 (d + 5) (by omega), r8 (d + 5) (by omega), v7 x hx, r6 (s + 5) (by omega), r5 (s + 5) (by omega), r4 (s + 5) (by omega), r3 (s + 5) (by omega), r2 (s + 5) (by omega), r1 (s + 5) (by omega)]
  · intro x hx; rw [r11 (d + 6) (by omega), r10 (d + 6) (by omega), r9 (d + 6) (by omega), v8 x hx, r7 (s + 6) (by omega), r6 (s + 6) (by omega), r5 (s + 6) (by omega), r4 (s + 6) (by omega), r3 (s + 6) (by omega), r2 (s + 6) (by omega), r1 (s + 6) (by omega)]
  · intro x hx; rw [r11 (d + 7) (by omega), r10 (d + 7) (by omega), v9 x hx, r8 (s + 7) (by omega), r7 (s + 7) (by omega), r6 (s + 7) (by omega), r5 (s + 7) (by omega), r4 (s + 7) (by omega), r3 (s + 7) (by omega), r2 (s + 7) (by omega), r1 (s + 7) (by omega)]
  · intro x hx; rw [r11 (d + 8) (by omega), v10 x hx, r9 (s + 8) (by omega), r8 (s + 8) (by omega), r7 (s + 8) (by omega), r6 (s + 8) (by omega), r5 (s + 8) (by omega), r4 (s + 8) (by omega), r3 (s + 8) (by omega), r2 (s + 8) (by omega), r1 (s + 8) (by omega)]
  · intro x hx; rw [v11 x hx, r10 (s + 9) (by omega), r9 (s + 9) (by omega), r8 (s + 9) (by omega), r7 (s + 9) (by omega), r6 (s + 9) (by omega), r5 (s + 9) (by omega), r4 (s + 9) (by omega), r3 (s + 9) (by omega), r2 (s + 9) (by omega), r1 (s + 9) (by omega)]
  · unfold F_X0_take
    rw [gfI_w hs0.1 hs0.2 (f := 0) rfl, Option.bind_some, pfI_w hd0.1 hd0.2 (f := 0) rfl, Option.bind_some, ← e1]
    rw [gfC_w (j := s + 1) hs0.1 hs0.2 (f := 1) rfl, Option.bind_some, gfC_w (j := d + 1) hd0.1 hd0.2 (f := 1) rfl, Option.bind_some, acp_0 (yi := 12) hs1 hd1 rfl (by decide), Option.bind_some, ← e2]
    rw [gfC_w (j := s + 2) hs0.1 hs0.2 (f := 2) rfl, Option.bind_some, gfC_w (j := d + 2) hd0.1 hd0.2 (f := 2) rfl, Option.bind_some, acp_0 (yi := 12) hs2 hd2 rfl (by decide), Option.bind_some, ← e3]
    rw [gfC_w (j := s + 3) hs0.1 hs0.2 (f := 3) rfl, Option.bind_some, gfC_w (j := d + 3) hd0.1 hd0.2 (f := 3) rfl, Option.bind_some, acp_0 (yi := 12) hs3 hd3 rfl (by decide), Option.bind_some, ← e4]
    rw [gfC_w (j := s + 4) hs0.1 hs0.2 (f := 4) rfl, Option.bind_some, gfC_w (j := d + 4) hd0.1 hd0.2 (f := 4) rfl, Option.bind_some, acp_0 (yi := 480) hs4 hd4 rfl (by decide), Option.bind_some, ← e5]
    rw [gfI_w hs0.1 hs0.2 (f := 5) rfl, Option.bind_some, pfI_w hd0.1 hd0.2 (f := 5) rfl, Option.bind_some, ← e6]
    rw [gfC_w (j := s + 5) hs0.1 hs0.2 (f := 6) rfl, Option.bind_some, gfC_w (j := d + 5) hd0.1 hd0.2 (f := 6) rfl, Option.bind_some, acp_0 (yi := 30) hs5 hd5 rfl (by decide), Option.bind_some, ← e7]
    rw [gfC_w (j := s + 6) hs0.1 hs0.2 (f := 7) rfl, Option.bind_some, gfC_w (j := d + 6) hd0.1 hd0.2 (f := 7) rfl, Option.bind_some, acp_0 (yi := 30) hs6 hd6 rfl (by decide), Option.bind_some, ← e8]
    rw [gfC_w (j := s + 7) hs0.1 hs0.2 (f := 8) rfl, Option.bind_some, gfC_w (j := d + 7) hd0.1 hd0.2 (f := 8) rfl, Option.bind_some, acp_0 (yi := 30) hs7 hd7 rfl (by decide), Option.bind_some, ← e9]
    rw [gfC_w (j := s + 8) hs0.1 hs0.2 (f := 9) rfl, Option.bind_some, gfC_w (j := d + 8) hd0.1 hd0.2 (f := 9) rfl, Option.bind_some, acp_0 (yi := 30) hs8 hd8 rfl (by decide), Option.bind_some, ← e10]
    rw [gfC_w (j := s + 9) hs0.1 hs0.2 (f := 10) rfl, Option.bind_some, gfC_w (j := d + 9) hd0.1 hd0.2 (f := 10) rfl, Option.bind_some, acp_0 (yi := 30) hs9 hd9 rfl (by decide), Option.bind_some, ← e11]
end
