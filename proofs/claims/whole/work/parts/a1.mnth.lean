/-! the reference's words: the N-th to a side -/
section
variable {E : Ev} {w : Wo} {I : Nat → Nat → Int32} {L : Nat → Nat → Int64} {Q : Nat → Nat → Option Nat} {c : Nat → Nat} {y : Nat}
theorem m_counts {k : Nat} (hk : k < 8) : F_X12_countsPaths E (rr w 163) (nI k) (Hw E w I L Q) = rtI (zb (I 137 (725 + 5 * k) = 1)) (Hw E w I L Q) := by
  unfold F_X12_countsPaths
  rw [m722, m5, m3]
  simp (disch := omega) only [Option.bind_some, Option.map_some, Option.join, cI_r, cL_r, cV_r, xI_r, xL_r, xV_r, xI_t, xL_t, xV_t, lt_r, rtZ_0, rtZ_1, rtZ_zb, pk_mul, nI_add, show 722 + 5 * k + 3 = 725 + 5 * k by omega, gf163_0, ga137, ix_n]
  by_cases e : I 137 (725 + 5 * k) = 1
  · rw [if_neg (not_not_intro e), zb_t e]
  · rw [if_pos e, zb_f e]
theorem m_sideRow {sd s : Nat} {ac : Prop} {G : Nat → Int64} {T : Ro} (hl : LaidOk G T c y) (hsd : sd < 2) (hs : s < 240) : ∃ A, A + 4 ≤ 4800 ∧ (∀ q, q < 256 → (b256 G A q ↔ q % 2 = 0 ∧ s < 4 * c 1 ∧ oN T c y sd ac s (q / 2))) ∧ ∀ h : Hp, F_X12_sideAt E (nI sd) (zb ac) (nI s) h = rtI (nI A) h := by
  by_cases p : ac
  · refine ⟨4 * (240 * (1 + sd) + s), by omega, fun q hq => ?_, fun h => by rw [zb_t p]; exact f_sideAt1⟩
    rw [show 4 * (240 * (1 + sd) + s) = 960 * (1 + sd) + 4 * s by omega, ((hl s hs q hq).2 sd hsd).1]
    unfold oN
    exact ⟨fun z => ⟨z.1, z.2.1, z.2.2, Or.inl p⟩, fun z => ⟨z.1, z.2.1, z.2.2.1⟩⟩
  · refine ⟨4 * (240 * (3 + sd) + s), by omega, fun q hq => ?_, fun h => by rw [zb_f p]; exact f_sideAt0⟩
    rw [show 4 * (240 * (3 + sd) + s) = 960 * (3 + sd) + 4 * s by omega, ((hl s hs q hq).2 sd hsd).2]
    unfold oN isPt
    rw [show q / 2 / 2 = q / 4 by omega]
    exact ⟨fun z => ⟨z.1, z.2.1, ⟨z.2.2.1, z.2.2.2.1⟩, Or.inr z.2.2.2.2⟩, fun z => ⟨z.1, z.2.1, z.2.2.1.1, z.2.2.1.2, z.2.2.2.resolve_left p⟩⟩
def rowP (w : Wo) (L : Nat → Nat → Int64) (c : Nat → Nat) (y9 : Int32) (P : Nat → Prop) : Prop := (y9 = -1 ∧ ∀ s, ¬ P s) ∨ ∃ a, y9 = nI a ∧ a + 4 ≤ 384 ∧ ∀ s, s < 256 → (b256 (L 141) a s ↔ s < 4 * c 1 ∧ P s)
def Bn (cn : Nat → Prop) (N l0 q l : Nat) : Prop := (¬ cn q ∧ l = l0) ∨ (cn q ∧ l = l0 + 1 ∧ l < N)
theorem m_nth144 {N l0 sd k kt nt at0 : Nat} {y9 : Int32} {P : Nat → Prop} (hG : 100000 ≤ E.2.2.1) (q1 : WfT (I 137) c) (hld : LaidOk (L 140) (I 137) c y) (hk : k < c 4) (hsd : sd < 2) (hN2 : N ≤ 20) (hl0 : l0 < N) (g3 : LA w kt nt) (g4 : at0 + 4 ≤ nt) (t6 : ¬ (kt = 141 ∨ (146 ≤ kt ∧ kt ≤ 150))) (t7 : kt ≠ 140) (hP : rowP w L c y9 P) (hA : ∀ q, q < 256 → b256 (L 147) 0 q → q < 4 * c 1) : ∃ L', (∀ k, k ≠ 150 → k ≠ kt → L' k = L k) ∧ (∀ j, j < at0 ∨ at0 + 4 ≤ j → L' kt j = L kt j) ∧ (∀ l, l ≤ 40 → ∀ q, q < 256 → (b256 (L' 150) (4 * l) q ↔ b256 (L 150) (4 * l) q ∨ (q % 2 = 0 ∧ b256 (L 147) 0 q ∧ Bn (cnN (I 137) c y sd (I 137 (725 + 5 * k) = 1) P) N l0 q l))) ∧ (∀ q, q < 256 → (b256 (L' kt) at0 q ↔ b256 (L kt) at0 q ∨ ∃ s0, s0 < 240 ∧ s0 % 2 = 0 ∧ b256 (L 147) 0 s0 ∧ cnN (I 137) c y sd (I 137 (725 + 5 * k) = 1) P s0 ∧ l0 + 1 = N ∧ q % 2 = 0 ∧ oN (I 137) c y sd (I 137 (725 + 5 * k) = 1) s0 (q / 2))) ∧ ∀ K, L_X12_nth_144 E K (rr w 163) (nI N) (nI sd) (nI k) (rr w kt) (nI at0) y9 (nI l0) E.2.2.1 0 (Hw E w I L Q) = K (Hw E w I L' Q) := by
  have k1 : c 1 ≤ 60 := (q1.1 1 (by decide)).2
  have k4 : c 4 ≤ 8 := (q1.1 4 (by decide)).2
  have c0 : nI 0 = 0 := rfl
  generalize hac : (I 137 (725 + 5 * k) = 1) = ac
  generalize hcn : cnN (I 137) c y sd ac P = cn
  refine lpK2 (ρ := (Hp → Rs) → Rs) (σ := Nat → Nat → Int64) (Lp := fun g i s => fun K => L_X12_nth_144 E K (rr w 163) (nI N) (nI sd) (nI k) (rr w kt) (nI at0) y9 (nI l0) g (nI (2 * i)) (Hw E w I s Q)) (K := fun s => fun K => K (Hw E w I s Q)) (Iv := fun i s => (∀ k, k ≠ 150 → k ≠ kt → s k = L k) ∧ (∀ j, j < at0 ∨ at0 + 4 ≤ j → s kt j = L kt j) ∧ (∀ l, l ≤ 40 → ∀ q, q < 256 → (b256 (s 150) (4 * l) q ↔ b256 (L 150) (4 * l) q ∨ (q < 2 * i ∧ q % 2 = 0 ∧ b256 (L 147) 0 q ∧ Bn cn N l0 q l))) ∧ ∀ q, q < 256 → (b256 (s kt) at0 q ↔ b256 (L kt) at0 q ∨ ∃ s0, s0 < 2 * i ∧ s0 % 2 = 0 ∧ b256 (L 147) 0 s0 ∧ cn s0 ∧ l0 + 1 = N ∧ q % 2 = 0 ∧ oN (I 137) c y sd ac s0 (q / 2))) (N := 120) (g := E.2.2.1) (i := 0) (s := L) ?_ ?_ ?_ (by omega) (by omega) ⟨fun _ _ _ => rfl, fun _ _ => rfl, fun l hl q hq => ⟨Or.inl, fun z => z.elim id (fun z => absurd z.1 (by omega))⟩, fun q hq => ⟨Or.inl, fun z => z.elim id (fun ⟨_, z, _⟩ => absurd z (by omega))⟩⟩
  · rintro s ⟨z1, z2, z3, z4⟩ ee
    refine ⟨s, z1, z2, fun l hl q hq => ?_, fun q hq => z4 q hq, fun K => congrFun ee K⟩
    rw [z3 l hl q hq]
    exact or_congr_right ⟨fun z => z.2, fun z => ⟨by have := hA q hq z.2.1; omega, z⟩⟩
  · rintro g i s hi ⟨z1, z2, z3, z4⟩
    have hh := f_has (E := E) (w := w) (I := I) (L := s) (Q := Q) (k := 147) (a := 0) (s := 2 * i) la147 (by decide) (by omega)
    rw [c0, z1 147 (by decide) (by omega)] at hh
    have nr : (∀ l, ¬ (b256 (L 147) 0 (2 * i) ∧ Bn cn N l0 (2 * i) l)) → ∀ l, l ≤ 40 → ∀ q, q < 256 → (b256 (s 150) (4 * l) q ↔ b256 (L 150) (4 * l) q ∨ (q < 2 * (i + 1) ∧ q % 2 = 0 ∧ b256 (L 147) 0 q ∧ Bn cn N l0 q l)) := fun h l hl q hq => by
      rw [z3 l hl q hq]
      refine or_congr_right ⟨fun z => ⟨by omega, z.2⟩, fun ⟨h1, h2, h3⟩ => ⟨?_, h2, h3⟩⟩
      by_cases e : q = 2 * i
      · subst e; exact absurd h3 (h l)
      · omega
    have nk : ¬ (b256 (L 147) 0 (2 * i) ∧ cn (2 * i) ∧ l0 + 1 = N) → ∀ q, q < 256 → (b256 (s kt) at0 q ↔ b256 (L kt) at0 q ∨ ∃ s0, s0 < 2 * (i + 1) ∧ s0 % 2 = 0 ∧ b256 (L 147) 0 s0 ∧ cn s0 ∧ l0 + 1 = N ∧ q % 2 = 0 ∧ oN (I 137) c y sd ac s0 (q / 2)) := fun h q hq => by
      rw [z4 q hq]
      refine or_congr_right ⟨fun ⟨s0, h1, h2⟩ => ⟨s0, by omega, h2⟩, fun ⟨s0, h1, h2, h3, h4, h5, h6⟩ => ⟨s0, ?_, h2, h3, h4, h5, h6⟩⟩
      by_cases e : s0 = 2 * i
      · subst e; exact absurd ⟨h3, h4, h5⟩ h
      · omega
    have pr : ∀ r, r ≤ 40 → b256 (L 147) 0 (2 * i) → (∀ l, Bn cn N l0 (2 * i) l ↔ l = r) → ∀ l, l ≤ 40 → ∀ q, q < 256 → (b256 (pt s 150 (4 * r) (2 * i) 150) (4 * l) q ↔ b256 (L 150) (4 * l) q ∨ (q < 2 * (i + 1) ∧ q % 2 = 0 ∧ b256 (L 147) 0 q ∧ Bn cn N l0 q l)) := fun r hr ph hB l hl q hq => by
      by_cases el : l = r
      · subst el
        rw [pt_b (by omega) hq, z3 _ hl q hq]
        constructor
        · rintro (rfl | h | h)
          · exact Or.inr ⟨by omega, by omega, ph, (hB _).mpr rfl⟩
          · exact Or.inl h
          · exact Or.inr ⟨by omega, h.2⟩
        · rintro (h | h)
          · exact Or.inr (Or.inl h)
          · by_cases e : q = 2 * i
            · exact Or.inl e
            · exact Or.inr (Or.inr ⟨by omega, h.2⟩)
      · rw [pt_b2 (by omega) hq (by omega), z3 l hl q hq]
        refine or_congr_right ⟨fun z => ⟨by omega, z.2⟩, fun ⟨h1, h2, h3, h4⟩ => ⟨?_, h2, h3, h4⟩⟩
        by_cases e : q = 2 * i
        · subst e; exact absurd ((hB l).mp h4) el
        · omega
    by_cases ph : b256 (L 147) 0 (2 * i)
    · have il := hA (2 * i) (by omega) ph
      have e140 : s 140 = L 140 := z1 140 (by decide) (Ne.symm t7)
      have e141 : s 141 = L 141 := z1 141 (by decide) (by omega)
      obtain ⟨A, a1, a2, a3⟩ := m_sideRow (E := E) (sd := sd) (s := 2 * i) (ac := ac) hld hsd (by omega)
      have cnt := m_counts (E := E) (w := w) (I := I) (L := s) (Q := Q) (k := k) (by omega)
      rw [hac] at cnt
      have inn := f_isNone (E := E) (w := w) (I := I) (L := s) (Q := Q) (k := 140) (a := A) la140 a1
      rw [e140] at inn
      have eN : (∀ q, q < 256 → ¬ b256 (L 140) A q) ↔ ¬ ∃ a, oN (I 137) c y sd ac (2 * i) a := by
        constructor
        · rintro h ⟨a, ha⟩
          have := ha.1.1.1
          exact h (2 * a) (by omega) ((a2 (2 * a) (by omega)).mpr ⟨by omega, il, by rw [show 2 * a / 2 = a by omega]; exact ha⟩)
        · intro h q hq z
          exact h ⟨q / 2, ((a2 q hq).mp z).2.2⟩
      rw [zb_c eN] at inn
      have st : ∀ K, L_X12_nth_144 E K (rr w 163) (nI N) (nI sd) (nI k) (rr w kt) (nI at0) y9 (nI l0) (g + 1) (nI (2 * i)) (Hw E w I s Q) = J_X12_nth_219 E (fun w1 h4 => L_X12_nth_144 E K (rr w 163) (nI N) (nI sd) (nI k) (rr w kt) (nI at0) y9 (nI l0) g w1 h4) (rr w 163) (nI N) (nI sd) (nI k) (rr w kt) (nI at0) y9 (nI l0) (nI (2 * i)) (nI A) (zb (cn (2 * i))) (Hw E w I s Q) := fun K => by
        rw [L_X12_nth_144, m240, if_neg (nI_ge (show 2 * i < 240 by omega) (by decide)), gf163_22, Option.bind_some, hh, cI_r, zn_t ph, o163, Option.bind_some, cnt, cI_r, a3, cI_r, gf163_5, Option.bind_some, inn, cI_r]
        by_cases pn : ∃ a, oN (I 137) c y sd ac (2 * i) a
        · rw [zn_f (not_not_intro pn)]
          rcases hP with ⟨rfl, hP⟩ | ⟨a, rfl, ha, hP⟩
          · rw [if_pos rfl, zb_t (show cn (2 * i) by rw [← hcn]; exact ⟨pn, hP _⟩)]
          · have h2 := f_has (E := E) (w := w) (I := I) (L := s) (Q := Q) (k := 141) (a := a) (s := 2 * i) la141 ha (by omega)
            rw [e141] at h2
            rw [if_neg (m1_ne (by omega)), gf163_6, Option.bind_some, h2, cI_r]
            by_cases pp : P (2 * i)
            · rw [zn_t ((hP (2 * i) (by omega)).mpr ⟨il, pp⟩), zb_f (show ¬ cn (2 * i) by rw [← hcn]; exact fun z => z.2 pp)]
            · rw [zn_f (fun z => pp ((hP (2 * i) (by omega)).mp z).2), zb_t (show cn (2 * i) by rw [← hcn]; exact ⟨pn, pp⟩)]
        · rw [zn_t pn, zb_f (show ¬ cn (2 * i) by rw [← hcn]; exact fun z => pn z.1)]
      by_cases pc : cn (2 * i)
      · by_cases pN : N ≤ l0 + 1
        · have jn := f_join (E := E) (w := w) (I := I) (L := s) (Q := Q) (k := kt) (a := at0) (k2 := 140) (a2 := A) hG g3 g4 la140 a1 (Or.inl (Ne.symm t7))
          refine ⟨rs s kt at0 4 (fun j => s kt (at0 + j) ||| s 140 (A + j)), ⟨fun k h1 h2 => (rs_row _ _ h2).trans (z1 k h1 h2), fun j hj => (rs_out _ _ (by omega)).trans (z2 j hj), ?_, fun q hq => ?_⟩, ?_⟩
          · rw [rs_row s _ (show 150 ≠ kt by omega)]
            exact nr (fun l z => z.2.elim (fun z => z.1 pc) (fun z => by omega))
          · rw [rs_b hq, bg_or]
            have e3 : bg (fun j => s kt (at0 + j)) q ↔ b256 (s kt) at0 q := Iff.rfl
            have e4 : bg (fun j => s 140 (A + j)) q ↔ b256 (L 140) A q := by rw [e140]; exact Iff.rfl
            rw [e3, e4, z4 q hq, a2 q hq, or_assoc]
            refine or_congr_right ⟨?_, ?_⟩
            · rintro (⟨s0, h1, h2⟩ | ⟨h1, h2, h3⟩)
              · exact ⟨s0, by omega, h2⟩
              · exact ⟨2 * i, by omega, by omega, ph, pc, by omega, h1, h3⟩
            · rintro ⟨s0, h1, h2, h3, h4, h5, h6, h7⟩
              by_cases e : s0 = 2 * i
              · subst e; exact Or.inr ⟨h6, il, h7⟩
              · exact Or.inl ⟨s0, by omega, h2, h3, h4, h5, h6, h7⟩
          · funext K
            show L_X12_nth_144 E K (rr w 163) (nI N) (nI sd) (nI k) (rr w kt) (nI at0) y9 (nI l0) (g + 1) (nI (2 * i)) (Hw E w I s Q) = _
            rw [st K]
            unfold J_X12_nth_219
            rw [zn_t pc, nI_1, if_pos (nI_le pN (by omega)), gf163_5, Option.bind_some, jn, cV_r, m2, nI_add, show 2 * i + 2 = 2 * (i + 1) by omega]
        · have pu := f_put (E := E) (w := w) (I := I) (L := s) (Q := Q) (k := 150) (a := 4 * (l0 + 1)) (s := 2 * i) la150 (by omega) (by omega)
          refine ⟨pt s 150 (4 * (l0 + 1)) (2 * i), ⟨fun k h1 h2 => (pt_row h1).trans (z1 k h1 h2), fun j hj => by rw [pt_row (show kt ≠ 150 by omega)]; exact z2 j hj, pr (l0 + 1) (by omega) ph (fun l => ⟨fun z => z.elim (fun z => absurd pc z.1) (fun z => z.2.1), fun z => Or.inr ⟨pc, z, by omega⟩⟩), ?_⟩, ?_⟩
          · rw [pt_row (show kt ≠ 150 by omega)]
            exact nk (fun z => by omega)
          · funext K
            show L_X12_nth_144 E K (rr w 163) (nI N) (nI sd) (nI k) (rr w kt) (nI at0) y9 (nI l0) (g + 1) (nI (2 * i)) (Hw E w I s Q) = _
            rw [st K]
            unfold J_X12_nth_219
            rw [zn_t pc, nI_1, if_neg (nI_ge (by omega) (by omega)), gf163_25, Option.bind_some, m4, pk_mul, pu, cV_r, m2, nI_add, show 2 * i + 2 = 2 * (i + 1) by omega]
      · have pu := f_put (E := E) (w := w) (I := I) (L := s) (Q := Q) (k := 150) (a := 4 * l0) (s := 2 * i) la150 (by omega) (by omega)
        refine ⟨pt s 150 (4 * l0) (2 * i), ⟨fun k h1 h2 => (pt_row h1).trans (z1 k h1 h2), fun j hj => by rw [pt_row (show kt ≠ 150 by omega)]; exact z2 j hj, pr l0 (by omega) ph (fun l => ⟨fun z => z.elim (fun z => z.2) (fun z => absurd z.1 pc), fun z => Or.inl ⟨pc, z⟩⟩), ?_⟩, ?_⟩
        · rw [pt_row (show kt ≠ 150 by omega)]
          exact nk (fun z => pc z.2.1)
        · funext K
          show L_X12_nth_144 E K (rr w 163) (nI N) (nI sd) (nI k) (rr w kt) (nI at0) y9 (nI l0) (g + 1) (nI (2 * i)) (Hw E w I s Q) = _
          rw [st K]
          unfold J_X12_nth_219
          rw [zn_f pc, gf163_25, Option.bind_some, m4, pk_mul, pu, cV_r, m2, nI_add, show 2 * i + 2 = 2 * (i + 1) by omega]
    · refine ⟨s, ⟨z1, z2, nr (fun l z => ph z.1), nk (fun z => ph z.1)⟩, ?_⟩
      funext K
      show L_X12_nth_144 E K (rr w 163) (nI N) (nI sd) (nI k) (rr w kt) (nI at0) y9 (nI l0) (g + 1) (nI (2 * i)) (Hw E w I s Q) = _
      rw [L_X12_nth_144, m240, if_neg (nI_ge (show 2 * i < 240 by omega) (by decide)), gf163_22, Option.bind_some, hh, cI_r, zn_f ph, m2, nI_add, show 2 * i + 2 = 2 * (i + 1) by omega]
  · rintro g s _
    funext K
    show L_X12_nth_144 E K (rr w 163) (nI N) (nI sd) (nI k) (rr w kt) (nI at0) y9 (nI l0) (g + 1) (nI 240) (Hw E w I s Q) = _
    rw [L_X12_nth_144, m240, if_pos (nI_le (Nat.le_refl 240) (by decide))]
end
