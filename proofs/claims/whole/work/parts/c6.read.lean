/-! telling: the class reads -/
noncomputable def mrn (B : Nat → Nat) (n : Nat) : Nat → Nat → TSt → Nat × Nat × Nat × (Nat → Int32)
  | 0, p, S => (0, p, S.2.2.2.1, S.2.2.2.2.2)
  | g + 1, p, S => if tkn B n p = 28 then (1, spn B n p, 0, fun _ => 0) else if tkn B n p = 26 ∧ S.1 = 0 then (0, 0, S.2.2.2.1, S.2.2.2.2.2) else if ¬ (stp (tkn B n p) (tvl B n p) S).1 = 0 then ((stp (tkn B n p) (tvl B n p) S).1, spn B n p, 0, fun _ => 0) else mrn B n g (nxp B n p) (stp (tkn B n p) (tvl B n p) S).2
/-- how the reading ends -/
noncomputable def rn (B : Nat → Nat) (n p : Nat) (S : TSt) : Nat × Nat × Nat × (Nat → Int32) := mrn B n (n + 1 - p) p S
def OkT (S : TSt) : Prop := OkS S ∧ (S.1 ≠ 0 → S.2.2.2.1 ≤ 9)
section
variable {E : Ev} {w : Wo} {I I1 I2 : Nat → Nat → Int32} {L : Nat → Nat → Int64} {Q : Nat → Nat → Option Nat} {B : Nat → Nat} {n : Nat} {S : TSt}
theorem tW_26 {v : Nat} : tW 26 v S = (2, S) := rfl
theorem tA_26 {d v : Nat} : tA d 26 v S = (2, S) := rfl
theorem stp_26 {v : Nat} (h : ¬ S.1 = 0) : ¬ (stp 26 v S).1 = 0 := by
  unfold stp
  rw [if_neg h]
  have two : ¬ ((2 : Nat), S).1 = 0 := fun z => absurd (show (2 : Nat) = 0 from z) (by decide)
  by_cases d1 : S.1 = 1
  · rw [if_pos d1]; exact two
  · rw [if_neg d1]
    by_cases d2 : S.1 = 2
    · rw [if_pos d2, if_neg (by decide)]; exact two
    · rw [if_neg d2]
      by_cases d3 : S.1 = 3
      · rw [if_pos d3]; exact two
      · rw [if_neg d3]
        by_cases d4 : S.1 = 4
        · rw [if_pos d4]; exact two
        · rw [if_neg d4]
          by_cases d5 : S.1 = 5
          · rw [if_pos d5]; exact two
          · rw [if_neg d5]; exact two
theorem mrn_f : ∀ g g' p S, p ≤ n → n < p + g → n < p + g' → mrn B n g p S = mrn B n g' p S := by
  intro g
  induction g with
  | zero => intro g' p S h1 h2; omega
  | succ g ih =>
    intro g' p S h1 h2 h3
    obtain ⟨g', rfl⟩ : ∃ m, g' = m + 1 := ⟨g' - 1, by omega⟩
    rw [mrn, mrn]
    by_cases c1 : tkn B n p = 28
    · rw [if_pos c1, if_pos c1]
    · rw [if_neg c1, if_neg c1]
      by_cases c2 : tkn B n p = 26 ∧ S.1 = 0
      · rw [if_pos c2, if_pos c2]
      · rw [if_neg c2, if_neg c2]
        by_cases c3 : (stp (tkn B n p) (tvl B n p) S).1 = 0
        · rw [if_neg (not_not_intro c3), if_neg (not_not_intro c3)]
          have n26 : tkn B n p ≠ 26 := fun z => by
            rw [z] at c3
            exact stp_26 (fun z2 => c2 ⟨z, z2⟩) c3
          have gt := nxp_gt h1 n26 c1
          exact ih g' _ _ (nxp_le h1) (by omega) (by omega)
        · rw [if_pos c3, if_pos c3]
theorem rn_u {p : Nat} (hp : p ≤ n) : rn B n p S = if tkn B n p = 28 then (1, spn B n p, 0, fun _ => 0) else if tkn B n p = 26 ∧ S.1 = 0 then (0, 0, S.2.2.2.1, S.2.2.2.2.2) else if ¬ (stp (tkn B n p) (tvl B n p) S).1 = 0 then ((stp (tkn B n p) (tvl B n p) S).1, spn B n p, 0, fun _ => 0) else mrn B n (n - p) (nxp B n p) (stp (tkn B n p) (tvl B n p) S).2 := by
  unfold rn
  rw [show n + 1 - p = (n - p) + 1 by omega, mrn]
theorem rn_bad {p : Nat} (hp : p ≤ n) (h : tkn B n p = 28) : rn B n p S = (1, spn B n p, 0, fun _ => 0) := by rw [rn_u hp, if_pos h]
theorem rn_end {p : Nat} (hp : p ≤ n) (h : tkn B n p = 26) (h0 : S.1 = 0) : rn B n p S = (0, 0, S.2.2.2.1, S.2.2.2.2.2) := by rw [rn_u hp, if_neg (by omega), if_pos ⟨h, h0⟩]
theorem rn_flt {p f : Nat} (hp : p ≤ n) (h : tkn B n p ≠ 28) (h0 : ¬ (tkn B n p = 26 ∧ S.1 = 0)) (hf : (stp (tkn B n p) (tvl B n p) S).1 = f) (f0 : f ≠ 0) : rn B n p S = (f, spn B n p, 0, fun _ => 0) := by rw [rn_u hp, if_neg h, if_neg h0, hf, if_pos f0]
theorem rn_go {p : Nat} {S' : TSt} (hp : p ≤ n) (h : tkn B n p ≠ 28) (h0 : tkn B n p ≠ 26) (hs : stp (tkn B n p) (tvl B n p) S = (0, S')) : rn B n p S = rn B n (nxp B n p) S' := by
  have gt := nxp_gt hp h0 h
  have le := nxp_le (B := B) hp
  rw [rn_u hp, if_neg h, if_neg (fun z => h0 z.1), hs, if_neg (not_not_intro rfl)]
  exact mrn_f _ _ _ _ le (by omega) (by omega)
theorem tvl_le {p : Nat} (hp : p ≤ n) (h : tkn B n p = 24) : tvl B n p ≤ 99 := by
  have w1 := spn_le (B := B) hp
  unfold tvl
  unfold tkn at h
  unfold nxp
  by_cases c1 : n ≤ spn B n p
  · rw [if_pos c1] at h; omega
  · rw [if_neg c1] at h ⊢
    by_cases c2 : B (spn B n p) = 59
    · rw [if_pos c2] at h; omega
    · rw [if_neg c2] at h ⊢
      by_cases c3 : dgt (B (spn B n p)) = true
      · rw [if_pos c3] at h ⊢
        have d1 := dgt_t.mp c3
        by_cases c4 : 2 < adv B n dgt (n - spn B n p) (spn B n p) - spn B n p
        · rw [if_pos c4] at h; omega
        · have ai := adv_in (B := B) (n := n) (C := dgt) (n - spn B n p) (spn B n p)
          unfold nv
          split
          · omega
          · split
            · omega
            · have d2 := dgt_t.mp (ai (spn B n p + 1) (by omega) (by omega))
              omega
      · rw [if_neg c3] at h
        exfalso
        split at h
        · rcases wk_s (B := B) (st := spn B n p) (en := adv B n ltr (n - spn B n p) (spn B n p)) with h' | h' <;> omega
        · omega
theorem tW_ok {κ v : Nat} (ho : OkS S) (h : (tW κ v S).1 = 0) (hv : κ = 24 → v ≤ 99) : OkS (tW κ v S).2 ∧ (tW κ v S).2.1 ≠ 0 ∧ (tW κ v S).2.2.2.2.1 = S.2.2.2.1 := by
  obtain ⟨o1, o2, o3, o4, o5⟩ := ho
  unfold tW at h ⊢
  by_cases c112 : κ = 12
  · rw [if_pos c112]; exact ⟨⟨(by decide : (2 : Nat) ≤ 7), (by decide : (0 : Nat) ≤ 12), Nat.zero_le _, o4, o5⟩, (by decide : (2 : Nat) ≠ 0), rfl⟩
  rw [if_neg c112] at h ⊢
  by_cases c114 : κ = 14
  · rw [if_pos c114]; exact ⟨⟨(by decide : (4 : Nat) ≤ 7), (by decide : (3 : Nat) ≤ 12), Nat.zero_le _, o4, o5⟩, (by decide : (4 : Nat) ≠ 0), rfl⟩
  rw [if_neg c114] at h ⊢
  by_cases c115 : κ = 15
  · rw [if_pos c115]; exact ⟨⟨(by decide : (3 : Nat) ≤ 7), (by decide : (4 : Nat) ≤ 12), Nat.zero_le _, o4, o5⟩, (by decide : (3 : Nat) ≠ 0), rfl⟩
  rw [if_neg c115] at h ⊢
  by_cases c116 : κ = 16
  · rw [if_pos c116]; exact ⟨⟨(by decide : (4 : Nat) ≤ 7), (by decide : (5 : Nat) ≤ 12), Nat.zero_le _, o4, o5⟩, (by decide : (4 : Nat) ≠ 0), rfl⟩
  rw [if_neg c116] at h ⊢
  by_cases c117 : κ = 17
  · rw [if_pos c117]; exact ⟨⟨(by decide : (4 : Nat) ≤ 7), (by decide : (6 : Nat) ≤ 12), Nat.zero_le _, o4, o5⟩, (by decide : (4 : Nat) ≠ 0), rfl⟩
  rw [if_neg c117] at h ⊢
  by_cases c118 : κ = 18
  · rw [if_pos c118]; exact ⟨⟨(by decide : (6 : Nat) ≤ 7), o2, Nat.zero_le _, o4, o5⟩, (by decide : (6 : Nat) ≠ 0), rfl⟩
  rw [if_neg c118] at h ⊢
  by_cases c119 : κ = 19
  · rw [if_pos c119]; exact ⟨⟨(by decide : (6 : Nat) ≤ 7), o2, Nat.zero_le _, o4, o5⟩, (by decide : (6 : Nat) ≠ 0), rfl⟩
  rw [if_neg c119] at h ⊢
  by_cases c120 : κ = 20
  · rw [if_pos c120]; exact ⟨⟨(by decide : (6 : Nat) ≤ 7), o2, Nat.zero_le _, o4, o5⟩, (by decide : (6 : Nat) ≠ 0), rfl⟩
  rw [if_neg c120] at h ⊢
  by_cases c121 : κ = 21
  · rw [if_pos c121]; exact ⟨⟨(by decide : (6 : Nat) ≤ 7), o2, Nat.zero_le _, o4, o5⟩, (by decide : (6 : Nat) ≠ 0), rfl⟩
  rw [if_neg c121] at h ⊢
  by_cases c124 : κ = 24
  · rw [if_pos c124] at h ⊢
    by_cases cv : v < 1 ∨ 20 < v
    · rw [if_pos cv] at h; exact absurd (show (3 : Nat) = 0 from h) (by decide)
    · rw [if_neg cv]; exact ⟨⟨(by decide : (5 : Nat) ≤ 7), (by decide : (0 : Nat) ≤ 12), (by omega : v ≤ 20), o4, o5⟩, (by decide : (5 : Nat) ≠ 0), rfl⟩
  · rw [if_neg c124] at h; exact absurd (show (2 : Nat) = 0 from h) (by decide)
theorem stp_ok {κ v : Nat} (ho : OkT S) (h : (stp κ v S).1 = 0) (hv : κ = 24 → v ≤ 99) : OkT (stp κ v S).2 := by
  have ho' := ho
  obtain ⟨⟨o1, o2, o3, o4, o5⟩, o6⟩ := ho
  have wd3 := o5
  unfold stp at h ⊢
  by_cases d0 : S.1 = 0
  · rw [if_pos d0] at h ⊢
    unfold tF at h ⊢
    by_cases k26 : κ = 26
    · rw [if_pos k26]; exact ho'
    · rw [if_neg k26] at h ⊢
      by_cases f : (tW κ v S).1 = 0
      · rw [if_neg (not_not_intro f)] at h ⊢
        by_cases t : S.2.2.2.1 = 10
        · rw [if_pos t] at h; exact absurd (show (4 : Nat) = 0 from h) (by decide)
        · rw [if_neg t] at h ⊢
          obtain ⟨a1, a2, a3⟩ := tW_ok ho'.1 f hv
          exact ⟨a1, fun _ => by rw [a3]; omega⟩
      · rw [if_pos f] at h; exact absurd h f
  · have s9 := o6 d0
    rw [if_neg d0] at h ⊢
    have ta : ∀ d, (tA d κ v S).1 = 0 → OkT (tA d κ v S).2 := fun d h => by
      unfold tA at h ⊢
      by_cases c : κ = 24
      · rw [if_pos c] at h ⊢
        by_cases cv : v < 1 ∨ 20 < v
        · rw [if_pos cv] at h; exact absurd (show (3 : Nat) = 0 from h) (by decide)
        · rw [if_neg cv]
          exact ⟨⟨by show (6 : Nat) ≤ 7; decide, o2, o3, o4, o5⟩, fun _ => s9⟩
      · rw [if_neg c] at h; exact absurd (show (2 : Nat) = 0 from h) (by decide)
    by_cases d1 : S.1 = 1
    · rw [if_pos d1] at h ⊢
      obtain ⟨a1, a2, a3⟩ := tW_ok ho'.1 h hv
      exact ⟨a1, fun _ => by rw [a3]; exact s9⟩
    · rw [if_neg d1] at h ⊢
      by_cases d2 : S.1 = 2
      · rw [if_pos d2] at h ⊢
        by_cases k13 : κ = 13
        · rw [if_pos k13]
          exact ⟨⟨by show (4 : Nat) ≤ 7; decide, by show (2 : Nat) ≤ 12; decide, o3, o4, o5⟩, fun _ => s9⟩
        · rw [if_neg k13] at h ⊢; exact ta 1 h
      · rw [if_neg d2] at h ⊢
        by_cases d3 : S.1 = 3
        · rw [if_pos d3] at h ⊢; exact ta 4 h
        · rw [if_neg d3] at h ⊢
          by_cases d4 : S.1 = 4
          · rw [if_pos d4] at h ⊢
            unfold tN at h ⊢
            by_cases k12 : 12 ≤ κ
            · rw [if_pos k12] at h; exact absurd (show (2 : Nat) = 0 from h) (by decide)
            · rw [if_neg k12]
              exact ⟨⟨by show (6 : Nat) ≤ 7; decide, o2, o3, o4, o5⟩, fun _ => s9⟩
          · rw [if_neg d4] at h ⊢
            by_cases d5 : S.1 = 5
            · rw [if_pos d5] at h ⊢
              unfold tS at h ⊢
              by_cases k20 : κ = 20
              · rw [if_pos k20]
                exact ⟨⟨by show (7 : Nat) ≤ 7; decide, by show (11 : Nat) ≤ 12; decide, o3, o4, o5⟩, fun _ => s9⟩
              · rw [if_neg k20] at h ⊢
                by_cases k21 : κ = 21
                · rw [if_pos k21]
                  exact ⟨⟨by show (7 : Nat) ≤ 7; decide, by show (12 : Nat) ≤ 12; decide, o3, o4, o5⟩, fun _ => s9⟩
                · rw [if_neg k21] at h; exact absurd (show (2 : Nat) = 0 from h) (by decide)
            · rw [if_neg d5] at h ⊢
              unfold tM at h ⊢
              by_cases k25 : κ = 25
              · rw [if_pos k25]
                exact ⟨⟨by show (0 : Nat) ≤ 7; decide, by show (0 : Nat) ≤ 12; decide, o3, by show S.2.2.2.1 + 1 ≤ 10; omega, by show (0 : Nat) ≤ 3; decide⟩, fun z => absurd rfl z⟩
              · rw [if_neg k25] at h ⊢
                by_cases k22 : κ = 22
                · rw [if_pos k22] at h ⊢
                  by_cases t3 : S.2.2.2.2.1 = 3
                  · rw [if_pos t3] at h; exact absurd (show (4 : Nat) = 0 from h) (by decide)
                  · rw [if_neg t3]
                    exact ⟨⟨by show (1 : Nat) ≤ 7; decide, by show (0 : Nat) ≤ 12; decide, o3, o4, by show S.2.2.2.2.1 + 1 ≤ 3; omega⟩, fun _ => s9⟩
                · rw [if_neg k22] at h ⊢
                  by_cases k23 : κ = 23
                  · rw [if_pos k23] at h ⊢
                    by_cases t7 : S.1 = 7
                    · rw [if_pos t7]
                      exact ⟨⟨by show (4 : Nat) ≤ 7; decide, o2, o3, o4, o5⟩, fun _ => s9⟩
                    · rw [if_neg t7] at h; exact absurd (show (2 : Nat) = 0 from h) (by decide)
                  · rw [if_neg k23] at h; exact absurd (show (2 : Nat) = 0 from h) (by decide)
theorem stp_le {κ v : Nat} : (stp κ v S).1 ≤ 4 := by
  have tw : (tW κ v S).1 ≤ 4 := by
    unfold tW
    repeat' split
    all_goals first | exact Nat.zero_le _ | exact (show (2 : Nat) ≤ 4 by decide) | exact (show (3 : Nat) ≤ 4 by decide)
  have ta : ∀ d, (tA d κ v S).1 ≤ 4 := fun d => by
    unfold tA
    repeat' split
    all_goals first | exact Nat.zero_le _ | exact (show (2 : Nat) ≤ 4 by decide) | exact (show (3 : Nat) ≤ 4 by decide)
  unfold stp tF tN tS tM
  repeat' split
  all_goals first | exact tw | exact ta _ | exact Nat.zero_le _ | exact (show (2 : Nat) ≤ 4 by decide) | exact (show (3 : Nat) ≤ 4 by decide) | exact (show (4 : Nat) ≤ 4 by decide)
def RdF (I I' : Nat → Nat → Int32) : Prop := (∀ k, k ≠ 121 → k ≠ 123 → I' k = I k) ∧ ∀ i, i < 5 → I' 121 i = I 121 i
theorem c_read38 (hG : 100000 ≤ E.2.2.1) (hn : n ≤ 200) : ∀ d p i S (I : Nat → Nat → Int32) g, n - p < d → p ≤ n → i ≤ p → n - p + 2 ≤ g → CS I S → OkT S → I 121 6 = nI p → ¬ I 121 8 = 26 → cBy B n I → ∃ I', RdF I I' ∧ ((rn B n p S).1 = 0 → I' 121 5 = nI (rn B n p S).2.2.1 ∧ ∀ j, j < 40 → I' 123 j = (rn B n p S).2.2.2 j) ∧ (¬ (rn B n p S).1 = 0 → I' 121 7 = nI (rn B n p S).2.1) ∧ (rn B n p S).1 ≤ 4 ∧ ∀ K, L_X5_read_38 E K (rr w 121) (nI n) g 0 (nI i) (Hw E w I L Q) = K (nI (rn B n p S).1) (Hw E w I' L Q) := by
  intro d
  induction d with
  | zero => intro p i S I g hd; omega
  | succ d ih =>
    intro p i S I g hd hp hi hg hc ho h6 h8 hb
    obtain ⟨g, rfl⟩ : ∃ m, g = m + 1 + 1 := ⟨g - 2, by omega⟩
    obtain ⟨I1, a1, a2, a3, a4, a5, a6⟩ := c_scan (E := E) (w := w) (I := I) (L := L) (Q := Q) (B := B) hG hn hp h6 hb
    have le28 := tkn_le (B := B) (n := n) (p := p)
    have nlt : ¬ nI n < nI i := nI_nlt (by omega) (by omega)
    have f1 : RdF I I1 := ⟨fun k h1 _ => a1.1 k h1, fun j hj => a1.2 j (by omega)⟩
    -- one more look: the reading stops with a fault
    have stopK : ∀ (J : Nat → Nat → Int32) (f : Int32) (K : Int32 → Hp → Rs), ¬ f = 0 → L_X5_read_38 E K (rr w 121) (nI n) (g + 1) f (nI (i + 1)) (Hw E w J L Q) = K f (Hw E w J L Q) := fun J f K hf => by
      rw [L_X5_read_38]
      by_cases c : nI n < nI (i + 1)
      · rw [if_pos c]
      · rw [if_neg c, if_pos hf]
    by_cases c1 : tkn B n p = 28
    · rw [rn_bad hp c1]
      rw [c1] at a3
      have a3' : I1 121 8 = -1 := a3
      refine ⟨I1, f1, fun z => absurd (show (1 : Nat) = 0 from z) (by decide), fun _ => a2, by show (1 : Nat) ≤ 4; decide, fun K => ?_⟩
      rw [L_X5_read_38, if_neg nlt, if_neg (not_not_intro rfl)]
      simp only [Option.bind_some, Option.map_some, Option.join, cI_r, cL_r, cV_r, xI_r, xL_r, xV_r, xI_t, xL_t, xV_t, lt_r, rtZ_0, rtZ_1, rtZ_zb, gf121_8, if_neg h8, o121, a6, a3', not_true_eq_false, if_false, nI_1]
      exact stopK I1 1 K (by decide)
    · have k27 : tkn B n p ≤ 27 := by omega
      have a3' : I1 121 8 = nI (tkn B n p) := by rw [a3]; unfold ckd; rw [if_neg c1]
      have nm1 : ¬ nI (tkn B n p) = -1 := m1_ne (by omega)
      have hv : tkn B n p = 24 → tvl B n p ≤ 99 := fun z => tvl_le hp z
      have hc1 : CS I1 S := by
        obtain ⟨q1, q2, q3, q4, q5, q6⟩ := hc
        refine ⟨by rw [a1.2 10 (by omega)]; exact q1, fun z => by rw [a1.2 12 (by omega)]; exact q2 z, fun z => by rw [a1.2 13 (by omega)]; exact q3 z, by rw [a1.2 5 (by omega)]; exact q4, by rw [a1.2 11 (by omega)]; exact q5, fun j hj => by rw [a1.1 123 (by decide)]; exact q6 j hj⟩
      obtain ⟨I2, b1, b2, b3⟩ := c_take (E := E) (w := w) (I := I1) (L := L) (Q := Q) (S := S) (κ := tkn B n p) (v := tvl B n p) hc1 ho.1 a3' k27 a5 hv
      have f2 : RdF I I2 := ⟨fun k h1 h2 => (b1.1 k h1 h2).trans (a1.1 k h1), fun j hj => (b1.2 j (by omega) (by omega) (by omega) (by omega) (by omega)).trans (a1.2 j (by omega))⟩
      have st0 : ∀ K, L_X5_read_38 E K (rr w 121) (nI n) (g + 1 + 1) 0 (nI i) (Hw E w I L Q) = L_X5_read_38 E K (rr w 121) (nI n) (g + 1) (nI (stp (tkn B n p) (tvl B n p) S).1) (nI (i + 1)) (Hw E w I2 L Q) := fun K => by
        rw [L_X5_read_38, if_neg nlt, if_neg (not_not_intro rfl)]
        simp only [Option.bind_some, Option.map_some, Option.join, cI_r, cL_r, cV_r, xI_r, xL_r, xV_r, xI_t, xL_t, xV_t, lt_r, rtZ_0, rtZ_1, rtZ_zb, gf121_8, if_neg h8, o121, a6, a3', if_pos nm1, b3, nI_1]
      by_cases c2 : tkn B n p = 26 ∧ S.1 = 0
      · rw [rn_end hp c2.1 c2.2]
        have sv : stp (tkn B n p) (tvl B n p) S = (0, S) := by
          rw [c2.1]; unfold stp; rw [if_pos c2.2]; rfl
        rw [sv] at b2 st0
        have b2' : CS I2 S := b2 rfl
        have e8 : I2 121 8 = 26 := by rw [b1.2 8 (by decide) (by decide) (by decide) (by decide) (by decide), a3', c2.1]; rfl
        refine ⟨I2, f2, fun _ => ⟨b2'.2.2.2.1, b2'.2.2.2.2.2⟩, fun z => absurd rfl z, Nat.zero_le _, fun K => ?_⟩
        rw [st0 K]
        show L_X5_read_38 E K (rr w 121) (nI n) (g + 1) 0 (nI (i + 1)) (Hw E w I2 L Q) = _
        rw [L_X5_read_38]
        by_cases c : nI n < nI (i + 1)
        · rw [if_pos c]; rfl
        · rw [if_neg c, if_neg (not_not_intro rfl), gf121_8, e8, Option.bind_some, if_pos rfl]; rfl
      · by_cases c3 : (stp (tkn B n p) (tvl B n p) S).1 = 0
        · have n26 : tkn B n p ≠ 26 := fun z => by
            rw [z] at c3
            exact stp_26 (fun z2 => c2 ⟨z, z2⟩) c3
          have gt := nxp_gt hp n26 c1
          have le := nxp_le (B := B) hp
          have go : rn B n p S = rn B n (nxp B n p) (stp (tkn B n p) (tvl B n p) S).2 := rn_go hp c1 n26 (by rw [← c3])
          rw [go]
          have ok2 := stp_ok ho c3 hv
          obtain ⟨I3, d1, d2, d3, d4, d5⟩ := ih (nxp B n p) (i + 1) (stp (tkn B n p) (tvl B n p) S).2 I2 (g + 1) (by omega) le (by omega) (by omega) (b2 c3) ok2 (by rw [b1.2 6 (by decide) (by decide) (by decide) (by decide) (by decide)]; exact a4) (by rw [b1.2 8 (by decide) (by decide) (by decide) (by decide) (by decide), a3']; exact fun z => n26 ((nI_eq (b := 26) (by omega) (by decide)).mp z)) (cBy_k hb (by rw [b1.1 122 (by decide) (by decide), a1.1 122 (by decide)]))
          refine ⟨I3, ⟨fun k h1 h2 => (d1.1 k h1 h2).trans (f2.1 k h1 h2), fun j hj => (d1.2 j hj).trans (f2.2 j hj)⟩, d2, d3, d4, fun K => ?_⟩
          rw [st0 K, c3]
          exact d5 K
        · rw [rn_flt hp c1 c2 rfl c3]
          have le4 := stp_le (S := S) (κ := tkn B n p) (v := tvl B n p)
          refine ⟨I2, f2, fun z => absurd z c3, fun _ => by rw [b1.2 7 (by decide) (by decide) (by decide) (by decide) (by decide)]; exact a2, le4, fun K => ?_⟩
          rw [st0 K]
          exact stopK I2 _ K (fun z => c3 ((nI_eq (b := 0) (by omega) (by decide)).mp z))
/-- the class reads what lies there -/
theorem c_read (hG : 100000 ≤ E.2.2.1) (hn : n ≤ 200) (hb : cBy B n I) : ∃ I', (∀ k, k ≠ 121 → k ≠ 123 → I' k = I k) ∧ I' 121 1 = 0 ∧ I' 121 2 = nI (rn B n 0 (0, 0, 0, 0, 0, fun _ => 0)).1 ∧ (rn B n 0 (0, 0, 0, 0, 0, fun _ => 0)).1 ≤ 4 ∧ I' 121 3 = (if (rn B n 0 (0, 0, 0, 0, 0, fun _ => 0)).1 = 0 then -1 else nI (rn B n 0 (0, 0, 0, 0, 0, fun _ => 0)).2.1) ∧ ((rn B n 0 (0, 0, 0, 0, 0, fun _ => 0)).1 = 0 → I' 121 5 = nI (rn B n 0 (0, 0, 0, 0, 0, fun _ => 0)).2.2.1 ∧ ∀ j, j < 40 → I' 123 j = (rn B n 0 (0, 0, 0, 0, 0, fun _ => 0)).2.2.2 j) ∧ F_X5_read E (rr w 121) (nI n) (Hw E w I L Q) = rtI (nI (rn B n 0 (0, 0, 0, 0, 0, fun _ => 0)).1) (Hw E w I' L Q) := by
  unfold F_X5_read
  have ia : IA w 123 40 := ⟨lv_of (by decide), rfl, by decide⟩
  have fl := f_fillI (E := E) (w := w) (I := I) (L := L) (Q := Q) (v := 0) hG ia
  have oa : ∀ k, k ≠ 123 → rs I 123 0 40 (fun _ => 0) k = I k := fun k hk => rs_row _ _ hk
  have ob : ∀ j, j < 40 → rs I 123 0 40 (fun _ => 0) 123 j = 0 := fun j hj => rs_in _ _ (by omega) (by omega)
  generalize rs I 123 0 40 (fun _ => 0) = I1 at *
  generalize eA : up2 (up2 (up2 (up2 (up2 I1 121 5 0) 121 6 0) 121 10 0) 121 11 0) 121 8 25 = A
  have A5 : A 121 5 = nI 0 := by rw [← eA]; rfl
  have A6 : A 121 6 = nI 0 := by rw [← eA]; rfl
  have A10 : A 121 10 = nI 0 := by rw [← eA]; rfl
  have A11 : A 121 11 = nI 0 := by rw [← eA]; rfl
  have A8 : A 121 8 = 25 := by rw [← eA]; rfl
  have Ak : ∀ k, k ≠ 121 → A k = I1 k := fun k hk => by rw [← eA, up2_row _ _ hk, up2_row _ _ hk, up2_row _ _ hk, up2_row _ _ hk, up2_row _ _ hk]
  have cs : CS A (0, 0, 0, 0, 0, fun _ => 0) := ⟨A10, fun z => absurd z (by decide), fun z => absurd rfl z, A5, A11, fun j hj => by rw [Ak 123 (by decide)]; exact ob j hj⟩
  have ok : OkT (0, 0, 0, 0, 0, fun _ => 0) := ⟨⟨by decide, by decide, by decide, by decide, by decide⟩, fun z => absurd rfl z⟩
  obtain ⟨I2, b1, b2, b3, b4, b5⟩ := c_read38 (E := E) (w := w) (L := L) (Q := Q) (B := B) (n := n) hG hn (n + 1) 0 0 (0, 0, 0, 0, 0, fun _ => 0) A E.2.2.1 (by omega) (by omega) (by omega) (by omega) cs ok A6 (by rw [A8]; decide) (cBy_k hb (by rw [Ak 122 (by decide), oa 122 (by decide)]))
  generalize eR : rn B n 0 (0, 0, 0, 0, 0, fun _ => 0) = R at *
  have b5' := fun K => b5 K
  simp only [Option.bind_some, Option.map_some, Option.join, cI_r, cL_r, cV_r, xI_r, xL_r, xV_r, xI_t, xL_t, xV_t, lt_r, rtZ_0, rtZ_1, rtZ_zb, gf121_4, fl, pf121_5, pf121_6, pf121_10, pf121_11, pf121_8, eA]
  have b6 : ∀ K, L_X5_read_38 E K (rr w 121) (nI n) E.2.2.1 0 0 (Hw E w A L Q) = K (nI R.1) (Hw E w I2 L Q) := b5
  rw [b6]
  unfold J_X5_read_84
  have g7 : ∀ v1 v2 : Int32, up2 (up2 I2 121 1 v1) 121 2 v2 121 7 = I2 121 7 := fun _ _ => rfl
  simp only [Option.bind_some, Option.map_some, Option.join, cI_r, cL_r, cV_r, xI_r, xL_r, xV_r, xI_t, xL_t, xV_t, lt_r, rtZ_0, rtZ_1, rtZ_zb, pf121_1, pf121_2]
  have z0 : nI R.1 = 0 ↔ R.1 = 0 := nI_eq (b := 0) (by omega) (by decide)
  have rowk : ∀ (v1 v2 v3 : Int32) k, k ≠ 121 → up2 (up2 (up2 I2 121 1 v1) 121 2 v2) 121 3 v3 k = I2 k := fun v1 v2 v3 k hk => by rw [up2_row _ _ hk, up2_row _ _ hk, up2_row _ _ hk]
  by_cases c : R.1 = 0
  · rw [if_neg (not_not_intro (z0.mpr c))]
    simp only [Option.bind_some, Option.map_some, Option.join, cI_r, cL_r, cV_r, xI_r, xL_r, xV_r, xI_t, xL_t, xV_t, lt_r, rtZ_0, rtZ_1, rtZ_zb, pf121_3]
    refine ⟨up2 (up2 (up2 I2 121 1 0) 121 2 (nI R.1)) 121 3 (-1), fun k h1 h2 => by rw [rowk _ _ _ k h1, b1.1 k h1 h2, Ak k h1, oa k h2], rfl, rfl, b4, by rw [if_pos c]; rfl, fun _ => ⟨(b2 c).1, fun j hj => by rw [rowk _ _ _ 123 (by decide)]; exact (b2 c).2 j hj⟩, rfl⟩
  · rw [if_pos (fun z => c (z0.mp z))]
    simp only [Option.bind_some, Option.map_some, Option.join, cI_r, cL_r, cV_r, xI_r, xL_r, xV_r, xI_t, xL_t, xV_t, lt_r, rtZ_0, rtZ_1, rtZ_zb, gf121_7, g7, b3 c, pf121_3]
    refine ⟨_, fun k h1 h2 => by rw [rowk _ _ _ k h1, b1.1 k h1 h2, Ak k h1, oa k h2], rfl, rfl, b4, by rw [if_neg c]; rfl, fun z => absurd z c, rfl⟩
end
