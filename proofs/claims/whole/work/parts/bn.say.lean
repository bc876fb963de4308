/-! say -/
/-- the words that trays know by a number -/
def lwK (N : Nat) : Int32 := if N = 0 then 0 else if N ≤ 2 then 8 else if N ≤ 14 then 1 else if N ≤ 26 then 2 else 9
def lwN (N : Nat) : Int32 := if N = 0 then 1 else if N ≤ 2 then nI (N - 1) else if N ≤ 26 then 0 else if N ≤ 28 then nI (2 + (N - 27) % 2) else nI (4 + (N - 27) % 2)
def lwA (N : Nat) : Int32 := if N ≤ 2 then -1 else if N ≤ 14 then nI (N - 3) else if N ≤ 26 then nI (N - 15) else -1
theorem lw_wf {N : Nat} (h : N ≤ 30) : WfW (lwK N) (lwN N) (lwA N) := by
  unfold lwK lwN lwA
  by_cases c0 : N = 0
  · rw [if_pos c0, if_pos c0, if_pos (by omega)]
    exact Or.inl ⟨rfl, ⟨1, rfl, by omega, by omega⟩, rfl⟩
  · rw [if_neg c0, if_neg c0]
    by_cases c1 : N ≤ 2
    · rw [if_pos c1, if_pos c1, if_pos c1]
      exact Or.inr (Or.inr (Or.inr (Or.inr (Or.inl ⟨rfl, ⟨N - 1, rfl, by omega⟩, rfl⟩))))
    · rw [if_neg c1, if_neg c1, if_neg c1]
      by_cases c2 : N ≤ 14
      · rw [if_pos c2, if_pos (by omega), if_pos c2]
        exact Or.inr (Or.inl ⟨Or.inl rfl, rfl, ⟨N - 3, rfl, by omega⟩⟩)
      · rw [if_neg c2, if_neg c2]
        by_cases c3 : N ≤ 26
        · rw [if_pos c3, if_pos c3, if_pos c3]
          exact Or.inr (Or.inl ⟨Or.inr (Or.inl rfl), rfl, ⟨N - 15, rfl, by omega⟩⟩)
        · rw [if_neg c3, if_neg c3, if_neg c3]
          refine Or.inr (Or.inr (Or.inr (Or.inr (Or.inr ⟨rfl, ?_, Or.inl rfl⟩))))
          split
          · exact ⟨2 + (N - 27) % 2, rfl, by omega, by omega⟩
          · exact ⟨4 + (N - 27) % 2, rfl, by omega, by omega⟩
/-- the class' number of such a word -/
def lwC (x : Int32) : Int32 := if ¬ x = 0 then if (2 : Int32) < x then if (14 : Int32) < x then if (26 : Int32) < x then (if (28 : Int32) < x then (((if (x &&& 1) = 0 then (12 : Int32) else 11) ||| ((2 : Int32) <<< ((4 : Int32) &&& 31))) ||| ((15 : Int32) <<< ((9 : Int32) &&& 31))) else (((if (x &&& 1) = 0 then (12 : Int32) else 11) ||| ((1 : Int32) <<< ((4 : Int32) &&& 31))) ||| ((15 : Int32) <<< ((9 : Int32) &&& 31)))) else (((3 : Int32) ||| ((0 : Int32) <<< ((4 : Int32) &&& 31))) ||| ((x - 15) <<< ((9 : Int32) &&& 31))) else (((2 : Int32) ||| ((0 : Int32) <<< ((4 : Int32) &&& 31))) ||| ((x - 3) <<< ((9 : Int32) &&& 31))) else if ¬ x = 1 then (((10 : Int32) ||| ((0 : Int32) <<< ((4 : Int32) &&& 31))) ||| ((15 : Int32) <<< ((9 : Int32) &&& 31))) else (((9 : Int32) ||| ((0 : Int32) <<< ((4 : Int32) &&& 31))) ||| ((15 : Int32) <<< ((9 : Int32) &&& 31))) else (((1 : Int32) ||| ((1 : Int32) <<< ((4 : Int32) &&& 31))) ||| ((15 : Int32) <<< ((9 : Int32) &&& 31)))
theorem lwC_e : ∀ N, N < 31 → lwC (nI N) = enc (lwK N) (lwN N) (lwA N) := by decide +kernel
section
variable {E : Ev} {w : Wo} {I : Nat → Nat → Int32} {L : Nat → Nat → Int64} {Q : Nat → Nat → Option Nat} {c : Nat → Nat} {x y : Int32}
theorem f_listed {x : Int32} {h : Hp} : F_X11_listedWord E x h = rtI (lwC x) h := by
  unfold F_X11_listedWord J_X11_listedWord_80 F_X11_wordOf lwC
  simp only [cI_r]
  repeat' split
  all_goals first | rfl | contradiction
theorem to30 {v : Int64} : ((0 : Int64) ≤ v ∧ v ≤ 30) ↔ ∃ N : Nat, N ≤ 30 ∧ v = (nI N).toInt64 := by
  rw [Int64.le_iff_toInt_le, Int64.le_iff_toInt_le]
  constructor
  · rintro ⟨h1, h2⟩
    have h1' : (0 : Int) ≤ v.toInt := h1
    have h2' : v.toInt ≤ 30 := h2
    refine ⟨v.toInt.toNat, by omega, ?_⟩
    rw [← Int64.toInt_inj, Int32.toInt_toInt64, nI_toInt (by omega)]
    omega
  · rintro ⟨N, hN, rfl⟩
    rw [Int32.toInt_toInt64, nI_toInt (by omega)]
    exact ⟨by show (0 : Int) ≤ _; omega, by show _ ≤ (30 : Int); omega⟩
theorem lt31 {v : Int64} : (¬ v < 0 ∧ v < 31) ↔ ((0 : Int64) ≤ v ∧ v ≤ 30) := by
  rw [Int64.not_lt, Int64.lt_iff_toInt_lt, Int64.le_iff_toInt_le, Int64.le_iff_toInt_le]
  show (0 : Int) ≤ _ ∧ _ < (31 : Int) ↔ (0 : Int) ≤ _ ∧ _ ≤ (30 : Int)
  omega
theorem c_sayable {t m : Nat} (hG : 100000 ≤ E.2.2.1) (ht : t < 4) (em : I (128 + 2 * t) 2 = nI m) (hm : m ≤ 12) : F_X8_isSayable E (rr w (128 + 2 * t)) (Hw E w I L Q) = rtI (zb (m ≤ 10 ∧ ∀ n, n < m → ∃ N, N ≤ 30 ∧ L (129 + 2 * t) n = (nI N).toInt64)) (Hw E w I L Q) := by
  unfold F_X8_isSayable
  rw [ty_2 ht, Option.bind_some, em]
  by_cases p : m ≤ 10
  · rw [show (10 : Int32) = nI 10 from m10, if_pos (nI_le p (by decide))]
    refine lpE (σ := Unit) (Lp := fun g i _ => L_X8_isSayable_13 E (rr w (128 + 2 * t)) g (nI i) (Hw E w I L Q)) (Iv := fun i _ => ∀ n, n < i → ∃ N, N ≤ 30 ∧ L (129 + 2 * t) n = (nI N).toInt64) (Post := fun o => o = rtI (zb (m ≤ 10 ∧ ∀ n, n < m → ∃ N, N ≤ 30 ∧ L (129 + 2 * t) n = (nI N).toInt64)) (Hw E w I L Q)) (N := m) ?_ ?_ E.2.2.1 0 () (by omega) (by omega) (fun j hj => absurd hj (by omega))
    · intro g i _ hi hn
      have st : L_X8_isSayable_13 E (rr w (128 + 2 * t)) (g + 1) (nI i) (Hw E w I L Q) = if L (129 + 2 * t) i < 0 then rtI 0 (Hw E w I L Q) else if L (129 + 2 * t) i < 31 then L_X8_isSayable_13 E (rr w (128 + 2 * t)) g (nI (i + 1)) (Hw E w I L Q) else rtI 0 (Hw E w I L Q) := by
        rw [L_X8_isSayable_13]
        simp (disch := omega) only [Option.bind_some, Option.map_some, Option.join, cI_r, cL_r, cV_r, xI_r, xL_r, xV_r, xI_t, xL_t, xV_t, lt_r, rtZ_0, rtZ_1, rtZ_zb, ty_2 ht, em, nI_leI, if_neg, ty_3 ht, (la_ty ht).ga, ix_n, nI_1]
      by_cases p2 : ∃ N, N ≤ 30 ∧ L (129 + 2 * t) i = (nI N).toInt64
      · left
        have z := lt31.mpr (to30.mpr p2)
        refine ⟨(), fun n h => ?_, ?_⟩
        · by_cases e : n = i
          · subst e; exact p2
          · exact hn n (by omega)
        · show L_X8_isSayable_13 E (rr w (128 + 2 * t)) (g + 1) (nI i) (Hw E w I L Q) = _
          rw [st, if_neg z.1, if_pos z.2]
      · right
        show L_X8_isSayable_13 E (rr w (128 + 2 * t)) (g + 1) (nI i) (Hw E w I L Q) = _
        rw [st, zb_f (fun z => p2 (z.2 i hi))]
        by_cases c1 : L (129 + 2 * t) i < 0
        · rw [if_pos c1]
        · rw [if_neg c1, if_neg (fun c2 => p2 (to30.mp (lt31.mp ⟨c1, c2⟩)))]
    · intro g _ hn
      show L_X8_isSayable_13 E (rr w (128 + 2 * t)) (g + 1) (nI m) (Hw E w I L Q) = _
      rw [L_X8_isSayable_13, ty_2 ht, Option.bind_some, em, if_pos (nI_le (Nat.le_refl m) (by omega)), zb_t ⟨p, hn⟩]
      rfl
  · rw [show (10 : Int32) = nI 10 from m10, if_neg (nI_ge (show 10 < m by omega) (by omega)), zb_f (fun z => p z.1)]
    rfl
theorem m_say74 {t m : Nat} (hG : 100000 ≤ E.2.2.1) (ht : t < 4) (em : I 161 t = nI m) (hm : m ≤ 10) : ∀ K, L_X12_say_74 E K (rr w 163) (nI t) E.2.2.1 0 (Hw E w I L Q) = @ite _ (∀ n, n < m → ∃ N, N ≤ 30 ∧ L 162 (12 * t + n) = (nI N).toInt64) (Classical.propDecidable _) (K (Hw E w I L Q)) (rtI 0 (Hw E w (up2 I 163 3 3) L Q)) := by
  intro K
  refine lpE (σ := Unit) (Lp := fun g i _ => L_X12_say_74 E K (rr w 163) (nI t) g (nI i) (Hw E w I L Q)) (Iv := fun i _ => ∀ n, n < i → ∃ N, N ≤ 30 ∧ L 162 (12 * t + n) = (nI N).toInt64) (Post := fun o => o = _) (N := m) ?_ ?_ E.2.2.1 0 () (by omega) (by omega) (fun j hj => absurd hj (by omega))
  · intro g i _ hi hn
    have st : L_X12_say_74 E K (rr w 163) (nI t) (g + 1) (nI i) (Hw E w I L Q) = if ¬ zb ((0 : Int64) ≤ L 162 (12 * t + i) ∧ L 162 (12 * t + i) ≤ 30) = 0 then L_X12_say_74 E K (rr w 163) (nI t) g (nI (i + 1)) (Hw E w I L Q) else rtI 0 (Hw E w (up2 I 163 3 3) L Q) := by
      rw [L_X12_say_74]
      simp (disch := omega) only [Option.bind_some, Option.map_some, Option.join, cI_r, cL_r, cV_r, xI_r, xL_r, xV_r, xI_t, xL_t, xV_t, lt_r, rtZ_0, rtZ_1, rtZ_zb, gf163_38, ga161, ix_n, em, nI_leI, if_neg, gf163_39, m12, pk_mul, nI_add, ga162, wi_t, nI_1, o163, f_fails]
    by_cases p2 : ∃ N, N ≤ 30 ∧ L 162 (12 * t + i) = (nI N).toInt64
    · left
      refine ⟨(), fun n h => ?_, ?_⟩
      · by_cases e : n = i
        · subst e; exact p2
        · exact hn n (by omega)
      · show L_X12_say_74 E K (rr w 163) (nI t) (g + 1) (nI i) (Hw E w I L Q) = _
        rw [st, zn_t (to30.mpr p2)]
    · right
      show L_X12_say_74 E K (rr w 163) (nI t) (g + 1) (nI i) (Hw E w I L Q) = _
      rw [st, zn_f (fun z => p2 (to30.mp z)), if_neg (fun z => p2 (z i hi))]
  · intro g _ hn
    show L_X12_say_74 E K (rr w 163) (nI t) (g + 1) (nI m) (Hw E w I L Q) = _
    rw [if_pos hn, L_X12_say_74]
    simp (disch := omega) only [Option.bind_some, Option.map_some, Option.join, cI_r, cL_r, cV_r, xI_r, xL_r, xV_r, xI_t, xL_t, xV_t, lt_r, rtZ_0, rtZ_1, rtZ_zb, gf163_38, ga161, ix_n, em, nI_leI, if_pos]
/-- the class writes a listed telling -/
theorem c_listed38 {t m z : Nat} {u : Nat → Nat} (hG : 100000 ≤ E.2.2.1) (ht : t < 4) (em : I (128 + 2 * t) 2 = nI m) (hm : m ≤ 10) (hz : z < 12) (hu : ∀ n, n < m → u n ≤ 30 ∧ L (129 + 2 * t) n = (nI (u n)).toInt64) : ∃ I', (∀ k, k ≠ 26 → I' k = I k) ∧ (∀ x, (∀ n, n < m → x ≠ 40 * z + 4 * n) → I' 26 x = I 26 x) ∧ (∀ n, n < m → I' 26 (40 * z + 4 * n) = enc (lwK (u n)) (lwN (u n)) (lwA (u n))) ∧ ∀ K, L_X0_addListed_38 E K (rr w 22) (rr w (128 + 2 * t)) (nI (40 * z)) E.2.2.1 0 (Hw E w I L Q) = K (Hw E w I' L Q) := by
  refine lpK2 (ρ := (Hp → Rs) → Rs) (σ := Nat → Nat → Int32) (Lp := fun g i s => fun K => L_X0_addListed_38 E K (rr w 22) (rr w (128 + 2 * t)) (nI (40 * z)) g (nI i) (Hw E w s L Q)) (K := fun s => fun K => K (Hw E w s L Q)) (Iv := fun i s => (∀ k, k ≠ 26 → s k = I k) ∧ (∀ x, (∀ n, n < i → x ≠ 40 * z + 4 * n) → s 26 x = I 26 x) ∧ ∀ n, n < i → s 26 (40 * z + 4 * n) = enc (lwK (u n)) (lwN (u n)) (lwA (u n))) (N := m) (g := E.2.2.1) (i := 0) (s := I) ?_ ?_ ?_ (by omega) (by omega) ⟨fun _ _ => rfl, fun _ _ => rfl, fun p hp => absurd hp (by omega)⟩
  · rintro I1 ⟨z1, z2, z3⟩ ee
    exact ⟨I1, z1, z2, z3, fun K => congrFun ee K⟩
  · rintro g i I1 hi ⟨z1, z2, z3⟩
    obtain ⟨h1, h2⟩ := hu i hi
    have em1 : I1 (128 + 2 * t) 2 = nI m := by rw [z1 _ (by omega)]; exact em
    refine ⟨up2 I1 26 (40 * z + 4 * i) (enc (lwK (u i)) (lwN (u i)) (lwA (u i))), ⟨fun k hk => by rw [up2_row _ _ hk]; exact z1 k hk, fun x hx => by rw [up2_i _ _ _ (hx i (by omega))]; exact z2 x (fun n hn => hx n (by omega)), fun n hn => ?_⟩, ?_⟩
    · by_cases e : n = i
      · subst e; rw [up2_s]
      · rw [up2_i _ _ _ (by omega)]; exact z3 n (by omega)
    · funext K
      show L_X0_addListed_38 E K (rr w 22) (rr w (128 + 2 * t)) (nI (40 * z)) (g + 1) (nI i) (Hw E w I1 L Q) = _
      have a1 : ¬ nI m ≤ nI i := nI_ge hi (by omega)
      have a2 : ¬ nI 10 ≤ nI i := nI_ge (show i < 10 by omega) (by decide)
      rw [L_X0_addListed_38, ty_2 ht, Option.bind_some, em1, if_neg a1, show (10 : Int32) = nI 10 from m10, if_neg a2, gf22_4, Option.bind_some, ty_3 ht, Option.bind_some, (la_ty ht).ga, ix_n (show i < 12 by omega) (by decide), Option.map_some, Option.bind_some, h2, Int32.toInt32_toInt64, f_listed, cI_r, lwC_e (u i) (by omega), m4, pk_mul, nI_add, show 40 * z + i * 4 = 40 * z + 4 * i by omega, pa26, ix_n (show 40 * z + 4 * i < 480 by omega) (by decide), Option.map_some, Option.bind_some, nI_1]
  · rintro g I1 ⟨z1, z2, z3⟩
    have em1 : I1 (128 + 2 * t) 2 = nI m := by rw [z1 _ (by omega)]; exact em
    funext K
    show L_X0_addListed_38 E K (rr w 22) (rr w (128 + 2 * t)) (nI (40 * z)) (g + 1) (nI m) (Hw E w I1 L Q) = _
    rw [L_X0_addListed_38, ty_2 ht, Option.bind_some, em1, if_pos (nI_le (Nat.le_refl m) (by omega))]
end
