/-! image: a new home is made, the walk -/
def ImgP (w : Wo) (I : Nat → Nat → Int32) (L : Nat → Nat → Int64) (Q : Nat → Nat → Option Nat) (c : Nat → Nat) (i : Nat) : Prop := WfT (I 137) c ∧ LandR I (I 137) c ∧ FolkR (fun j => I (15 + j)) (I 137) c ∧ BookR (fun j => I (22 + j)) (I 137) c ∧ MapR I L (I 137) c ∧ RefR I L (I 137) c ∧ StepsR I L Q ∧ WalkR Q ∧ OddsR Q ∧ RefsR Q ∧ ReadR I ∧ (∀ t, t < 4 → TrayR I L t) ∧ (∀ t, t < 3 → t ≠ i → ImgR w I Q t) ∧ Q 125 i = some (165 + 32 * i) ∧ Q 126 i = some (180 + 32 * i) ∧ Q 127 i = some (187 + 32 * i) ∧ ∀ j, j < 32 → lvk w (165 + 32 * i + j)
theorem AtL_up {h h' : Hp} {r : Nat → Nat} {cs : List va_E} (A : AtL h r cs) (k : ∀ j, j < cs.length → ∀ x, h (r j) = some x → h' (r j) = some x) : AtL h' r cs := fun j x hx => k j (List.getElem?_eq_some_iff.mp hx).1 x (A j x hx)
theorem cat_inj {p n : Nat} {r : Nat → Nat} (h1 : ∀ j, j < n → r j ≠ p) (h2 : ∀ i j, i < n → j < n → r i = r j → i = j) : ∀ i j, i < n + 1 → j < n + 1 → cat 1 (fun _ => p) r i = cat 1 (fun _ => p) r j → i = j := by
  intro i j hi hj e
  unfold cat at e
  by_cases ci : i < 1
  · rw [if_pos ci] at e
    by_cases cj : j < 1
    · omega
    · rw [if_neg cj] at e; exact absurd e.symm (h1 _ (by omega))
  · rw [if_neg ci] at e
    by_cases cj : j < 1
    · rw [if_pos cj] at e; exact absurd e (h1 _ (by omega))
    · rw [if_neg cj] at e
      have := h2 _ _ (by omega) (by omega) e
      omega
theorem cat_p {p n : Nat} {r : Nat → Nat} {P : Nat → Prop} (h1 : P p) (h2 : ∀ j, j < n → P (r j)) : ∀ j, j < n + 1 → P (cat 1 (fun _ => p) r j) := by
  intro j hj
  unfold cat
  by_cases c : j < 1
  · rw [if_pos c]; exact h1
  · rw [if_neg c]; exact h2 _ (by omega)
section
variable {E : Ev} {w : Wo} {I : Nat → Nat → Int32} {L : Nat → Nat → Int64} {Q : Nat → Nat → Option Nat} {c : Nat → Nat} {i p1 p2 p3 : Nat} {r1 r2 r3 : Nat → Nat} {Φ : Ou → Hp → Prop}
theorem imA_1 {a : Nat → Nat} {k : Nat} (hi : i < 3) (h1 : 165 + 32 * i ≤ k) (h2 : k < 180 + 32 * i) : imA i a r1 r2 r3 p1 p2 p3 k = cat 1 (fun _ => p1) r1 (k - (165 + 32 * i)) := by
  unfold imA cat
  rw [if_pos (by omega)]
  by_cases e : k = 165 + 32 * i
  · rw [if_pos e, if_pos (by omega)]
  · rw [if_neg e, if_pos (by omega), if_neg (by omega)]; congr 1; omega
theorem imA_2 {a : Nat → Nat} {k : Nat} (hi : i < 3) (h1 : 180 + 32 * i ≤ k) (h2 : k < 187 + 32 * i) : imA i a r1 r2 r3 p1 p2 p3 k = cat 1 (fun _ => p2) r2 (k - (180 + 32 * i)) := by
  unfold imA cat
  rw [if_pos (by omega), if_neg (by omega), if_neg (by omega)]
  by_cases e : k = 180 + 32 * i
  · rw [if_pos e, if_pos (by omega)]
  · rw [if_neg e, if_pos (by omega), if_neg (by omega)]; congr 1; omega
theorem imA_3 {a : Nat → Nat} {k : Nat} (hi : i < 3) (h1 : 187 + 32 * i ≤ k) (h2 : k < 197 + 32 * i) : imA i a r1 r2 r3 p1 p2 p3 k = cat 1 (fun _ => p3) r3 (k - (187 + 32 * i)) := by
  unfold imA cat
  rw [if_pos (by omega), if_neg (by omega), if_neg (by omega), if_neg (by omega), if_neg (by omega)]
  by_cases e : k = 187 + 32 * i
  · rw [if_pos e, if_pos (by omega)]
  · rw [if_neg e, if_pos (by omega), if_neg (by omega)]; congr 1; omega
theorem img_inv {w' : Wo} (hi : i < 3) (q : InvC w I L Q c) (hl : ∀ k, lvk w' k ↔ lvk w k ∨ Rg i k) : ImgP w' (imI i I) L (imQ i Q) c i := by
  obtain ⟨q1, q2, q3, q4, q5, q6, q7, q8, q9, q10, q11, q12, q13⟩ := q
  have eI : ∀ k, ¬ Rg i k → imI i I k = I k := fun k hk => funext fun f => if_neg hk
  have lo : ∀ k, k < 165 → imI i I k = I k := fun k hk => eI k (by unfold Rg; omega)
  have qs : ∀ k f j, ¬ (f = i ∧ (k = 125 ∨ k = 126 ∨ k = 127)) → j < 165 → Q k f = some j → imQ i Q k f = some j := fun k f j h1 h2 h3 => by rw [imQ_o h1, h3]; show some (sgm i j) = _; rw [sgm_o (by omega) (by unfold Rg; omega)]
  refine ⟨by rw [lo 137 (by decide)]; exact q1, by rw [lo 137 (by decide)]; exact LandR_c (fun j hj => lo j (by omega)) q2, by rw [lo 137 (by decide)]; exact FolkR_c (fun j hj => lo (15 + j) (by omega)) q3, by rw [lo 137 (by decide)]; exact BookR_c (fun j hj => lo (22 + j) (by omega)) q4, by rw [lo 137 (by decide)]; exact MapR_c (lo 32 (by decide)) (lo 38 (by decide)) (fun _ _ _ => rfl) q5, by rw [lo 137 (by decide)]; exact RefR_c (by rw [lo 163 (by decide)]) (lo 142 (by decide)) rfl rfl q6, ?_, ?_, ?_, ⟨fun n hn => qs 65 n _ (by omega) (by omega) (q10.1 n hn), fun n hn => qs 124 n _ (by omega) (by omega) (q10.2 n hn)⟩, ReadR_c (fun f _ _ => by rw [lo 121 (by decide)]) (lo 122 (by decide)) (lo 144 (by decide)) (by rw [lo 163 (by decide)]) (by rw [lo 163 (by decide)]) (by rw [lo 163 (by decide)]) q11, fun t ht => TrayR_c (lo _ (by omega)) (lo 160 (by decide)) (lo 161 (by decide)) rfl rfl (q12 t ht), fun t ht hne => ?_, imQ_125, imQ_126, imQ_127, fun j hj => (hl _).mpr (Or.inr ⟨by omega, by omega⟩)⟩
  · obtain ⟨a, t, n, s1, s2, ⟨z, s3⟩, s4⟩ := q7
    have s4' : imI i I 48 1 = nI n ∧ n ≤ 120 ∧ imI i I 48 4 = 0 ∧ (∀ i', i' < n → bl (imI i I a i') 120) ∧ (∀ j, j < 120 → (∀ i', i' < n → imI i I a i' ≠ nI j) → L t j = 0) ∧ ∀ j, j < 120 → L (102 - t) j = 0 := by
      have ea : a < 165 := by rcases s1 with ⟨-, -, e⟩ | ⟨-, -, e⟩ <;> omega
      rw [lo 48 (by decide), lo a ea]; exact s4
    refine ⟨a, t, n, ?_, ?_, ⟨_, by rw [imQ_o (by omega), s3]; rfl⟩, s4'⟩
    · rcases s1 with ⟨e1, e2, e3⟩ | ⟨e1, e2, e3⟩
      · exact Or.inl ⟨qs 48 2 _ (by omega) (by omega) e1, qs 48 5 _ (by omega) (by omega) e2, e3⟩
      · exact Or.inr ⟨qs 48 2 _ (by omega) (by omega) e1, qs 48 5 _ (by omega) (by omega) e2, e3⟩
    · rcases s2 with ⟨e1, e2, e3⟩ | ⟨e1, e2, e3⟩
      · exact Or.inl ⟨qs 48 3 _ (by omega) (by omega) e1, qs 48 6 _ (by omega) (by omega) e2, e3⟩
      · exact Or.inr ⟨qs 48 3 _ (by omega) (by omega) e1, qs 48 6 _ (by omega) (by omega) e2, e3⟩
  · rcases q8 with ⟨e1, e2⟩ | ⟨e1, e2⟩
    · exact Or.inl ⟨qs 40 7 _ (by omega) (by omega) e1, qs 40 8 _ (by omega) (by omega) e2⟩
    · exact Or.inr ⟨qs 40 7 _ (by omega) (by omega) e1, qs 40 8 _ (by omega) (by omega) e2⟩
  · rcases q9 with ⟨e1, e2⟩ | ⟨e1, e2⟩
    · exact Or.inl ⟨qs 54 1 _ (by omega) (by omega) e1, qs 54 2 _ (by omega) (by omega) e2⟩
    · exact Or.inr ⟨qs 54 1 _ (by omega) (by omega) e1, qs 54 2 _ (by omega) (by omega) e2⟩
  · have nR : ∀ m, m < 32 → ¬ Rg i (165 + 32 * t + m) := fun m hm z => by unfold Rg at z; omega
    have nR' : ∀ a m, m < 32 → a = 165 + 32 * t + m → ¬ Rg i a := fun a m hm e => by rw [e]; exact nR m hm
    rcases q13 t ht with ⟨o1, o2, o3, o4, o5⟩ | ⟨o1, o2, o3, o4, o5, c', w1, w2, w3, w4⟩
    · refine Or.inl ⟨by rw [imQ_o (by omega), o1]; rfl, by rw [imQ_o (by omega), o2]; rfl, by rw [imQ_o (by omega), o3]; rfl, by rw [lo 139 (by decide)]; exact o4, fun j hj z => ?_⟩
      rcases (hl _).mp z with y | y
      · exact o5 j hj y
      · exact nR j hj y
    · have im : ∀ k a, (k = 125 ∨ k = 126 ∨ k = 127) → a < 261 → ¬ Rg i a → Q k t = some a → imQ i Q k t = some a := fun k a h1 h2 h3 h4 => by
        rw [imQ_o (by omega), h4]; show some (sgm i a) = _; rw [sgm_o h2 h3]
      have eT : (fun k => imI i I 138 (2988 * t + k)) = fun k => I 138 (2988 * t + k) := by rw [lo 138 (by decide)]
      refine Or.inr ⟨im 125 _ (by omega) (by omega) (nR' _ 0 (by decide) (by omega)) o1, im 126 _ (by omega) (by omega) (nR' _ 15 (by decide) (by omega)) o2, im 127 _ (by omega) (by omega) (nR' _ 22 (by decide) (by omega)) o3, by rw [lo 139 (by decide)]; exact o4, fun j hj => (hl _).mpr (Or.inl (o5 j hj)), c', by rw [eT]; exact w1, by rw [eT]; exact LandR_c (fun j hj => eI _ (nR' _ j (by omega) (by omega))) w2, by rw [eT]; exact FolkR_c (fun j hj => eI _ (nR' _ (15 + j) (by omega) (by omega))) w3, by rw [eT]; exact BookR_c (fun j hj => eI _ (nR' _ (22 + j) (by omega) (by omega))) w4⟩
set_option maxRecDepth 100000 in
set_option maxHeartbeats 4000000 in
theorem img32 {d kc ks : Nat} (hi : i < 3) (q : InvC w I L Q c) (o5 : ∀ j, j < 32 → ¬ lvk w (165 + 32 * i + j)) (hc : 100 ≤ kc) (hs : 3000 ≤ ks) (k71 : ∀ (w' : Wo) I' Q', (∀ k, k < 165 → rr w' k = rr w k) → ImgP w' I' L Q' c i → ∀ kc' ks', kc ≤ kc' + 32 → ks ≤ ks' + 1814 → WE E mX11_image (d + 1) 71 [some (.ref (rr w 136)), some (.int (nI i))] [] (Hw E w' I' L Q') kc' ks' Φ) : WE E mX11_image (d + 1) 32 [some (.ref (rr w 136)), some (.int (nI i))] [] (Hw E w I L Q) kc ks Φ := by
  obtain ⟨h0, e0⟩ : ∃ h, h = Hw E w I L Q := ⟨_, rfl⟩
  have at0 : ∀ k, lvk w k → h0 (rr w k) = some (cel E w I L Q k) := fun k hk => by rw [e0]; exact Hw_at hk
  rw [← e0]
  have v136 : lvk w 136 := lv_of (by decide)
  have v125 : lvk w 125 := lv_of (by decide)
  have v126 : lvk w 126 := lv_of (by decide)
  have v127 : lvk w 127 := lv_of (by decide)
  have iw : ∀ a b, lvk w a → lvk w b → a ≠ b → rr w a ≠ rr w b := fun a b ha hb hne e => hne (w.2.2.1 a b ha hb e)
  have hin : vp_in (nI i) 3 := vp_in_nI (by omega) (by decide)
  have hcl : (nI i).toNatClampNeg = i := nI_clamp (by omega)
  have A0 : h0 (rr w 136) = some (.inr (11, fls w I L Q 136 [3, 18, 25, 35, 43, 57, 66, 124, 127, 128, 129, 130])) := at0 136 v136
  have B5 : h0 (rr w 125) = some (.inl (E.1 5, 3, .inr (.inr (.inr (.inr (fun f => (Q 125 f).map (rr w))))))) := at0 125 v125
  have B6 : h0 (rr w 126) = some (.inl (E.1 6, 3, .inr (.inr (.inr (.inr (fun f => (Q 126 f).map (rr w))))))) := at0 126 v126
  have B7 : h0 (rr w 127) = some (.inl (E.1 7, 3, .inr (.inr (.inr (.inr (fun f => (Q 127 f).map (rr w))))))) := at0 127 v127
  -- Land
  refine r_aload_n eX11_image_32 rfl ?_
  refine r_getf (v := .ref (rr w 125)) eX11_image_33 f_11_77 A0 rfl ?_
  refine r_iload_n eX11_image_36 rfl ?_
  refine r_newN (N := 17) eX11_image_37 n_11_9 rfl (by omega) (by omega) (fun p1 hp1 => ?_)
  refine r_dup eX11_image_40 rfl ?_
  refine r_init (As := []) (rest := [.ref p1, .int (nI i), .ref (rr w 125)]) (b := p1) (mc := 14) (ms := 1000) eX11_image_41 k_11_11 rfl rfl (Nat.le_of_ble_eq_true rfl) (Nat.le_of_ble_eq_true rfl) (by omega) (by omega) (c_X3_init (hset_s _ _ _) (Nat.le_refl _) (Nat.le_refl _)) (fun v1 h2 z1 => ?_)
  obtain ⟨rfl, r1, C1, c1⟩ := z1
  have P1 := C1.2.1 (rr w 125) _ (fun z => by rw [← z, B5] at hp1; cases hp1) (by rw [hset_n _ _ (fun z => by rw [← z, B5] at hp1; cases hp1)]; exact B5)
  refine r_aastN (t := 5) (j := i) eX11_image_44 P1 ⟨by decide, by decide⟩ c1 rfl rfl hin hcl ?_
  obtain ⟨h3, e3⟩ : ∃ g, g = hset h2 (rr w 125) (.inl (E.1 5, 3, .inr (.inr (.inr (.inr (va_up (fun f => (Q 125 f).map (rr w)) i (some p1))))))) := ⟨_, rfl⟩
  rw [← e3]
  obtain ⟨s11, s12, s13, s14, s15, s16⟩ := stage hp1 C1 c1 B5 e3
  -- Folk
  have A3 := s11 _ _ (iw 136 125 v136 v125 (by decide)) A0
  have B63 := s11 _ _ (iw 126 125 v126 v125 (by decide)) B6
  refine r_aload_n eX11_image_45 rfl ?_
  refine r_getf (v := .ref (rr w 126)) eX11_image_46 f_11_81 A3 rfl ?_
  refine r_iload_n eX11_image_49 rfl ?_
  refine r_newN (N := 8) eX11_image_50 n_11_16 rfl (by omega) (by omega) (fun p2 hp2 => ?_)
  refine r_dup eX11_image_53 rfl ?_
  refine r_init (As := []) (rest := [.ref p2, .int (nI i), .ref (rr w 126)]) (b := p2) (mc := 6) (ms := 112) eX11_image_54 k_11_18 rfl rfl (Nat.le_of_ble_eq_true rfl) (Nat.le_of_ble_eq_true rfl) (by omega) (by omega) (c_X2_init (hset_s _ _ _) (Nat.le_refl _) (Nat.le_refl _)) (fun v2 h5 z2 => ?_)
  obtain ⟨rfl, r2, C2, c2⟩ := z2
  have P2 := C2.2.1 (rr w 126) _ (fun z => by rw [← z, B63] at hp2; cases hp2) (by rw [hset_n _ _ (fun z => by rw [← z, B63] at hp2; cases hp2)]; exact B63)
  refine r_aastN (t := 6) (j := i) eX11_image_57 P2 ⟨by decide, by decide⟩ c2 rfl rfl hin hcl ?_
  obtain ⟨h6, e6⟩ : ∃ g, g = hset h5 (rr w 126) (.inl (E.1 6, 3, .inr (.inr (.inr (.inr (va_up (fun f => (Q 126 f).map (rr w)) i (some p2))))))) := ⟨_, rfl⟩
  rw [← e6]
  obtain ⟨s21, s22, s23, s24, s25, s26⟩ := stage hp2 C2 c2 B63 e6
  -- Book
  have A6 := s21 _ _ (iw 136 126 v136 v126 (by decide)) A3
  have B76 := s21 _ _ (iw 127 126 v127 v126 (by decide)) (s11 _ _ (iw 127 125 v127 v125 (by decide)) B7)
  refine r_aload_n eX11_image_58 rfl ?_
  refine r_getf (v := .ref (rr w 127)) eX11_image_59 f_11_85 A6 rfl ?_
  refine r_iload_n eX11_image_62 rfl ?_
  refine r_newN (N := 11) eX11_image_63 n_11_23 rfl (by omega) (by omega) (fun p3 hp3 => ?_)
  refine r_dup eX11_image_66 rfl ?_
  refine r_init (As := []) (rest := [.ref p3, .int (nI i), .ref (rr w 127)]) (b := p3) (mc := 9) (ms := 666) eX11_image_67 k_11_25 rfl rfl (Nat.le_of_ble_eq_true rfl) (Nat.le_of_ble_eq_true rfl) (by omega) (by omega) (c_X0_init (hset_s _ _ _) (Nat.le_refl _) (Nat.le_refl _)) (fun v3 h8 z3 => ?_)
  obtain ⟨rfl, r3, C3, c3⟩ := z3
  have P3 := C3.2.1 (rr w 127) _ (fun z => by rw [← z, B76] at hp3; cases hp3) (by rw [hset_n _ _ (fun z => by rw [← z, B76] at hp3; cases hp3)]; exact B76)
  refine r_aastN (t := 7) (j := i) eX11_image_70 P3 ⟨by decide, by decide⟩ c3 rfl rfl hin hcl ?_
  obtain ⟨h9, e9⟩ : ∃ g, g = hset h8 (rr w 127) (.inl (E.1 7, 3, .inr (.inr (.inr (.inr (va_up (fun f => (Q 127 f).map (rr w)) i (some p3))))))) := ⟨_, rfl⟩
  rw [← e9]
  obtain ⟨s31, s32, s33, s34, s35, s36⟩ := stage hp3 C3 c3 B76 e9
  -- sizes of what was made
  have n1 : (∀ j, j < 14 → h0 (r1 j) = none ∧ r1 j ≠ p1) ∧ ∀ i j, i < 14 → j < 14 → r1 i = r1 j → i = j := ⟨s15, s16⟩
  have n2 : (∀ j, j < 6 → h3 (r2 j) = none ∧ r2 j ≠ p2) ∧ ∀ i j, i < 6 → j < 6 → r2 i = r2 j → i = j := ⟨s25, s26⟩
  have n3 : (∀ j, j < 9 → h6 (r3 j) = none ∧ r3 j ≠ p3) ∧ ∀ i j, i < 9 → j < 9 → r3 i = r3 j → i = j := ⟨s35, s36⟩
  have x1 : ∀ k, k < 14 → ∃ x, h3 (r1 k) = some x := AtL_ex s14 rfl
  have x2 : ∀ k, k < 6 → ∃ x, h6 (r2 k) = some x := AtL_ex s24 rfl
  -- what was there is there
  have m03 : ∀ a, (∃ x, h0 a = some x) → ∃ x, h3 a = some x := fun a ⟨x, hx⟩ => by
    by_cases e : a = rr w 125
    · exact ⟨_, by rw [e]; exact s12⟩
    · exact ⟨x, s11 a x e hx⟩
  have m36 : ∀ a, (∃ x, h3 a = some x) → ∃ x, h6 a = some x := fun a ⟨x, hx⟩ => by
    by_cases e : a = rr w 126
    · exact ⟨_, by rw [e]; exact s22⟩
    · exact ⟨x, s21 a x e hx⟩
  have nn : ∀ (g : Hp) a b, g a = none → (∃ x, g b = some x) → a ≠ b := fun g a b h1 ⟨x, h2⟩ e => by rw [e, h2] at h1; cases h1
  have bk1 : ∀ j, j < 15 → h0 (cat 1 (fun _ => p1) r1 j) = none := cat_p (n := 14) (P := fun a => h0 a = none) hp1 (fun j hj => (n1.1 j hj).1)
  have bk1s : ∀ j, j < 15 → ∃ x, h3 (cat 1 (fun _ => p1) r1 j) = some x := cat_p (n := 14) (P := fun a => ∃ x, h3 a = some x) ⟨_, s13⟩ x1
  have bk2 : ∀ j, j < 7 → h3 (cat 1 (fun _ => p2) r2 j) = none := cat_p (n := 6) (P := fun a => h3 a = none) hp2 (fun j hj => (n2.1 j hj).1)
  have bk2s : ∀ j, j < 7 → ∃ x, h6 (cat 1 (fun _ => p2) r2 j) = some x := cat_p (n := 6) (P := fun a => ∃ x, h6 a = some x) ⟨_, s23⟩ x2
  have bk3 : ∀ j, j < 10 → h6 (cat 1 (fun _ => p3) r3 j) = none := cat_p (n := 9) (P := fun a => h6 a = none) hp3 (fun j hj => (n3.1 j hj).1)
  have ol0 : ∀ k, lvk w k → ∃ x, h0 (rr w k) = some x := fun k hk => ⟨_, at0 k hk⟩
  have hL : ∀ k, imL i w.1.2.1 k = true ↔ lvk w k ∨ Rg i k := fun k => by unfold imL lvk; rw [Bool.or_eq_true, decide_eq_true_eq]
  have nRl : ∀ k, lvk w k → ¬ Rg i k := fun k hk z => by
    have := o5 (k - (165 + 32 * i)) (by unfold Rg at z; omega)
    rw [show 165 + 32 * i + (k - (165 + 32 * i)) = k by unfold Rg at z; omega] at this
    exact this hk
  have lt261 : ∀ k, imL i w.1.2.1 k = true → k < 261 := fun k hk => by
    rcases (hL k).mp hk with z | z
    · exact w.2.2.2 k z
    · unfold Rg at z; omega
  have blk : ∀ k, Rg i k → (165 + 32 * i ≤ k ∧ k < 180 + 32 * i) ∨ (180 + 32 * i ≤ k ∧ k < 187 + 32 * i) ∨ (187 + 32 * i ≤ k ∧ k < 197 + 32 * i) := fun k hk => by unfold Rg at hk; omega
  have on : ∀ k j, lvk w k → Rg i j → rr w k ≠ imA i w.1.1 r1 r2 r3 p1 p2 p3 j := fun k j hk hj => by
    rcases blk j hj with z | z | z
    · rw [imA_1 hi z.1 z.2]; exact (nn h0 _ _ (bk1 _ (by omega)) (ol0 k hk)).symm
    · rw [imA_2 hi z.1 z.2]; exact (nn h3 _ _ (bk2 _ (by omega)) (m03 _ (ol0 k hk))).symm
    · rw [imA_3 hi z.1 z.2]; exact (nn h6 _ _ (bk3 _ (by omega)) (m36 _ (m03 _ (ol0 k hk)))).symm
  have pf : (∀ k, k < 165 → imL i w.1.2.1 k = true) ∧ (∀ k j, imL i w.1.2.1 k = true → imL i w.1.2.1 j = true → imA i w.1.1 r1 r2 r3 p1 p2 p3 k = imA i w.1.1 r1 r2 r3 p1 p2 p3 j → k = j) ∧ (∀ k, imL i w.1.2.1 k = true → k < 261) := by
    refine ⟨fun k hk => (hL k).mpr (Or.inl (w.2.1 k hk)), fun k j hk hj e => ?_, lt261⟩
    rcases (hL k).mp hk with lk | lk <;> rcases (hL j).mp hj with lj | lj
    · rw [imA_o (w.2.2.2 k lk) (nRl k lk), imA_o (w.2.2.2 j lj) (nRl j lj)] at e
      exact w.2.2.1 k j lk lj e
    · rw [imA_o (w.2.2.2 k lk) (nRl k lk)] at e; exact absurd e (on k j lk lj)
    · rw [imA_o (w.2.2.2 j lj) (nRl j lj)] at e; exact absurd e.symm (on j k lj lk)
    · rcases blk k lk with y | y | y <;> rcases blk j lj with z | z | z
      · rw [imA_1 hi y.1 y.2, imA_1 hi z.1 z.2] at e
        have := cat_inj (n := 14) (fun j hj => (n1.1 j hj).2) n1.2 _ _ (by omega) (by omega) e; omega
      · rw [imA_1 hi y.1 y.2, imA_2 hi z.1 z.2] at e
        exact absurd e.symm (nn h3 _ _ (bk2 _ (by omega)) (bk1s _ (by omega)))
      · rw [imA_1 hi y.1 y.2, imA_3 hi z.1 z.2] at e
        exact absurd e.symm (nn h6 _ _ (bk3 _ (by omega)) (m36 _ (bk1s _ (by omega))))
      · rw [imA_2 hi y.1 y.2, imA_1 hi z.1 z.2] at e
        exact absurd e (nn h3 _ _ (bk2 _ (by omega)) (bk1s _ (by omega)))
      · rw [imA_2 hi y.1 y.2, imA_2 hi z.1 z.2] at e
        have := cat_inj (n := 6) (fun j hj => (n2.1 j hj).2) n2.2 _ _ (by omega) (by omega) e; omega
      · rw [imA_2 hi y.1 y.2, imA_3 hi z.1 z.2] at e
        exact absurd e.symm (nn h6 _ _ (bk3 _ (by omega)) (bk2s _ (by omega)))
      · rw [imA_3 hi y.1 y.2, imA_1 hi z.1 z.2] at e
        exact absurd e (nn h6 _ _ (bk3 _ (by omega)) (m36 _ (bk1s _ (by omega))))
      · rw [imA_3 hi y.1 y.2, imA_2 hi z.1 z.2] at e
        exact absurd e (nn h6 _ _ (bk3 _ (by omega)) (bk2s _ (by omega)))
      · rw [imA_3 hi y.1 y.2, imA_3 hi z.1 z.2] at e
        have := cat_inj (n := 9) (fun j hj => (n3.1 j hj).2) n3.2 _ _ (by omega) (by omega) e; omega
  obtain ⟨w', hw'⟩ : ∃ w' : Wo, w' = ⟨(imA i w.1.1 r1 r2 r3 p1 p2 p3, imL i w.1.2.1, h9), pf⟩ := ⟨_, rfl⟩
  have rw1 : ∀ k, rr w' k = imA i w.1.1 r1 r2 r3 p1 p2 p3 k := fun k => by rw [hw']; rfl
  have lw1 : ∀ k, lvk w' k ↔ lvk w k ∨ Rg i k := fun k => by rw [hw']; exact hL k
  -- from h0, from h3, from h6 to h9
  have q0 : ∀ a, h0 a = none → a ≠ rr w 125 ∧ a ≠ rr w 126 ∧ a ≠ rr w 127 := fun a ha => ⟨nn h0 _ _ ha ⟨_, B5⟩, nn h0 _ _ ha ⟨_, B6⟩, nn h0 _ _ ha ⟨_, B7⟩⟩
  have up69 : ∀ a x, a ≠ rr w 127 → h6 a = some x → h9 a = some x := s31
  have up39 : ∀ a x, a ≠ rr w 126 → a ≠ rr w 127 → h3 a = some x → h9 a = some x := fun a x h1 h2 hx => s31 a x h2 (s21 a x h1 hx)
  have up09 : ∀ a x, a ≠ rr w 125 → a ≠ rr w 126 → a ≠ rr w 127 → h0 a = some x → h9 a = some x := fun a x h1 h2 h3 hx => up39 a x h2 h3 (s11 a x h1 hx)
  have f2 : ∀ a, h3 a = none → a ≠ rr w 127 := fun a ha => nn h3 _ _ ha (m03 _ ⟨_, B7⟩)
  have g1 := up39 _ _ (q0 _ hp1).2.1 (q0 _ hp1).2.2 s13
  have g2 := AtL_up s14 (fun j hj x hx => up39 _ x (q0 _ (s15 j hj).1).2.1 (q0 _ (s15 j hj).1).2.2 hx)
  have g3 := up69 _ _ (f2 _ hp2) s23
  have g4 := AtL_up s24 (fun j hj x hx => up69 _ x (f2 _ (s25 j hj).1) hx)
  have new := im_new (E := E) (w := w) (I := I) (L := L) (Q := Q) (h := h9) pf hi g1 g2 g3 g4 s33 s34
  have hH : Hw E w' (imI i I) L (imQ i Q) = h9 := by
    refine Hw_mk (by rw [hw']) (fun k hk => ?_)
    rcases (lw1 k).mp hk with lk | lk
    · have k261 := w.2.2.2 k lk
      have kR := nRl k lk
      rw [rw1 k, imA_o k261 kR]
      show h9 (rr w k) = _
      by_cases e5 : k = 125
      · rw [e5, hw', im_125 pf hi]; exact up39 _ _ (iw 125 126 v125 v126 (by decide)) (iw 125 127 v125 v127 (by decide)) s12
      · by_cases e6 : k = 126
        · rw [e6, hw', im_126 pf hi]; exact up69 _ _ (iw 126 127 v126 v127 (by decide)) s22
        · by_cases e7 : k = 127
          · rw [e7, hw', im_127 pf hi]; exact s32
          · rw [hw', im_old pf hi k261 kR ⟨e5, e6, e7⟩]
            exact up09 _ _ (iw k 125 lk v125 e5) (iw k 126 lk v126 e6) (iw k 127 lk v127 e7) (at0 k lk)
    · rw [rw1 k, hw']; exact new k lk
  have fin := k71 w' (imI i I) (imQ i Q) (fun k hk => by rw [rw1 k, imA_o (by omega) (by unfold Rg; omega)]; rfl) (img_inv hi q lw1) (kc - 1 - 14 - 1 - 6 - 1 - 9) (ks - 17 - 1000 - 8 - 112 - 11 - 666) (by omega) (by omega)
  rw [hH] at fin
  exact fin
end
