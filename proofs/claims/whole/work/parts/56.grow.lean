/-! one section of what was told grows or changes, all else stays -/
section
variable {w : Wo} {I I2 : Nat → Nat → Int32} {L L2 : Nat → Nat → Int64} {Q : Nat → Nat → Option Nat} {c c2 : Nat → Nat}
theorem MapR_f {T : Ro} (h1 : I2 32 1 = 0) (h2 : I2 32 2 = -1) (h3 : I2 32 3 = 1) : MapR I2 L2 T c := by
  refine ⟨Or.inr h3, fun _ => False, fun v h => h.elim, fun h => ?_, fun y hy ha hb => ?_⟩
  · rw [h3] at h; exact absurd h (by decide)
  · rw [h2] at hb; exact absurd hb (Int32.not_le.mpr (Int32.lt_of_lt_of_le (show (-1 : Int32) < 0 by decide) (nI_pos' (by omega))))
theorem Inv_up (q : Inv w I L Q) (hI : ∀ k, (k = 48 ∨ k = 49 ∨ k = 51 ∨ k = 121 ∨ k = 122 ∨ k = 138 ∨ k = 139 ∨ k = 144 ∨ k = 160 ∨ k = 161 ∨ (128 ≤ k ∧ k < 136) ∨ 165 ≤ k) → I2 k = I k) (h63 : ∀ i, i = 10 ∨ i = 18 ∨ i = 19 → I2 163 i = I 163 i) (h4 : I2 163 4 = -1) (hL : ∀ k, (k = 50 ∨ k = 52 ∨ (128 ≤ k ∧ k < 136) ∨ k = 162) → L2 k = L k) (hW : WfT (I2 137) c2) (hLd : LandR I2 (I2 137) c2) (hFo : FolkR (fun j => I2 (15 + j)) (I2 137) c2) (hBo : BookR (fun j => I2 (22 + j)) (I2 137) c2) (hMp : MapR I2 L2 (I2 137) c2) : Inv w I2 L2 Q := by
  obtain ⟨_, -, -, -, -, -, -, q7, q8, q9, q10, q11, q12, q13⟩ := q
  refine ⟨c2, hW, hLd, hFo, hBo, hMp, Or.inl h4, StepsR_c (hI 48 (by omega)) (hI 49 (by omega)) (hI 51 (by omega)) (hL 50 (by omega)) (hL 52 (by omega)) q7, q8, q9, q10, ReadR_c (fun f _ _ => by rw [hI 121 (by omega)]) (hI 122 (by omega)) (hI 144 (by omega)) (h63 10 (by omega)) (h63 18 (by omega)) (h63 19 (by omega)) q11, fun t ht => TrayR_c (hI _ (by omega)) (hI 160 (by omega)) (hI 161 (by omega)) (hL _ (by omega)) (hL 162 (by omega)) (q12 t ht), fun i hi => ImgR_c (hI 138 (by omega)) (hI 139 (by omega)) (fun j hj => hI _ (by omega)) (q13 i hi)⟩
theorem sec_1 (q : Inv w I L Q) (w1 : Cts (I 137) c) (hW : WfT (I 137) c) (hLd : LandR I (I 137) c) (hFo : FolkR (fun j => I (15 + j)) (I 137) c) (hBo : BookR (fun j => I (22 + j)) (I 137) c) (hMp0 : MapR I L (I 137) c)
    (hI : ∀ k, (k = 48 ∨ k = 49 ∨ k = 51 ∨ k = 121 ∨ k = 122 ∨ k = 138 ∨ k = 139 ∨ k = 144 ∨ k = 160 ∨ k = 161 ∨ (128 ≤ k ∧ k < 136) ∨ 165 ≤ k) → I2 k = I k) (h63 : ∀ i, i = 10 ∨ i = 18 ∨ i = 19 → I2 163 i = I 163 i) (h4 : I2 163 4 = -1) (hL : ∀ k, (k = 50 ∨ k = 52 ∨ (128 ≤ k ∧ k < 136) ∨ k = 162) → L2 k = L k)
    (hc : ∀ i, i < 7 → i ≠ 1 → c2 i = c i) (hc1 : c 1 ≤ c2 1) (hc2 : c2 1 ≤ mx 1) (hT : ∀ i, i ≠ 1 → ¬ (90 ≤ i ∧ i < 450) → I2 137 i = I 137 i) (hTs : I2 137 1 = nI (c2 1)) (hk : ∀ k, k < 32 → k ≠ 3 → k ≠ 4 → k ≠ 5 → k ≠ 6 → k ≠ 7 → k ≠ 8 → k ≠ 9 → k ≠ 0 → I2 k = I k) (hob : ∀ f, f ≠ 3 → I2 0 f = I 0 f) (hof : I2 0 3 = nI (c2 1))
    (hsW : ∀ j, j < c2 1 → WfV (I2 137) c2 j) (hsC : ∀ j, j < c2 1 → LandV I2 (I2 137) j) (hMp : MapR I2 L2 (I2 137) c2) : Inv w I2 L2 Q := by
  obtain ⟨-, w2, w3, w4, w5, w6, w7, w8⟩ := hW
  obtain ⟨l1, l2, l3, l5⟩ := hLd
  obtain ⟨⟨f1, f2⟩, ⟨f3, f4⟩, f5⟩ := hFo
  obtain ⟨⟨g1, g2⟩, ⟨g3, g4⟩⟩ := hBo
  have k0 := (w1 0 (by decide)).2
  have k1 := (w1 1 (by decide)).2
  have k2 := (w1 2 (by decide)).2
  have k3 := (w1 3 (by decide)).2
  have k4 := (w1 4 (by decide)).2
  have k5 := (w1 5 (by decide)).2
  have k6 := (w1 6 (by decide)).2
  simp only [mx] at k0 k1 k2 k3 k4 k5 k6 hc2
  have e0 : c2 0 = c 0 := hc 0 (by decide) (by decide)
  have m0 : c 0 ≤ c2 0 := Nat.le_of_eq e0.symm
  have m1 : c 1 ≤ c2 1 := hc1
  have e2 : c2 2 = c 2 := hc 2 (by decide) (by decide)
  have m2 : c 2 ≤ c2 2 := Nat.le_of_eq e2.symm
  have e3 : c2 3 = c 3 := hc 3 (by decide) (by decide)
  have m3 : c 3 ≤ c2 3 := Nat.le_of_eq e3.symm
  have e4 : c2 4 = c 4 := hc 4 (by decide) (by decide)
  have m4 : c 4 ≤ c2 4 := Nat.le_of_eq e4.symm
  have e5 : c2 5 = c 5 := hc 5 (by decide) (by decide)
  have m5 : c 5 ≤ c2 5 := Nat.le_of_eq e5.symm
  have e6 : c2 6 = c 6 := hc 6 (by decide) (by decide)
  have m6 : c 6 ≤ c2 6 := Nat.le_of_eq e6.symm
  have hxs : Xs (I 137) (I2 137) c := fun p hp => ⟨hT _ (by omega) (by omega), hT _ (by omega) (by omega)⟩
  have W1 : Cts (I2 137) c2 := by
    intro i hi
    by_cases e : i = 1
    · subst e; exact ⟨hTs, by simp only [mx]; exact hc2⟩
    · rw [hc i hi e, hT i e (by omega)]; exact w1 i hi
  have W2 : WfP (I2 137) c2 := by
    refine ⟨fun p hp => ?_, fun p r hp hr z1 z2 => ?_⟩
    · rw [e0] at hp; rw [(hxs p hp).1, (hxs p hp).2]; exact w2.1 p hp
    · rw [e0] at hp hr; rw [(hxs p hp).1, (hxs r hr).1] at z1; rw [(hxs p hp).2, (hxs r hr).2] at z2; exact w2.2 p r hp hr z1 z2
  have W3 : ∀ v, v < c2 1 → WfV (I2 137) c2 v := hsW
  have W4 : ∀ v, v < c2 2 → WfM (I2 137) c2 v := fun v hv => by rw [e2] at hv; exact WfM_T (T := I 137) (fun i a b => hT i (by omega) (by omega)) (by omega) m0 (w4 v hv)
  have W5 : ∀ v, v < c2 3 → WfU (I2 137) v := fun v hv => by rw [e3] at hv; exact WfU_T (T := I 137) (fun i a b => hT i (by omega) (by omega)) (by omega) (w5 v hv)
  have W6 : ∀ v, v < c2 4 → WfK (I2 137) c2 v := fun v hv => by rw [e4] at hv; exact WfK_T (T := I 137) (fun i a b => hT i (by omega) (by omega)) (by omega) m3 (w6 v hv)
  have W7 : ∀ v, v < c2 5 → WfZ (I2 137) c2 v := fun v hv => by rw [e5] at hv; exact WfZ_T (T := I 137) (fun i a b => hT i (by omega) (by omega)) (by omega) m0 (w7 v hv)
  have W8 : ∀ v, v < c2 6 → WfR (I2 137) c2 v := fun v hv => by rw [e6] at hv; exact WfR_T (T := I 137) (fun i a b => hT i (by omega) (by omega)) (by omega) m0 m1 m4 m5 (w8 v hv)
  have A1 : I2 0 0 = I2 137 0 := by rw [hT 0 (by decide) (by omega)]; rw [show I2 0 0 = I 0 0 from hob 0 (by decide)]; exact l1.1
  have A2 : ∀ p, p < c2 0 → I2 1 p = I2 137 (10 + 2 * p) ∧ I2 2 p = I2 137 (11 + 2 * p) := fun p hp => by rw [e0] at hp; rw [(hxs p hp).1, (hxs p hp).2, (hk 1 (by decide) (by decide) (by decide) (by decide) (by decide) (by decide) (by decide) (by decide) (by decide)), (hk 2 (by decide) (by decide) (by decide) (by decide) (by decide) (by decide) (by decide) (by decide) (by decide))]; exact l1.2 p hp
  have A3 : I2 0 3 = I2 137 1 := hof.trans hTs.symm
  have A4 : ∀ v, v < c2 1 → LandV I2 (I2 137) v := hsC
  have A5 : I2 0 11 = I2 137 2 := by rw [hT 2 (by decide) (by omega)]; rw [show I2 0 11 = I 0 11 from hob 11 (by decide)]; exact l3.1
  have A6 : ∀ v, v < c2 2 → LandM I2 (I2 137) v := fun v hv => by
    rw [e2] at hv
    have z := LandM_T (T := I 137) (T' := I2 137) (fun i a b => hT i (by omega) (by omega)) (by omega) (l3.2 v hv)
    unfold LandM at *
    rw [(hk 10 (by decide) (by decide) (by decide) (by decide) (by decide) (by decide) (by decide) (by decide) (by decide)), (hk 11 (by decide) (by decide) (by decide) (by decide) (by decide) (by decide) (by decide) (by decide) (by decide)), (hk 12 (by decide) (by decide) (by decide) (by decide) (by decide) (by decide) (by decide) (by decide) (by decide)), (hk 13 (by decide) (by decide) (by decide) (by decide) (by decide) (by decide) (by decide) (by decide) (by decide)), (hk 14 (by decide) (by decide) (by decide) (by decide) (by decide) (by decide) (by decide) (by decide) (by decide))]
    exact z
  have A7 : ∀ m, m < 40 → I2 12 m = 0 ∨ I2 12 m = 1 := fun m hm => by rw [(hk 12 (by decide) (by decide) (by decide) (by decide) (by decide) (by decide) (by decide) (by decide) (by decide))]; exact l5 m hm
  have B1 : I2 15 0 = I2 137 3 := by rw [hT 3 (by decide) (by omega)]; rw [show I2 15 = I 15 from (hk 15 (by decide) (by decide) (by decide) (by decide) (by decide) (by decide) (by decide) (by decide) (by decide))]; exact f1
  have B2 : ∀ t, t < c2 3 → ∀ n, n < 12 → I2 16 (12 * t + n) = I2 137 (650 + 12 * t + n) := fun t ht n hn => by rw [e3] at ht; rw [(hk 16 (by decide) (by decide) (by decide) (by decide) (by decide) (by decide) (by decide) (by decide) (by decide)), hT _ (by omega) (by omega)]; exact f2 t ht n hn
  have B3 : I2 15 2 = I2 137 4 := by rw [hT 4 (by decide) (by omega)]; rw [show I2 15 = I 15 from (hk 15 (by decide) (by decide) (by decide) (by decide) (by decide) (by decide) (by decide) (by decide) (by decide))]; exact f3
  have B4 : ∀ k, k < c2 4 → FolkK (fun j => I2 (15 + j)) (I2 137) k := fun k hk2 => by
    rw [e4] at hk2
    have z := FolkK_T (T := I 137) (T' := I2 137) (fun i a b => hT i (by omega) (by omega)) (by omega) (f4 k hk2)
    unfold FolkK at *
    simp only [Nat.reduceAdd] at *
    rw [(hk 17 (by decide) (by decide) (by decide) (by decide) (by decide) (by decide) (by decide) (by decide) (by decide)), (hk 18 (by decide) (by decide) (by decide) (by decide) (by decide) (by decide) (by decide) (by decide) (by decide)), (hk 19 (by decide) (by decide) (by decide) (by decide) (by decide) (by decide) (by decide) (by decide) (by decide)), (hk 20 (by decide) (by decide) (by decide) (by decide) (by decide) (by decide) (by decide) (by decide) (by decide)), (hk 21 (by decide) (by decide) (by decide) (by decide) (by decide) (by decide) (by decide) (by decide) (by decide))]
    exact z
  have B5 : ∀ k, k < 8 → (I2 19 k = 0 ∨ I2 19 k = 1) ∧ (I2 20 k = 0 ∨ I2 20 k = 1) := fun k hk2 => by rw [(hk 19 (by decide) (by decide) (by decide) (by decide) (by decide) (by decide) (by decide) (by decide) (by decide)), (hk 20 (by decide) (by decide) (by decide) (by decide) (by decide) (by decide) (by decide) (by decide) (by decide))]; exact f5 k hk2
  have C1 : I2 22 0 = I2 137 5 := by rw [hT 5 (by decide) (by omega)]; rw [show I2 22 = I 22 from (hk 22 (by decide) (by decide) (by decide) (by decide) (by decide) (by decide) (by decide) (by decide) (by decide))]; exact g1
  have C2 : ∀ z, z < c2 5 → BookZ (fun j => I2 (22 + j)) (I2 137) z := fun k hk2 => by
    rw [e5] at hk2
    have z := BookZ_T (T := I 137) (T' := I2 137) (fun i a b => hT i (by omega) (by omega)) (by omega) (g2 k hk2)
    unfold BookZ at *
    simp only [Nat.reduceAdd] at *
    rw [(hk 23 (by decide) (by decide) (by decide) (by decide) (by decide) (by decide) (by decide) (by decide) (by decide)), (hk 24 (by decide) (by decide) (by decide) (by decide) (by decide) (by decide) (by decide) (by decide) (by decide)), (hk 25 (by decide) (by decide) (by decide) (by decide) (by decide) (by decide) (by decide) (by decide) (by decide)), (hk 26 (by decide) (by decide) (by decide) (by decide) (by decide) (by decide) (by decide) (by decide) (by decide))]
    exact z
  have C3 : I2 22 5 = I2 137 6 := by rw [hT 6 (by decide) (by omega)]; rw [show I2 22 = I 22 from (hk 22 (by decide) (by decide) (by decide) (by decide) (by decide) (by decide) (by decide) (by decide) (by decide))]; exact g3
  have C4 : ∀ z, z < c2 6 → BookK (fun j => I2 (22 + j)) (I2 137) z := fun k hk2 => by
    rw [e6] at hk2
    have z := BookK_T (T := I 137) (T' := I2 137) (fun i a b => hT i (by omega) (by omega)) (by omega) (g4 k hk2)
    unfold BookK at *
    simp only [Nat.reduceAdd] at *
    rw [(hk 27 (by decide) (by decide) (by decide) (by decide) (by decide) (by decide) (by decide) (by decide) (by decide)), (hk 28 (by decide) (by decide) (by decide) (by decide) (by decide) (by decide) (by decide) (by decide) (by decide)), (hk 29 (by decide) (by decide) (by decide) (by decide) (by decide) (by decide) (by decide) (by decide) (by decide)), (hk 30 (by decide) (by decide) (by decide) (by decide) (by decide) (by decide) (by decide) (by decide) (by decide)), (hk 31 (by decide) (by decide) (by decide) (by decide) (by decide) (by decide) (by decide) (by decide) (by decide))]
    exact z
  exact Inv_up q hI h63 h4 hL ⟨W1, W2, W3, W4, W5, W6, W7, W8⟩ ⟨⟨A1, A2⟩, ⟨A3, A4⟩, ⟨A5, A6⟩, A7⟩ ⟨⟨B1, B2⟩, ⟨B3, B4⟩, B5⟩ ⟨⟨C1, C2⟩, ⟨C3, C4⟩⟩ hMp
theorem sec_2 (q : Inv w I L Q) (w1 : Cts (I 137) c) (hW : WfT (I 137) c) (hLd : LandR I (I 137) c) (hFo : FolkR (fun j => I (15 + j)) (I 137) c) (hBo : BookR (fun j => I (22 + j)) (I 137) c) (hMp0 : MapR I L (I 137) c)
    (hI : ∀ k, (k = 48 ∨ k = 49 ∨ k = 51 ∨ k = 121 ∨ k = 122 ∨ k = 138 ∨ k = 139 ∨ k = 144 ∨ k = 160 ∨ k = 161 ∨ (128 ≤ k ∧ k < 136) ∨ 165 ≤ k) → I2 k = I k) (h63 : ∀ i, i = 10 ∨ i = 18 ∨ i = 19 → I2 163 i = I 163 i) (h4 : I2 163 4 = -1) (hL : ∀ k, (k = 50 ∨ k = 52 ∨ (128 ≤ k ∧ k < 136) ∨ k = 162) → L2 k = L k)
    (hc : ∀ i, i < 7 → i ≠ 2 → c2 i = c i) (hc1 : c 2 ≤ c2 2) (hc2 : c2 2 ≤ mx 2) (hT : ∀ i, i ≠ 2 → ¬ (450 ≤ i ∧ i < 650) → I2 137 i = I 137 i) (hTs : I2 137 2 = nI (c2 2)) (hk : ∀ k, k < 32 → k ≠ 10 → k ≠ 11 → k ≠ 12 → k ≠ 13 → k ≠ 14 → k ≠ 0 → I2 k = I k) (hob : ∀ f, f ≠ 11 → I2 0 f = I 0 f) (hof : I2 0 11 = nI (c2 2))
    (hsW : ∀ j, j < c2 2 → WfM (I2 137) c2 j) (hsC : ∀ j, j < c2 2 → LandM I2 (I2 137) j) (hs01 : ∀ m, m < 40 → I2 12 m = 0 ∨ I2 12 m = 1) (hMp : MapR I2 L2 (I2 137) c2) : Inv w I2 L2 Q := by
  obtain ⟨-, w2, w3, w4, w5, w6, w7, w8⟩ := hW
  obtain ⟨l1, l2, l3, l5⟩ := hLd
  obtain ⟨⟨f1, f2⟩, ⟨f3, f4⟩, f5⟩ := hFo
  obtain ⟨⟨g1, g2⟩, ⟨g3, g4⟩⟩ := hBo
  have k0 := (w1 0 (by decide)).2
  have k1 := (w1 1 (by decide)).2
  have k2 := (w1 2 (by decide)).2
  have k3 := (w1 3 (by decide)).2
  have k4 := (w1 4 (by decide)).2
  have k5 := (w1 5 (by decide)).2
  have k6 := (w1 6 (by decide)).2
  simp only [mx] at k0 k1 k2 k3 k4 k5 k6 hc2
  have e0 : c2 0 = c 0 := hc 0 (by decide) (by decide)
  have m0 : c 0 ≤ c2 0 := Nat.le_of_eq e0.symm
  have e1 : c2 1 = c 1 := hc 1 (by decide) (by decide)
  have m1 : c 1 ≤ c2 1 := Nat.le_of_eq e1.symm
  have m2 : c 2 ≤ c2 2 := hc1
  have e3 : c2 3 = c 3 := hc 3 (by decide) (by decide)
  have m3 : c 3 ≤ c2 3 := Nat.le_of_eq e3.symm
  have e4 : c2 4 = c 4 := hc 4 (by decide) (by decide)
  have m4 : c 4 ≤ c2 4 := Nat.le_of_eq e4.symm
  have e5 : c2 5 = c 5 := hc 5 (by decide) (by decide)
  have m5 : c 5 ≤ c2 5 := Nat.le_of_eq e5.symm
  have e6 : c2 6 = c 6 := hc 6 (by decide) (by decide)
  have m6 : c 6 ≤ c2 6 := Nat.le_of_eq e6.symm
  have hxs : Xs (I 137) (I2 137) c := fun p hp => ⟨hT _ (by omega) (by omega), hT _ (by omega) (by omega)⟩
  have W1 : Cts (I2 137) c2 := by
    intro i hi
    by_cases e : i = 2
    · subst e; exact ⟨hTs, by simp only [mx]; exact hc2⟩
    · rw [hc i hi e, hT i e (by omega)]; exact w1 i hi
  have W2 : WfP (I2 137) c2 := by
    refine ⟨fun p hp => ?_, fun p r hp hr z1 z2 => ?_⟩
    · rw [e0] at hp; rw [(hxs p hp).1, (hxs p hp).2]; exact w2.1 p hp
    · rw [e0] at hp hr; rw [(hxs p hp).1, (hxs r hr).1] at z1; rw [(hxs p hp).2, (hxs r hr).2] at z2; exact w2.2 p r hp hr z1 z2
  have W3 : ∀ v, v < c2 1 → WfV (I2 137) c2 v := fun v hv => by rw [e1] at hv; exact WfV_T (T := I 137) (fun i a b => hT i (by omega) (by omega)) (by omega) m0 (w3 v hv)
  have W4 : ∀ v, v < c2 2 → WfM (I2 137) c2 v := hsW
  have W5 : ∀ v, v < c2 3 → WfU (I2 137) v := fun v hv => by rw [e3] at hv; exact WfU_T (T := I 137) (fun i a b => hT i (by omega) (by omega)) (by omega) (w5 v hv)
  have W6 : ∀ v, v < c2 4 → WfK (I2 137) c2 v := fun v hv => by rw [e4] at hv; exact WfK_T (T := I 137) (fun i a b => hT i (by omega) (by omega)) (by omega) m3 (w6 v hv)
  have W7 : ∀ v, v < c2 5 → WfZ (I2 137) c2 v := fun v hv => by rw [e5] at hv; exact WfZ_T (T := I 137) (fun i a b => hT i (by omega) (by omega)) (by omega) m0 (w7 v hv)
  have W8 : ∀ v, v < c2 6 → WfR (I2 137) c2 v := fun v hv => by rw [e6] at hv; exact WfR_T (T := I 137) (fun i a b => hT i (by omega) (by omega)) (by omega) m0 m1 m4 m5 (w8 v hv)
  have A1 : I2 0 0 = I2 137 0 := by rw [hT 0 (by decide) (by omega)]; rw [show I2 0 0 = I 0 0 from hob 0 (by decide)]; exact l1.1
  have A2 : ∀ p, p < c2 0 → I2 1 p = I2 137 (10 + 2 * p) ∧ I2 2 p = I2 137 (11 + 2 * p) := fun p hp => by rw [e0] at hp; rw [(hxs p hp).1, (hxs p hp).2, (hk 1 (by decide) (by decide) (by decide) (by decide) (by decide) (by decide) (by decide)), (hk 2 (by decide) (by decide) (by decide) (by decide) (by decide) (by decide) (by decide))]; exact l1.2 p hp
  have A3 : I2 0 3 = I2 137 1 := by rw [hT 1 (by decide) (by omega)]; rw [show I2 0 3 = I 0 3 from hob 3 (by decide)]; exact l2.1
  have A4 : ∀ v, v < c2 1 → LandV I2 (I2 137) v := fun v hv => by
    rw [e1] at hv
    have z := LandV_T (T := I 137) (T' := I2 137) (fun i a b => hT i (by omega) (by omega)) hxs (by omega) (by omega) (w3 v hv) (l2.2 v hv)
    unfold LandV at *
    rw [(hk 3 (by decide) (by decide) (by decide) (by decide) (by decide) (by decide) (by decide)), (hk 4 (by decide) (by decide) (by decide) (by decide) (by decide) (by decide) (by decide)), (hk 5 (by decide) (by decide) (by decide) (by decide) (by decide) (by decide) (by decide)), (hk 6 (by decide) (by decide) (by decide) (by decide) (by decide) (by decide) (by decide)), (hk 7 (by decide) (by decide) (by decide) (by decide) (by decide) (by decide) (by decide)), (hk 8 (by decide) (by decide) (by decide) (by decide) (by decide) (by decide) (by decide)), (hk 9 (by decide) (by decide) (by decide) (by decide) (by decide) (by decide) (by decide))]
    exact z
  have A5 : I2 0 11 = I2 137 2 := hof.trans hTs.symm
  have A6 : ∀ v, v < c2 2 → LandM I2 (I2 137) v := hsC
  have A7 : ∀ m, m < 40 → I2 12 m = 0 ∨ I2 12 m = 1 := hs01
  have B1 : I2 15 0 = I2 137 3 := by rw [hT 3 (by decide) (by omega)]; rw [show I2 15 = I 15 from (hk 15 (by decide) (by decide) (by decide) (by decide) (by decide) (by decide) (by decide))]; exact f1
  have B2 : ∀ t, t < c2 3 → ∀ n, n < 12 → I2 16 (12 * t + n) = I2 137 (650 + 12 * t + n) := fun t ht n hn => by rw [e3] at ht; rw [(hk 16 (by decide) (by decide) (by decide) (by decide) (by decide) (by decide) (by decide)), hT _ (by omega) (by omega)]; exact f2 t ht n hn
  have B3 : I2 15 2 = I2 137 4 := by rw [hT 4 (by decide) (by omega)]; rw [show I2 15 = I 15 from (hk 15 (by decide) (by decide) (by decide) (by decide) (by decide) (by decide) (by decide))]; exact f3
  have B4 : ∀ k, k < c2 4 → FolkK (fun j => I2 (15 + j)) (I2 137) k := fun k hk2 => by
    rw [e4] at hk2
    have z := FolkK_T (T := I 137) (T' := I2 137) (fun i a b => hT i (by omega) (by omega)) (by omega) (f4 k hk2)
    unfold FolkK at *
    simp only [Nat.reduceAdd] at *
    rw [(hk 17 (by decide) (by decide) (by decide) (by decide) (by decide) (by decide) (by decide)), (hk 18 (by decide) (by decide) (by decide) (by decide) (by decide) (by decide) (by decide)), (hk 19 (by decide) (by decide) (by decide) (by decide) (by decide) (by decide) (by decide)), (hk 20 (by decide) (by decide) (by decide) (by decide) (by decide) (by decide) (by decide)), (hk 21 (by decide) (by decide) (by decide) (by decide) (by decide) (by decide) (by decide))]
    exact z
  have B5 : ∀ k, k < 8 → (I2 19 k = 0 ∨ I2 19 k = 1) ∧ (I2 20 k = 0 ∨ I2 20 k = 1) := fun k hk2 => by rw [(hk 19 (by decide) (by decide) (by decide) (by decide) (by decide) (by decide) (by decide)), (hk 20 (by decide) (by decide) (by decide) (by decide) (by decide) (by decide) (by decide))]; exact f5 k hk2
  have C1 : I2 22 0 = I2 137 5 := by rw [hT 5 (by decide) (by omega)]; rw [show I2 22 = I 22 from (hk 22 (by decide) (by decide) (by decide) (by decide) (by decide) (by decide) (by decide))]; exact g1
  have C2 : ∀ z, z < c2 5 → BookZ (fun j => I2 (22 + j)) (I2 137) z := fun k hk2 => by
    rw [e5] at hk2
    have z := BookZ_T (T := I 137) (T' := I2 137) (fun i a b => hT i (by omega) (by omega)) (by omega) (g2 k hk2)
    unfold BookZ at *
    simp only [Nat.reduceAdd] at *
    rw [(hk 23 (by decide) (by decide) (by decide) (by decide) (by decide) (by decide) (by decide)), (hk 24 (by decide) (by decide) (by decide) (by decide) (by decide) (by decide) (by decide)), (hk 25 (by decide) (by decide) (by decide) (by decide) (by decide) (by decide) (by decide)), (hk 26 (by decide) (by decide) (by decide) (by decide) (by decide) (by decide) (by decide))]
    exact z
  have C3 : I2 22 5 = I2 137 6 := by rw [hT 6 (by decide) (by omega)]; rw [show I2 22 = I 22 from (hk 22 (by decide) (by decide) (by decide) (by decide) (by decide) (by decide) (by decide))]; exact g3
  have C4 : ∀ z, z < c2 6 → BookK (fun j => I2 (22 + j)) (I2 137) z := fun k hk2 => by
    rw [e6] at hk2
    have z := BookK_T (T := I 137) (T' := I2 137) (fun i a b => hT i (by omega) (by omega)) (by omega) (g4 k hk2)
    unfold BookK at *
    simp only [Nat.reduceAdd] at *
    rw [(hk 27 (by decide) (by decide) (by decide) (by decide) (by decide) (by decide) (by decide)), (hk 28 (by decide) (by decide) (by decide) (by decide) (by decide) (by decide) (by decide)), (hk 29 (by decide) (by decide) (by decide) (by decide) (by decide) (by decide) (by decide)), (hk 30 (by decide) (by decide) (by decide) (by decide) (by decide) (by decide) (by decide)), (hk 31 (by decide) (by decide) (by decide) (by decide) (by decide) (by decide) (by decide))]
    exact z
  exact Inv_up q hI h63 h4 hL ⟨W1, W2, W3, W4, W5, W6, W7, W8⟩ ⟨⟨A1, A2⟩, ⟨A3, A4⟩, ⟨A5, A6⟩, A7⟩ ⟨⟨B1, B2⟩, ⟨B3, B4⟩, B5⟩ ⟨⟨C1, C2⟩, ⟨C3, C4⟩⟩ hMp
theorem sec_3 (q : Inv w I L Q) (w1 : Cts (I 137) c) (hW : WfT (I 137) c) (hLd : LandR I (I 137) c) (hFo : FolkR (fun j => I (15 + j)) (I 137) c) (hBo : BookR (fun j => I (22 + j)) (I 137) c) (hMp0 : MapR I L (I 137) c)
    (hI : ∀ k, (k = 48 ∨ k = 49 ∨ k = 51 ∨ k = 121 ∨ k = 122 ∨ k = 138 ∨ k = 139 ∨ k = 144 ∨ k = 160 ∨ k = 161 ∨ (128 ≤ k ∧ k < 136) ∨ 165 ≤ k) → I2 k = I k) (h63 : ∀ i, i = 10 ∨ i = 18 ∨ i = 19 → I2 163 i = I 163 i) (h4 : I2 163 4 = -1) (hL : ∀ k, (k = 50 ∨ k = 52 ∨ (128 ≤ k ∧ k < 136) ∨ k = 162) → L2 k = L k)
    (hc : ∀ i, i < 7 → i ≠ 3 → c2 i = c i) (hc1 : c 3 ≤ c2 3) (hc2 : c2 3 ≤ mx 3) (hT : ∀ i, i ≠ 3 → ¬ (650 ≤ i ∧ i < 722) → I2 137 i = I 137 i) (hTs : I2 137 3 = nI (c2 3)) (hk : ∀ k, k < 32 → k ≠ 16 → k ≠ 15 → I2 k = I k) (hob : ∀ f, f ≠ 0 → I2 15 f = I 15 f) (hof : I2 15 0 = nI (c2 3))
    (hsW : ∀ j, j < c2 3 → WfU (I2 137) j) (hsC : ∀ j, j < c2 3 → ∀ n, n < 12 → I2 16 (12 * j + n) = I2 137 (650 + 12 * j + n)) (h32 : I2 32 = I 32) (h38 : I2 38 = I 38) (hL3 : ∀ k, 32 ≤ k → k < 40 → L2 k = L k) : Inv w I2 L2 Q := by
  obtain ⟨-, w2, w3, w4, w5, w6, w7, w8⟩ := hW
  obtain ⟨l1, l2, l3, l5⟩ := hLd
  obtain ⟨⟨f1, f2⟩, ⟨f3, f4⟩, f5⟩ := hFo
  obtain ⟨⟨g1, g2⟩, ⟨g3, g4⟩⟩ := hBo
  have k0 := (w1 0 (by decide)).2
  have k1 := (w1 1 (by decide)).2
  have k2 := (w1 2 (by decide)).2
  have k3 := (w1 3 (by decide)).2
  have k4 := (w1 4 (by decide)).2
  have k5 := (w1 5 (by decide)).2
  have k6 := (w1 6 (by decide)).2
  simp only [mx] at k0 k1 k2 k3 k4 k5 k6 hc2
  have e0 : c2 0 = c 0 := hc 0 (by decide) (by decide)
  have m0 : c 0 ≤ c2 0 := Nat.le_of_eq e0.symm
  have e1 : c2 1 = c 1 := hc 1 (by decide) (by decide)
  have m1 : c 1 ≤ c2 1 := Nat.le_of_eq e1.symm
  have e2 : c2 2 = c 2 := hc 2 (by decide) (by decide)
  have m2 : c 2 ≤ c2 2 := Nat.le_of_eq e2.symm
  have m3 : c 3 ≤ c2 3 := hc1
  have e4 : c2 4 = c 4 := hc 4 (by decide) (by decide)
  have m4 : c 4 ≤ c2 4 := Nat.le_of_eq e4.symm
  have e5 : c2 5 = c 5 := hc 5 (by decide) (by decide)
  have m5 : c 5 ≤ c2 5 := Nat.le_of_eq e5.symm
  have e6 : c2 6 = c 6 := hc 6 (by decide) (by decide)
  have m6 : c 6 ≤ c2 6 := Nat.le_of_eq e6.symm
  have hxs : Xs (I 137) (I2 137) c := fun p hp => ⟨hT _ (by omega) (by omega), hT _ (by omega) (by omega)⟩
  have W1 : Cts (I2 137) c2 := by
    intro i hi
    by_cases e : i = 3
    · subst e; exact ⟨hTs, by simp only [mx]; exact hc2⟩
    · rw [hc i hi e, hT i e (by omega)]; exact w1 i hi
  have W2 : WfP (I2 137) c2 := by
    refine ⟨fun p hp => ?_, fun p r hp hr z1 z2 => ?_⟩
    · rw [e0] at hp; rw [(hxs p hp).1, (hxs p hp).2]; exact w2.1 p hp
    · rw [e0] at hp hr; rw [(hxs p hp).1, (hxs r hr).1] at z1; rw [(hxs p hp).2, (hxs r hr).2] at z2; exact w2.2 p r hp hr z1 z2
  have W3 : ∀ v, v < c2 1 → WfV (I2 137) c2 v := fun v hv => by rw [e1] at hv; exact WfV_T (T := I 137) (fun i a b => hT i (by omega) (by omega)) (by omega) m0 (w3 v hv)
  have W4 : ∀ v, v < c2 2 → WfM (I2 137) c2 v := fun v hv => by rw [e2] at hv; exact WfM_T (T := I 137) (fun i a b => hT i (by omega) (by omega)) (by omega) m0 (w4 v hv)
  have W5 : ∀ v, v < c2 3 → WfU (I2 137) v := hsW
  have W6 : ∀ v, v < c2 4 → WfK (I2 137) c2 v := fun v hv => by rw [e4] at hv; exact WfK_T (T := I 137) (fun i a b => hT i (by omega) (by omega)) (by omega) m3 (w6 v hv)
  have W7 : ∀ v, v < c2 5 → WfZ (I2 137) c2 v := fun v hv => by rw [e5] at hv; exact WfZ_T (T := I 137) (fun i a b => hT i (by omega) (by omega)) (by omega) m0 (w7 v hv)
  have W8 : ∀ v, v < c2 6 → WfR (I2 137) c2 v := fun v hv => by rw [e6] at hv; exact WfR_T (T := I 137) (fun i a b => hT i (by omega) (by omega)) (by omega) m0 m1 m4 m5 (w8 v hv)
  have A1 : I2 0 0 = I2 137 0 := by rw [hT 0 (by decide) (by omega)]; rw [show I2 0 = I 0 from (hk 0 (by decide) (by decide) (by decide))]; exact l1.1
  have A2 : ∀ p, p < c2 0 → I2 1 p = I2 137 (10 + 2 * p) ∧ I2 2 p = I2 137 (11 + 2 * p) := fun p hp => by rw [e0] at hp; rw [(hxs p hp).1, (hxs p hp).2, (hk 1 (by decide) (by decide) (by decide)), (hk 2 (by decide) (by decide) (by decide))]; exact l1.2 p hp
  have A3 : I2 0 3 = I2 137 1 := by rw [hT 1 (by decide) (by omega)]; rw [show I2 0 = I 0 from (hk 0 (by decide) (by decide) (by decide))]; exact l2.1
  have A4 : ∀ v, v < c2 1 → LandV I2 (I2 137) v := fun v hv => by
    rw [e1] at hv
    have z := LandV_T (T := I 137) (T' := I2 137) (fun i a b => hT i (by omega) (by omega)) hxs (by omega) (by omega) (w3 v hv) (l2.2 v hv)
    unfold LandV at *
    rw [(hk 3 (by decide) (by decide) (by decide)), (hk 4 (by decide) (by decide) (by decide)), (hk 5 (by decide) (by decide) (by decide)), (hk 6 (by decide) (by decide) (by decide)), (hk 7 (by decide) (by decide) (by decide)), (hk 8 (by decide) (by decide) (by decide)), (hk 9 (by decide) (by decide) (by decide))]
    exact z
  have A5 : I2 0 11 = I2 137 2 := by rw [hT 2 (by decide) (by omega)]; rw [show I2 0 = I 0 from (hk 0 (by decide) (by decide) (by decide))]; exact l3.1
  have A6 : ∀ v, v < c2 2 → LandM I2 (I2 137) v := fun v hv => by
    rw [e2] at hv
    have z := LandM_T (T := I 137) (T' := I2 137) (fun i a b => hT i (by omega) (by omega)) (by omega) (l3.2 v hv)
    unfold LandM at *
    rw [(hk 10 (by decide) (by decide) (by decide)), (hk 11 (by decide) (by decide) (by decide)), (hk 12 (by decide) (by decide) (by decide)), (hk 13 (by decide) (by decide) (by decide)), (hk 14 (by decide) (by decide) (by decide))]
    exact z
  have A7 : ∀ m, m < 40 → I2 12 m = 0 ∨ I2 12 m = 1 := fun m hm => by rw [(hk 12 (by decide) (by decide) (by decide))]; exact l5 m hm
  have B1 : I2 15 0 = I2 137 3 := hof.trans hTs.symm
  have B2 : ∀ t, t < c2 3 → ∀ n, n < 12 → I2 16 (12 * t + n) = I2 137 (650 + 12 * t + n) := hsC
  have B3 : I2 15 2 = I2 137 4 := by rw [hT 4 (by decide) (by omega)]; rw [show I2 15 2 = I 15 2 from hob 2 (by decide)]; exact f3
  have B4 : ∀ k, k < c2 4 → FolkK (fun j => I2 (15 + j)) (I2 137) k := fun k hk2 => by
    rw [e4] at hk2
    have z := FolkK_T (T := I 137) (T' := I2 137) (fun i a b => hT i (by omega) (by omega)) (by omega) (f4 k hk2)
    unfold FolkK at *
    simp only [Nat.reduceAdd] at *
    rw [(hk 17 (by decide) (by decide) (by decide)), (hk 18 (by decide) (by decide) (by decide)), (hk 19 (by decide) (by decide) (by decide)), (hk 20 (by decide) (by decide) (by decide)), (hk 21 (by decide) (by decide) (by decide))]
    exact z
  have B5 : ∀ k, k < 8 → (I2 19 k = 0 ∨ I2 19 k = 1) ∧ (I2 20 k = 0 ∨ I2 20 k = 1) := fun k hk2 => by rw [(hk 19 (by decide) (by decide) (by decide)), (hk 20 (by decide) (by decide) (by decide))]; exact f5 k hk2
  have C1 : I2 22 0 = I2 137 5 := by rw [hT 5 (by decide) (by omega)]; rw [show I2 22 = I 22 from (hk 22 (by decide) (by decide) (by decide))]; exact g1
  have C2 : ∀ z, z < c2 5 → BookZ (fun j => I2 (22 + j)) (I2 137) z := fun k hk2 => by
    rw [e5] at hk2
    have z := BookZ_T (T := I 137) (T' := I2 137) (fun i a b => hT i (by omega) (by omega)) (by omega) (g2 k hk2)
    unfold BookZ at *
    simp only [Nat.reduceAdd] at *
    rw [(hk 23 (by decide) (by decide) (by decide)), (hk 24 (by decide) (by decide) (by decide)), (hk 25 (by decide) (by decide) (by decide)), (hk 26 (by decide) (by decide) (by decide))]
    exact z
  have C3 : I2 22 5 = I2 137 6 := by rw [hT 6 (by decide) (by omega)]; rw [show I2 22 = I 22 from (hk 22 (by decide) (by decide) (by decide))]; exact g3
  have C4 : ∀ z, z < c2 6 → BookK (fun j => I2 (22 + j)) (I2 137) z := fun k hk2 => by
    rw [e6] at hk2
    have z := BookK_T (T := I 137) (T' := I2 137) (fun i a b => hT i (by omega) (by omega)) (by omega) (g4 k hk2)
    unfold BookK at *
    simp only [Nat.reduceAdd] at *
    rw [(hk 27 (by decide) (by decide) (by decide)), (hk 28 (by decide) (by decide) (by decide)), (hk 29 (by decide) (by decide) (by decide)), (hk 30 (by decide) (by decide) (by decide)), (hk 31 (by decide) (by decide) (by decide))]
    exact z
  have hMp : MapR I2 L2 (I2 137) c2 := MapR_c (I := I) (L := L) h32 h38 hL3 (MapR_T (c := c) (fun i a b => hT i (by omega) (by omega)) hxs k0 e1 k1 e2 k2 w3 hMp0)
  exact Inv_up q hI h63 h4 hL ⟨W1, W2, W3, W4, W5, W6, W7, W8⟩ ⟨⟨A1, A2⟩, ⟨A3, A4⟩, ⟨A5, A6⟩, A7⟩ ⟨⟨B1, B2⟩, ⟨B3, B4⟩, B5⟩ ⟨⟨C1, C2⟩, ⟨C3, C4⟩⟩ hMp
theorem sec_4 (q : Inv w I L Q) (w1 : Cts (I 137) c) (hW : WfT (I 137) c) (hLd : LandR I (I 137) c) (hFo : FolkR (fun j => I (15 + j)) (I 137) c) (hBo : BookR (fun j => I (22 + j)) (I 137) c) (hMp0 : MapR I L (I 137) c)
    (hI : ∀ k, (k = 48 ∨ k = 49 ∨ k = 51 ∨ k = 121 ∨ k = 122 ∨ k = 138 ∨ k = 139 ∨ k = 144 ∨ k = 160 ∨ k = 161 ∨ (128 ≤ k ∧ k < 136) ∨ 165 ≤ k) → I2 k = I k) (h63 : ∀ i, i = 10 ∨ i = 18 ∨ i = 19 → I2 163 i = I 163 i) (h4 : I2 163 4 = -1) (hL : ∀ k, (k = 50 ∨ k = 52 ∨ (128 ≤ k ∧ k < 136) ∨ k = 162) → L2 k = L k)
    (hc : ∀ i, i < 7 → i ≠ 4 → c2 i = c i) (hc1 : c 4 ≤ c2 4) (hc2 : c2 4 ≤ mx 4) (hT : ∀ i, i ≠ 4 → ¬ (722 ≤ i ∧ i < 762) → I2 137 i = I 137 i) (hTs : I2 137 4 = nI (c2 4)) (hk : ∀ k, k < 32 → k ≠ 17 → k ≠ 18 → k ≠ 19 → k ≠ 20 → k ≠ 21 → k ≠ 15 → I2 k = I k) (hob : ∀ f, f ≠ 2 → I2 15 f = I 15 f) (hof : I2 15 2 = nI (c2 4))
    (hsW : ∀ j, j < c2 4 → WfK (I2 137) c2 j) (hsC : ∀ j, j < c2 4 → FolkK (fun j => I2 (15 + j)) (I2 137) j) (hs01 : ∀ k, k < 8 → (I2 19 k = 0 ∨ I2 19 k = 1) ∧ (I2 20 k = 0 ∨ I2 20 k = 1)) (h32 : I2 32 = I 32) (h38 : I2 38 = I 38) (hL3 : ∀ k, 32 ≤ k → k < 40 → L2 k = L k) : Inv w I2 L2 Q := by
  obtain ⟨-, w2, w3, w4, w5, w6, w7, w8⟩ := hW
  obtain ⟨l1, l2, l3, l5⟩ := hLd
  obtain ⟨⟨f1, f2⟩, ⟨f3, f4⟩, f5⟩ := hFo
  obtain ⟨⟨g1, g2⟩, ⟨g3, g4⟩⟩ := hBo
  have k0 := (w1 0 (by decide)).2
  have k1 := (w1 1 (by decide)).2
  have k2 := (w1 2 (by decide)).2
  have k3 := (w1 3 (by decide)).2
  have k4 := (w1 4 (by decide)).2
  have k5 := (w1 5 (by decide)).2
  have k6 := (w1 6 (by decide)).2
  simp only [mx] at k0 k1 k2 k3 k4 k5 k6 hc2
  have e0 : c2 0 = c 0 := hc 0 (by decide) (by decide)
  have m0 : c 0 ≤ c2 0 := Nat.le_of_eq e0.symm
  have e1 : c2 1 = c 1 := hc 1 (by decide) (by decide)
  have m1 : c 1 ≤ c2 1 := Nat.le_of_eq e1.symm
  have e2 : c2 2 = c 2 := hc 2 (by decide) (by decide)
  have m2 : c 2 ≤ c2 2 := Nat.le_of_eq e2.symm
  have e3 : c2 3 = c 3 := hc 3 (by decide) (by decide)
  have m3 : c 3 ≤ c2 3 := Nat.le_of_eq e3.symm
  have m4 : c 4 ≤ c2 4 := hc1
  have e5 : c2 5 = c 5 := hc 5 (by decide) (by decide)
  have m5 : c 5 ≤ c2 5 := Nat.le_of_eq e5.symm
  have e6 : c2 6 = c 6 := hc 6 (by decide) (by decide)
  have m6 : c 6 ≤ c2 6 := Nat.le_of_eq e6.symm
  have hxs : Xs (I 137) (I2 137) c := fun p hp => ⟨hT _ (by omega) (by omega), hT _ (by omega) (by omega)⟩
  have W1 : Cts (I2 137) c2 := by
    intro i hi
    by_cases e : i = 4
    · subst e; exact ⟨hTs, by simp only [mx]; exact hc2⟩
    · rw [hc i hi e, hT i e (by omega)]; exact w1 i hi
  have W2 : WfP (I2 137) c2 := by
    refine ⟨fun p hp => ?_, fun p r hp hr z1 z2 => ?_⟩
    · rw [e0] at hp; rw [(hxs p hp).1, (hxs p hp).2]; exact w2.1 p hp
    · rw [e0] at hp hr; rw [(hxs p hp).1, (hxs r hr).1] at z1; rw [(hxs p hp).2, (hxs r hr).2] at z2; exact w2.2 p r hp hr z1 z2
  have W3 : ∀ v, v < c2 1 → WfV (I2 137) c2 v := fun v hv => by rw [e1] at hv; exact WfV_T (T := I 137) (fun i a b => hT i (by omega) (by omega)) (by omega) m0 (w3 v hv)
  have W4 : ∀ v, v < c2 2 → WfM (I2 137) c2 v := fun v hv => by rw [e2] at hv; exact WfM_T (T := I 137) (fun i a b => hT i (by omega) (by omega)) (by omega) m0 (w4 v hv)
  have W5 : ∀ v, v < c2 3 → WfU (I2 137) v := fun v hv => by rw [e3] at hv; exact WfU_T (T := I 137) (fun i a b => hT i (by omega) (by omega)) (by omega) (w5 v hv)
  have W6 : ∀ v, v < c2 4 → WfK (I2 137) c2 v := hsW
  have W7 : ∀ v, v < c2 5 → WfZ (I2 137) c2 v := fun v hv => by rw [e5] at hv; exact WfZ_T (T := I 137) (fun i a b => hT i (by omega) (by omega)) (by omega) m0 (w7 v hv)
  have W8 : ∀ v, v < c2 6 → WfR (I2 137) c2 v := fun v hv => by rw [e6] at hv; exact WfR_T (T := I 137) (fun i a b => hT i (by omega) (by omega)) (by omega) m0 m1 m4 m5 (w8 v hv)
  have A1 : I2 0 0 = I2 137 0 := by rw [hT 0 (by decide) (by omega)]; rw [show I2 0 = I 0 from (hk 0 (by decide) (by decide) (by decide) (by decide) (by decide) (by decide) (by decide))]; exact l1.1
  have A2 : ∀ p, p < c2 0 → I2 1 p = I2 137 (10 + 2 * p) ∧ I2 2 p = I2 137 (11 + 2 * p) := fun p hp => by rw [e0] at hp; rw [(hxs p hp).1, (hxs p hp).2, (hk 1 (by decide) (by decide) (by decide) (by decide) (by decide) (by decide) (by decide)), (hk 2 (by decide) (by decide) (by decide) (by decide) (by decide) (by decide) (by decide))]; exact l1.2 p hp
  have A3 : I2 0 3 = I2 137 1 := by rw [hT 1 (by decide) (by omega)]; rw [show I2 0 = I 0 from (hk 0 (by decide) (by decide) (by decide) (by decide) (by decide) (by decide) (by decide))]; exact l2.1
  have A4 : ∀ v, v < c2 1 → LandV I2 (I2 137) v := fun v hv => by
    rw [e1] at hv
    have z := LandV_T (T := I 137) (T' := I2 137) (fun i a b => hT i (by omega) (by omega)) hxs (by omega) (by omega) (w3 v hv) (l2.2 v hv)
    unfold LandV at *
    rw [(hk 3 (by decide) (by decide) (by decide) (by decide) (by decide) (by decide) (by decide)), (hk 4 (by decide) (by decide) (by decide) (by decide) (by decide) (by decide) (by decide)), (hk 5 (by decide) (by decide) (by decide) (by decide) (by decide) (by decide) (by decide)), (hk 6 (by decide) (by decide) (by decide) (by decide) (by decide) (by decide) (by decide)), (hk 7 (by decide) (by decide) (by decide) (by decide) (by decide) (by decide) (by decide)), (hk 8 (by decide) (by decide) (by decide) (by decide) (by decide) (by decide) (by decide)), (hk 9 (by decide) (by decide) (by decide) (by decide) (by decide) (by decide) (by decide))]
    exact z
  have A5 : I2 0 11 = I2 137 2 := by rw [hT 2 (by decide) (by omega)]; rw [show I2 0 = I 0 from (hk 0 (by decide) (by decide) (by decide) (by decide) (by decide) (by decide) (by decide))]; exact l3.1
  have A6 : ∀ v, v < c2 2 → LandM I2 (I2 137) v := fun v hv => by
    rw [e2] at hv
    have z := LandM_T (T := I 137) (T' := I2 137) (fun i a b => hT i (by omega) (by omega)) (by omega) (l3.2 v hv)
    unfold LandM at *
    rw [(hk 10 (by decide) (by decide) (by decide) (by decide) (by decide) (by decide) (by decide)), (hk 11 (by decide) (by decide) (by decide) (by decide) (by decide) (by decide) (by decide)), (hk 12 (by decide) (by decide) (by decide) (by decide) (by decide) (by decide) (by decide)), (hk 13 (by decide) (by decide) (by decide) (by decide) (by decide) (by decide) (by decide)), (hk 14 (by decide) (by decide) (by decide) (by decide) (by decide) (by decide) (by decide))]
    exact z
  have A7 : ∀ m, m < 40 → I2 12 m = 0 ∨ I2 12 m = 1 := fun m hm => by rw [(hk 12 (by decide) (by decide) (by decide) (by decide) (by decide) (by decide) (by decide))]; exact l5 m hm
  have B1 : I2 15 0 = I2 137 3 := by rw [hT 3 (by decide) (by omega)]; rw [show I2 15 0 = I 15 0 from hob 0 (by decide)]; exact f1
  have B2 : ∀ t, t < c2 3 → ∀ n, n < 12 → I2 16 (12 * t + n) = I2 137 (650 + 12 * t + n) := fun t ht n hn => by rw [e3] at ht; rw [(hk 16 (by decide) (by decide) (by decide) (by decide) (by decide) (by decide) (by decide)), hT _ (by omega) (by omega)]; exact f2 t ht n hn
  have B3 : I2 15 2 = I2 137 4 := hof.trans hTs.symm
  have B4 : ∀ k, k < c2 4 → FolkK (fun j => I2 (15 + j)) (I2 137) k := hsC
  have B5 : ∀ k, k < 8 → (I2 19 k = 0 ∨ I2 19 k = 1) ∧ (I2 20 k = 0 ∨ I2 20 k = 1) := hs01
  have C1 : I2 22 0 = I2 137 5 := by rw [hT 5 (by decide) (by omega)]; rw [show I2 22 = I 22 from (hk 22 (by decide) (by decide) (by decide) (by decide) (by decide) (by decide) (by decide))]; exact g1
  have C2 : ∀ z, z < c2 5 → BookZ (fun j => I2 (22 + j)) (I2 137) z := fun k hk2 => by
    rw [e5] at hk2
    have z := BookZ_T (T := I 137) (T' := I2 137) (fun i a b => hT i (by omega) (by omega)) (by omega) (g2 k hk2)
    unfold BookZ at *
    simp only [Nat.reduceAdd] at *
    rw [(hk 23 (by decide) (by decide) (by decide) (by decide) (by decide) (by decide) (by decide)), (hk 24 (by decide) (by decide) (by decide) (by decide) (by decide) (by decide) (by decide)), (hk 25 (by decide) (by decide) (by decide) (by decide) (by decide) (by decide) (by decide)), (hk 26 (by decide) (by decide) (by decide) (by decide) (by decide) (by decide) (by decide))]
    exact z
  have C3 : I2 22 5 = I2 137 6 := by rw [hT 6 (by decide) (by omega)]; rw [show I2 22 = I 22 from (hk 22 (by decide) (by decide) (by decide) (by decide) (by decide) (by decide) (by decide))]; exact g3
  have C4 : ∀ z, z < c2 6 → BookK (fun j => I2 (22 + j)) (I2 137) z := fun k hk2 => by
    rw [e6] at hk2
    have z := BookK_T (T := I 137) (T' := I2 137) (fun i a b => hT i (by omega) (by omega)) (by omega) (g4 k hk2)
    unfold BookK at *
    simp only [Nat.reduceAdd] at *
    rw [(hk 27 (by decide) (by decide) (by decide) (by decide) (by decide) (by decide) (by decide)), (hk 28 (by decide) (by decide) (by decide) (by decide) (by decide) (by decide) (by decide)), (hk 29 (by decide) (by decide) (by decide) (by decide) (by decide) (by decide) (by decide)), (hk 30 (by decide) (by decide) (by decide) (by decide) (by decide) (by decide) (by decide)), (hk 31 (by decide) (by decide) (by decide) (by decide) (by decide) (by decide) (by decide))]
    exact z
  have hMp : MapR I2 L2 (I2 137) c2 := MapR_c (I := I) (L := L) h32 h38 hL3 (MapR_T (c := c) (fun i a b => hT i (by omega) (by omega)) hxs k0 e1 k1 e2 k2 w3 hMp0)
  exact Inv_up q hI h63 h4 hL ⟨W1, W2, W3, W4, W5, W6, W7, W8⟩ ⟨⟨A1, A2⟩, ⟨A3, A4⟩, ⟨A5, A6⟩, A7⟩ ⟨⟨B1, B2⟩, ⟨B3, B4⟩, B5⟩ ⟨⟨C1, C2⟩, ⟨C3, C4⟩⟩ hMp
theorem sec_5 (q : Inv w I L Q) (w1 : Cts (I 137) c) (hW : WfT (I 137) c) (hLd : LandR I (I 137) c) (hFo : FolkR (fun j => I (15 + j)) (I 137) c) (hBo : BookR (fun j => I (22 + j)) (I 137) c) (hMp0 : MapR I L (I 137) c)
    (hI : ∀ k, (k = 48 ∨ k = 49 ∨ k = 51 ∨ k = 121 ∨ k = 122 ∨ k = 138 ∨ k = 139 ∨ k = 144 ∨ k = 160 ∨ k = 161 ∨ (128 ≤ k ∧ k < 136) ∨ 165 ≤ k) → I2 k = I k) (h63 : ∀ i, i = 10 ∨ i = 18 ∨ i = 19 → I2 163 i = I 163 i) (h4 : I2 163 4 = -1) (hL : ∀ k, (k = 50 ∨ k = 52 ∨ (128 ≤ k ∧ k < 136) ∨ k = 162) → L2 k = L k)
    (hc : ∀ i, i < 7 → i ≠ 5 → c2 i = c i) (hc1 : c 5 ≤ c2 5) (hc2 : c2 5 ≤ mx 5) (hT : ∀ i, i ≠ 5 → ¬ (762 ≤ i ∧ i < 2838) → I2 137 i = I 137 i) (hTs : I2 137 5 = nI (c2 5)) (hk : ∀ k, k < 32 → k ≠ 23 → k ≠ 24 → k ≠ 25 → k ≠ 26 → k ≠ 22 → I2 k = I k) (hob : ∀ f, f ≠ 0 → I2 22 f = I 22 f) (hof : I2 22 0 = nI (c2 5))
    (hsW : ∀ j, j < c2 5 → WfZ (I2 137) c2 j) (hsC : ∀ j, j < c2 5 → BookZ (fun j => I2 (22 + j)) (I2 137) j) (h32 : I2 32 = I 32) (h38 : I2 38 = I 38) (hL3 : ∀ k, 32 ≤ k → k < 40 → L2 k = L k) : Inv w I2 L2 Q := by
  obtain ⟨-, w2, w3, w4, w5, w6, w7, w8⟩ := hW
  obtain ⟨l1, l2, l3, l5⟩ := hLd
  obtain ⟨⟨f1, f2⟩, ⟨f3, f4⟩, f5⟩ := hFo
  obtain ⟨⟨g1, g2⟩, ⟨g3, g4⟩⟩ := hBo
  have k0 := (w1 0 (by decide)).2
  have k1 := (w1 1 (by decide)).2
  have k2 := (w1 2 (by decide)).2
  have k3 := (w1 3 (by decide)).2
  have k4 := (w1 4 (by decide)).2
  have k5 := (w1 5 (by decide)).2
  have k6 := (w1 6 (by decide)).2
  simp only [mx] at k0 k1 k2 k3 k4 k5 k6 hc2
  have e0 : c2 0 = c 0 := hc 0 (by decide) (by decide)
  have m0 : c 0 ≤ c2 0 := Nat.le_of_eq e0.symm
  have e1 : c2 1 = c 1 := hc 1 (by decide) (by decide)
  have m1 : c 1 ≤ c2 1 := Nat.le_of_eq e1.symm
  have e2 : c2 2 = c 2 := hc 2 (by decide) (by decide)
  have m2 : c 2 ≤ c2 2 := Nat.le_of_eq e2.symm
  have e3 : c2 3 = c 3 := hc 3 (by decide) (by decide)
  have m3 : c 3 ≤ c2 3 := Nat.le_of_eq e3.symm
  have e4 : c2 4 = c 4 := hc 4 (by decide) (by decide)
  have m4 : c 4 ≤ c2 4 := Nat.le_of_eq e4.symm
  have m5 : c 5 ≤ c2 5 := hc1
  have e6 : c2 6 = c 6 := hc 6 (by decide) (by decide)
  have m6 : c 6 ≤ c2 6 := Nat.le_of_eq e6.symm
  have hxs : Xs (I 137) (I2 137) c := fun p hp => ⟨hT _ (by omega) (by omega), hT _ (by omega) (by omega)⟩
  have W1 : Cts (I2 137) c2 := by
    intro i hi
    by_cases e : i = 5
    · subst e; exact ⟨hTs, by simp only [mx]; exact hc2⟩
    · rw [hc i hi e, hT i e (by omega)]; exact w1 i hi
  have W2 : WfP (I2 137) c2 := by
    refine ⟨fun p hp => ?_, fun p r hp hr z1 z2 => ?_⟩
    · rw [e0] at hp; rw [(hxs p hp).1, (hxs p hp).2]; exact w2.1 p hp
    · rw [e0] at hp hr; rw [(hxs p hp).1, (hxs r hr).1] at z1; rw [(hxs p hp).2, (hxs r hr).2] at z2; exact w2.2 p r hp hr z1 z2
  have W3 : ∀ v, v < c2 1 → WfV (I2 137) c2 v := fun v hv => by rw [e1] at hv; exact WfV_T (T := I 137) (fun i a b => hT i (by omega) (by omega)) (by omega) m0 (w3 v hv)
  have W4 : ∀ v, v < c2 2 → WfM (I2 137) c2 v := fun v hv => by rw [e2] at hv; exact WfM_T (T := I 137) (fun i a b => hT i (by omega) (by omega)) (by omega) m0 (w4 v hv)
  have W5 : ∀ v, v < c2 3 → WfU (I2 137) v := fun v hv => by rw [e3] at hv; exact WfU_T (T := I 137) (fun i a b => hT i (by omega) (by omega)) (by omega) (w5 v hv)
  have W6 : ∀ v, v < c2 4 → WfK (I2 137) c2 v := fun v hv => by rw [e4] at hv; exact WfK_T (T := I 137) (fun i a b => hT i (by omega) (by omega)) (by omega) m3 (w6 v hv)
  have W7 : ∀ v, v < c2 5 → WfZ (I2 137) c2 v := hsW
  have W8 : ∀ v, v < c2 6 → WfR (I2 137) c2 v := fun v hv => by rw [e6] at hv; exact WfR_T (T := I 137) (fun i a b => hT i (by omega) (by omega)) (by omega) m0 m1 m4 m5 (w8 v hv)
  have A1 : I2 0 0 = I2 137 0 := by rw [hT 0 (by decide) (by omega)]; rw [show I2 0 = I 0 from (hk 0 (by decide) (by decide) (by decide) (by decide) (by decide) (by decide))]; exact l1.1
  have A2 : ∀ p, p < c2 0 → I2 1 p = I2 137 (10 + 2 * p) ∧ I2 2 p = I2 137 (11 + 2 * p) := fun p hp => by rw [e0] at hp; rw [(hxs p hp).1, (hxs p hp).2, (hk 1 (by decide) (by decide) (by decide) (by decide) (by decide) (by decide)), (hk 2 (by decide) (by decide) (by decide) (by decide) (by decide) (by decide))]; exact l1.2 p hp
  have A3 : I2 0 3 = I2 137 1 := by rw [hT 1 (by decide) (by omega)]; rw [show I2 0 = I 0 from (hk 0 (by decide) (by decide) (by decide) (by decide) (by decide) (by decide))]; exact l2.1
  have A4 : ∀ v, v < c2 1 → LandV I2 (I2 137) v := fun v hv => by
    rw [e1] at hv
    have z := LandV_T (T := I 137) (T' := I2 137) (fun i a b => hT i (by omega) (by omega)) hxs (by omega) (by omega) (w3 v hv) (l2.2 v hv)
    unfold LandV at *
    rw [(hk 3 (by decide) (by decide) (by decide) (by decide) (by decide) (by decide)), (hk 4 (by decide) (by decide) (by decide) (by decide) (by decide) (by decide)), (hk 5 (by decide) (by decide) (by decide) (by decide) (by decide) (by decide)), (hk 6 (by decide) (by decide) (by decide) (by decide) (by decide) (by decide)), (hk 7 (by decide) (by decide) (by decide) (by decide) (by decide) (by decide)), (hk 8 (by decide) (by decide) (by decide) (by decide) (by decide) (by decide)), (hk 9 (by decide) (by decide) (by decide) (by decide) (by decide) (by decide))]
    exact z
  have A5 : I2 0 11 = I2 137 2 := by rw [hT 2 (by decide) (by omega)]; rw [show I2 0 = I 0 from (hk 0 (by decide) (by decide) (by decide) (by decide) (by decide) (by decide))]; exact l3.1
  have A6 : ∀ v, v < c2 2 → LandM I2 (I2 137) v := fun v hv => by
    rw [e2] at hv
    have z := LandM_T (T := I 137) (T' := I2 137) (fun i a b => hT i (by omega) (by omega)) (by omega) (l3.2 v hv)
    unfold LandM at *
    rw [(hk 10 (by decide) (by decide) (by decide) (by decide) (by decide) (by decide)), (hk 11 (by decide) (by decide) (by decide) (by decide) (by decide) (by decide)), (hk 12 (by decide) (by decide) (by decide) (by decide) (by decide) (by decide)), (hk 13 (by decide) (by decide) (by decide) (by decide) (by decide) (by decide)), (hk 14 (by decide) (by decide) (by decide) (by decide) (by decide) (by decide))]
    exact z
  have A7 : ∀ m, m < 40 → I2 12 m = 0 ∨ I2 12 m = 1 := fun m hm => by rw [(hk 12 (by decide) (by decide) (by decide) (by decide) (by decide) (by decide))]; exact l5 m hm
  have B1 : I2 15 0 = I2 137 3 := by rw [hT 3 (by decide) (by omega)]; rw [show I2 15 = I 15 from (hk 15 (by decide) (by decide) (by decide) (by decide) (by decide) (by decide))]; exact f1
  have B2 : ∀ t, t < c2 3 → ∀ n, n < 12 → I2 16 (12 * t + n) = I2 137 (650 + 12 * t + n) := fun t ht n hn => by rw [e3] at ht; rw [(hk 16 (by decide) (by decide) (by decide) (by decide) (by decide) (by decide)), hT _ (by omega) (by omega)]; exact f2 t ht n hn
  have B3 : I2 15 2 = I2 137 4 := by rw [hT 4 (by decide) (by omega)]; rw [show I2 15 = I 15 from (hk 15 (by decide) (by decide) (by decide) (by decide) (by decide) (by decide))]; exact f3
  have B4 : ∀ k, k < c2 4 → FolkK (fun j => I2 (15 + j)) (I2 137) k := fun k hk2 => by
    rw [e4] at hk2
    have z := FolkK_T (T := I 137) (T' := I2 137) (fun i a b => hT i (by omega) (by omega)) (by omega) (f4 k hk2)
    unfold FolkK at *
    simp only [Nat.reduceAdd] at *
    rw [(hk 17 (by decide) (by decide) (by decide) (by decide) (by decide) (by decide)), (hk 18 (by decide) (by decide) (by decide) (by decide) (by decide) (by decide)), (hk 19 (by decide) (by decide) (by decide) (by decide) (by decide) (by decide)), (hk 20 (by decide) (by decide) (by decide) (by decide) (by decide) (by decide)), (hk 21 (by decide) (by decide) (by decide) (by decide) (by decide) (by decide))]
    exact z
  have B5 : ∀ k, k < 8 → (I2 19 k = 0 ∨ I2 19 k = 1) ∧ (I2 20 k = 0 ∨ I2 20 k = 1) := fun k hk2 => by rw [(hk 19 (by decide) (by decide) (by decide) (by decide) (by decide) (by decide)), (hk 20 (by decide) (by decide) (by decide) (by decide) (by decide) (by decide))]; exact f5 k hk2
  have C1 : I2 22 0 = I2 137 5 := hof.trans hTs.symm
  have C2 : ∀ z, z < c2 5 → BookZ (fun j => I2 (22 + j)) (I2 137) z := hsC
  have C3 : I2 22 5 = I2 137 6 := by rw [hT 6 (by decide) (by omega)]; rw [show I2 22 5 = I 22 5 from hob 5 (by decide)]; exact g3
  have C4 : ∀ z, z < c2 6 → BookK (fun j => I2 (22 + j)) (I2 137) z := fun k hk2 => by
    rw [e6] at hk2
    have z := BookK_T (T := I 137) (T' := I2 137) (fun i a b => hT i (by omega) (by omega)) (by omega) (g4 k hk2)
    unfold BookK at *
    simp only [Nat.reduceAdd] at *
    rw [(hk 27 (by decide) (by decide) (by decide) (by decide) (by decide) (by decide)), (hk 28 (by decide) (by decide) (by decide) (by decide) (by decide) (by decide)), (hk 29 (by decide) (by decide) (by decide) (by decide) (by decide) (by decide)), (hk 30 (by decide) (by decide) (by decide) (by decide) (by decide) (by decide)), (hk 31 (by decide) (by decide) (by decide) (by decide) (by decide) (by decide))]
    exact z
  have hMp : MapR I2 L2 (I2 137) c2 := MapR_c (I := I) (L := L) h32 h38 hL3 (MapR_T (c := c) (fun i a b => hT i (by omega) (by omega)) hxs k0 e1 k1 e2 k2 w3 hMp0)
  exact Inv_up q hI h63 h4 hL ⟨W1, W2, W3, W4, W5, W6, W7, W8⟩ ⟨⟨A1, A2⟩, ⟨A3, A4⟩, ⟨A5, A6⟩, A7⟩ ⟨⟨B1, B2⟩, ⟨B3, B4⟩, B5⟩ ⟨⟨C1, C2⟩, ⟨C3, C4⟩⟩ hMp
theorem sec_6 (q : Inv w I L Q) (w1 : Cts (I 137) c) (hW : WfT (I 137) c) (hLd : LandR I (I 137) c) (hFo : FolkR (fun j => I (15 + j)) (I 137) c) (hBo : BookR (fun j => I (22 + j)) (I 137) c) (hMp0 : MapR I L (I 137) c)
    (hI : ∀ k, (k = 48 ∨ k = 49 ∨ k = 51 ∨ k = 121 ∨ k = 122 ∨ k = 138 ∨ k = 139 ∨ k = 144 ∨ k = 160 ∨ k = 161 ∨ (128 ≤ k ∧ k < 136) ∨ 165 ≤ k) → I2 k = I k) (h63 : ∀ i, i = 10 ∨ i = 18 ∨ i = 19 → I2 163 i = I 163 i) (h4 : I2 163 4 = -1) (hL : ∀ k, (k = 50 ∨ k = 52 ∨ (128 ≤ k ∧ k < 136) ∨ k = 162) → L2 k = L k)
    (hc : ∀ i, i < 7 → i ≠ 6 → c2 i = c i) (hc1 : c 6 ≤ c2 6) (hc2 : c2 6 ≤ mx 6) (hT : ∀ i, i ≠ 6 → ¬ (2838 ≤ i ∧ i < 2988) → I2 137 i = I 137 i) (hTs : I2 137 6 = nI (c2 6)) (hk : ∀ k, k < 32 → k ≠ 27 → k ≠ 28 → k ≠ 29 → k ≠ 30 → k ≠ 31 → k ≠ 22 → I2 k = I k) (hob : ∀ f, f ≠ 5 → I2 22 f = I 22 f) (hof : I2 22 5 = nI (c2 6))
    (hsW : ∀ j, j < c2 6 → WfR (I2 137) c2 j) (hsC : ∀ j, j < c2 6 → BookK (fun j => I2 (22 + j)) (I2 137) j) (h32 : I2 32 = I 32) (h38 : I2 38 = I 38) (hL3 : ∀ k, 32 ≤ k → k < 40 → L2 k = L k) : Inv w I2 L2 Q := by
  obtain ⟨-, w2, w3, w4, w5, w6, w7, w8⟩ := hW
  obtain ⟨l1, l2, l3, l5⟩ := hLd
  obtain ⟨⟨f1, f2⟩, ⟨f3, f4⟩, f5⟩ := hFo
  obtain ⟨⟨g1, g2⟩, ⟨g3, g4⟩⟩ := hBo
  have k0 := (w1 0 (by decide)).2
  have k1 := (w1 1 (by decide)).2
  have k2 := (w1 2 (by decide)).2
  have k3 := (w1 3 (by decide)).2
  have k4 := (w1 4 (by decide)).2
  have k5 := (w1 5 (by decide)).2
  have k6 := (w1 6 (by decide)).2
  simp only [mx] at k0 k1 k2 k3 k4 k5 k6 hc2
  have e0 : c2 0 = c 0 := hc 0 (by decide) (by decide)
  have m0 : c 0 ≤ c2 0 := Nat.le_of_eq e0.symm
  have e1 : c2 1 = c 1 := hc 1 (by decide) (by decide)
  have m1 : c 1 ≤ c2 1 := Nat.le_of_eq e1.symm
  have e2 : c2 2 = c 2 := hc 2 (by decide) (by decide)
  have m2 : c 2 ≤ c2 2 := Nat.le_of_eq e2.symm
  have e3 : c2 3 = c 3 := hc 3 (by decide) (by decide)
  have m3 : c 3 ≤ c2 3 := Nat.le_of_eq e3.symm
  have e4 : c2 4 = c 4 := hc 4 (by decide) (by decide)
  have m4 : c 4 ≤ c2 4 := Nat.le_of_eq e4.symm
  have e5 : c2 5 = c 5 := hc 5 (by decide) (by decide)
  have m5 : c 5 ≤ c2 5 := Nat.le_of_eq e5.symm
  have m6 : c 6 ≤ c2 6 := hc1
  have hxs : Xs (I 137) (I2 137) c := fun p hp => ⟨hT _ (by omega) (by omega), hT _ (by omega) (by omega)⟩
  have W1 : Cts (I2 137) c2 := by
    intro i hi
    by_cases e : i = 6
    · subst e; exact ⟨hTs, by simp only [mx]; exact hc2⟩
    · rw [hc i hi e, hT i e (by omega)]; exact w1 i hi
  have W2 : WfP (I2 137) c2 := by
    refine ⟨fun p hp => ?_, fun p r hp hr z1 z2 => ?_⟩
    · rw [e0] at hp; rw [(hxs p hp).1, (hxs p hp).2]; exact w2.1 p hp
    · rw [e0] at hp hr; rw [(hxs p hp).1, (hxs r hr).1] at z1; rw [(hxs p hp).2, (hxs r hr).2] at z2; exact w2.2 p r hp hr z1 z2
  have W3 : ∀ v, v < c2 1 → WfV (I2 137) c2 v := fun v hv => by rw [e1] at hv; exact WfV_T (T := I 137) (fun i a b => hT i (by omega) (by omega)) (by omega) m0 (w3 v hv)
  have W4 : ∀ v, v < c2 2 → WfM (I2 137) c2 v := fun v hv => by rw [e2] at hv; exact WfM_T (T := I 137) (fun i a b => hT i (by omega) (by omega)) (by omega) m0 (w4 v hv)
  have W5 : ∀ v, v < c2 3 → WfU (I2 137) v := fun v hv => by rw [e3] at hv; exact WfU_T (T := I 137) (fun i a b => hT i (by omega) (by omega)) (by omega) (w5 v hv)
  have W6 : ∀ v, v < c2 4 → WfK (I2 137) c2 v := fun v hv => by rw [e4] at hv; exact WfK_T (T := I 137) (fun i a b => hT i (by omega) (by omega)) (by omega) m3 (w6 v hv)
  have W7 : ∀ v, v < c2 5 → WfZ (I2 137) c2 v := fun v hv => by rw [e5] at hv; exact WfZ_T (T := I 137) (fun i a b => hT i (by omega) (by omega)) (by omega) m0 (w7 v hv)
  have W8 : ∀ v, v < c2 6 → WfR (I2 137) c2 v := hsW
  have A1 : I2 0 0 = I2 137 0 := by rw [hT 0 (by decide) (by omega)]; rw [show I2 0 = I 0 from (hk 0 (by decide) (by decide) (by decide) (by decide) (by decide) (by decide) (by decide))]; exact l1.1
  have A2 : ∀ p, p < c2 0 → I2 1 p = I2 137 (10 + 2 * p) ∧ I2 2 p = I2 137 (11 + 2 * p) := fun p hp => by rw [e0] at hp; rw [(hxs p hp).1, (hxs p hp).2, (hk 1 (by decide) (by decide) (by decide) (by decide) (by decide) (by decide) (by decide)), (hk 2 (by decide) (by decide) (by decide) (by decide) (by decide) (by decide) (by decide))]; exact l1.2 p hp
  have A3 : I2 0 3 = I2 137 1 := by rw [hT 1 (by decide) (by omega)]; rw [show I2 0 = I 0 from (hk 0 (by decide) (by decide) (by decide) (by decide) (by decide) (by decide) (by decide))]; exact l2.1
  have A4 : ∀ v, v < c2 1 → LandV I2 (I2 137) v := fun v hv => by
    rw [e1] at hv
    have z := LandV_T (T := I 137) (T' := I2 137) (fun i a b => hT i (by omega) (by omega)) hxs (by omega) (by omega) (w3 v hv) (l2.2 v hv)
    unfold LandV at *
    rw [(hk 3 (by decide) (by decide) (by decide) (by decide) (by decide) (by decide) (by decide)), (hk 4 (by decide) (by decide) (by decide) (by decide) (by decide) (by decide) (by decide)), (hk 5 (by decide) (by decide) (by decide) (by decide) (by decide) (by decide) (by decide)), (hk 6 (by decide) (by decide) (by decide) (by decide) (by decide) (by decide) (by decide)), (hk 7 (by decide) (by decide) (by decide) (by decide) (by decide) (by decide) (by decide)), (hk 8 (by decide) (by decide) (by decide) (by decide) (by decide) (by decide) (by decide)), (hk 9 (by decide) (by decide) (by decide) (by decide) (by decide) (by decide) (by decide))]
    exact z
  have A5 : I2 0 11 = I2 137 2 := by rw [hT 2 (by decide) (by omega)]; rw [show I2 0 = I 0 from (hk 0 (by decide) (by decide) (by decide) (by decide) (by decide) (by decide) (by decide))]; exact l3.1
  have A6 : ∀ v, v < c2 2 → LandM I2 (I2 137) v := fun v hv => by
    rw [e2] at hv
    have z := LandM_T (T := I 137) (T' := I2 137) (fun i a b => hT i (by omega) (by omega)) (by omega) (l3.2 v hv)
    unfold LandM at *
    rw [(hk 10 (by decide) (by decide) (by decide) (by decide) (by decide) (by decide) (by decide)), (hk 11 (by decide) (by decide) (by decide) (by decide) (by decide) (by decide) (by decide)), (hk 12 (by decide) (by decide) (by decide) (by decide) (by decide) (by decide) (by decide)), (hk 13 (by decide) (by decide) (by decide) (by decide) (by decide) (by decide) (by decide)), (hk 14 (by decide) (by decide) (by decide) (by decide) (by decide) (by decide) (by decide))]
    exact z
  have A7 : ∀ m, m < 40 → I2 12 m = 0 ∨ I2 12 m = 1 := fun m hm => by rw [(hk 12 (by decide) (by decide) (by decide) (by decide) (by decide) (by decide) (by decide))]; exact l5 m hm
  have B1 : I2 15 0 = I2 137 3 := by rw [hT 3 (by decide) (by omega)]; rw [show I2 15 = I 15 from (hk 15 (by decide) (by decide) (by decide) (by decide) (by decide) (by decide) (by decide))]; exact f1
  have B2 : ∀ t, t < c2 3 → ∀ n, n < 12 → I2 16 (12 * t + n) = I2 137 (650 + 12 * t + n) := fun t ht n hn => by rw [e3] at ht; rw [(hk 16 (by decide) (by decide) (by decide) (by decide) (by decide) (by decide) (by decide)), hT _ (by omega) (by omega)]; exact f2 t ht n hn
  have B3 : I2 15 2 = I2 137 4 := by rw [hT 4 (by decide) (by omega)]; rw [show I2 15 = I 15 from (hk 15 (by decide) (by decide) (by decide) (by decide) (by decide) (by decide) (by decide))]; exact f3
  have B4 : ∀ k, k < c2 4 → FolkK (fun j => I2 (15 + j)) (I2 137) k := fun k hk2 => by
    rw [e4] at hk2
    have z := FolkK_T (T := I 137) (T' := I2 137) (fun i a b => hT i (by omega) (by omega)) (by omega) (f4 k hk2)
    unfold FolkK at *
    simp only [Nat.reduceAdd] at *
    rw [(hk 17 (by decide) (by decide) (by decide) (by decide) (by decide) (by decide) (by decide)), (hk 18 (by decide) (by decide) (by decide) (by decide) (by decide) (by decide) (by decide)), (hk 19 (by decide) (by decide) (by decide) (by decide) (by decide) (by decide) (by decide)), (hk 20 (by decide) (by decide) (by decide) (by decide) (by decide) (by decide) (by decide)), (hk 21 (by decide) (by decide) (by decide) (by decide) (by decide) (by decide) (by decide))]
    exact z
  have B5 : ∀ k, k < 8 → (I2 19 k = 0 ∨ I2 19 k = 1) ∧ (I2 20 k = 0 ∨ I2 20 k = 1) := fun k hk2 => by rw [(hk 19 (by decide) (by decide) (by decide) (by decide) (by decide) (by decide) (by decide)), (hk 20 (by decide) (by decide) (by decide) (by decide) (by decide) (by decide) (by decide))]; exact f5 k hk2
  have C1 : I2 22 0 = I2 137 5 := by rw [hT 5 (by decide) (by omega)]; rw [show I2 22 0 = I 22 0 from hob 0 (by decide)]; exact g1
  have C2 : ∀ z, z < c2 5 → BookZ (fun j => I2 (22 + j)) (I2 137) z := fun k hk2 => by
    rw [e5] at hk2
    have z := BookZ_T (T := I 137) (T' := I2 137) (fun i a b => hT i (by omega) (by omega)) (by omega) (g2 k hk2)
    unfold BookZ at *
    simp only [Nat.reduceAdd] at *
    rw [(hk 23 (by decide) (by decide) (by decide) (by decide) (by decide) (by decide) (by decide)), (hk 24 (by decide) (by decide) (by decide) (by decide) (by decide) (by decide) (by decide)), (hk 25 (by decide) (by decide) (by decide) (by decide) (by decide) (by decide) (by decide)), (hk 26 (by decide) (by decide) (by decide) (by decide) (by decide) (by decide) (by decide))]
    exact z
  have C3 : I2 22 5 = I2 137 6 := hof.trans hTs.symm
  have C4 : ∀ z, z < c2 6 → BookK (fun j => I2 (22 + j)) (I2 137) z := hsC
  have hMp : MapR I2 L2 (I2 137) c2 := MapR_c (I := I) (L := L) h32 h38 hL3 (MapR_T (c := c) (fun i a b => hT i (by omega) (by omega)) hxs k0 e1 k1 e2 k2 w3 hMp0)
  exact Inv_up q hI h63 h4 hL ⟨W1, W2, W3, W4, W5, W6, W7, W8⟩ ⟨⟨A1, A2⟩, ⟨A3, A4⟩, ⟨A5, A6⟩, A7⟩ ⟨⟨B1, B2⟩, ⟨B3, B4⟩, B5⟩ ⟨⟨C1, C2⟩, ⟨C3, C4⟩⟩ hMp
end
