/-! the law's first lines -/
theorem AtL_ex {h : Hp} {r : Nat → Nat} {cs : List va_E} {n : Nat} (A : AtL h r cs) (hn : cs.length = n) : ∀ k, k < n → ∃ x, h (r k) = some x := fun k hk => ⟨_, A k _ (List.getElem?_eq_getElem (by rw [hn]; exact hk))⟩
section
variable {ar : Nat → ClassId} {ro : Nat → Option (Nat × (Nat → Int32))} {sa : Nat → Nat} {Φ : Ou → Hp → Prop}
set_option maxRecDepth 100000 in
set_option maxHeartbeats 4000000 in
theorem law_first {b G kc ks : Nat} (hkc : 1000 ≤ kc) (hks : 40000 ≤ ks) (k23 : ∀ (w : Wo), Inv w I0 L0 Q0 → ∀ kc' ks', kc ≤ kc' + 165 → ks ≤ ks' + 31301 → WP ar ro sa mL_law 1000 23 [some (.ref b), some (.ref (rr w 136)), some (.ref (rr w 163)), some (.ref (rr w 164)), some (.int (nI 0)), none, none, none] [] (Hw (ar, sa, G, ro) w I0 L0 Q0) kc' ks' Φ) : WP ar ro sa mL_law 1000 0 [some (.ref b), none, none, none, none, none, none, none] [] (fun _ => none) kc ks Φ := by
  refine r_newN (N := 12) eL_law_0 n_13_8 rfl (by omega) (by omega) (fun q0 hq0 => ?_)
  obtain ⟨h1, e1⟩ : ∃ g, g = hset (fun _ => none) q0 (.inr (11, [.null, .null, .null, .null, .null, .null, .null, .null, .null, .null, .null, .null])) := ⟨_, rfl⟩
  rw [← e1]
  have s1 : h1 q0 = some (.inr (11, [.null, .null, .null, .null, .null, .null, .null, .null, .null, .null, .null, .null])) := by rw [e1]; exact hset_s _ _ _
  refine r_dup eL_law_3 rfl ?_
  refine r_init (As := []) (rest := [.ref q0]) (b := q0) (mc := 136) (ms := 12385) eL_law_4 k_13_131 rfl rfl (Nat.le_of_ble_eq_true rfl) (Nat.le_of_ble_eq_true rfl) (by omega) (by omega) (c_X11_init s1 (Nat.le_refl _) (Nat.le_refl _)) (fun v1 h2 z1 => ?_)
  obtain ⟨rfl, r, ⟨n1, kp1, at1⟩, c1⟩ := z1
  have n1' : (∀ i, i < 136 → r i ≠ q0 ∧ h1 (r i) = none) ∧ ∀ i j, i < 136 → j < 136 → r i = r j → i = j := n1
  have x1 : ∀ k, k < 136 → ∃ x, h2 (r k) = some x := AtL_ex at1 rfl
  refine r_astore_n (lv' := [some (.ref b), some (.ref q0), none, none, none, none, none, none]) eL_law_7 (Nat.le_of_ble_eq_true rfl) rfl ?_
  refine r_newN (N := 40) eL_law_8 n_13_132 rfl (by omega) (by omega) (fun q1 hq1 => ?_)
  obtain ⟨h3, e3⟩ : ∃ g, g = hset h2 q1 (.inr (12, [.null, .null, .null, .int 0, .int 0, .null, .null, .null, .null, .null, .int 0, .int 0, .int 0, .int 0, .int 0, .int 0, .int 0, .int 0, .int 0, .int 0, .null, .null, .null, .null, .null, .null, .null, .null, .null, .null, .null, .null, .null, .null, .null, .int 0, .int 0, .null, .null, .null])) := ⟨_, rfl⟩
  rw [← e3]
  have s3 : h3 q1 = some (.inr (12, [.null, .null, .null, .int 0, .int 0, .null, .null, .null, .null, .null, .int 0, .int 0, .int 0, .int 0, .int 0, .int 0, .int 0, .int 0, .int 0, .int 0, .null, .null, .null, .null, .null, .null, .null, .null, .null, .null, .null, .null, .null, .null, .null, .int 0, .int 0, .null, .null, .null])) := by rw [e3]; exact hset_s _ _ _
  have k3 : ∀ a x, h2 a = some x → a ≠ q1 ∧ h3 a = some x := fun a x hx => by
    have ne : a ≠ q1 := fun z => by rw [z, hq1] at hx; cases hx
    exact ⟨ne, by rw [e3, hset_n _ _ ne]; exact hx⟩
  refine r_dup eL_law_11 rfl ?_
  refine r_init (As := []) (rest := [.ref q1]) (b := q1) (mc := 26) (ms := 18863) eL_law_12 k_13_134 rfl rfl (Nat.le_of_ble_eq_true rfl) (Nat.le_of_ble_eq_true rfl) (by omega) (by omega) (c_X12_init s3 (Nat.le_refl _) (Nat.le_refl _)) (fun v2 h4 z2 => ?_)
  obtain ⟨rfl, r', ⟨n2, kp2, at2⟩, c2⟩ := z2
  have n2' : (∀ i, i < 26 → r' i ≠ q1 ∧ h3 (r' i) = none) ∧ ∀ i j, i < 26 → j < 26 → r' i = r' j → i = j := n2
  have x2 : ∀ k, k < 26 → ∃ x, h4 (r' k) = some x := AtL_ex at2 rfl
  have k4 : ∀ a x, h2 a = some x → h4 a = some x := fun a x hx => kp2 a x (k3 a x hx).1 (k3 a x hx).2
  refine r_astore_n (lv' := [some (.ref b), some (.ref q0), some (.ref q1), none, none, none, none, none]) eL_law_15 (Nat.le_of_ble_eq_true rfl) rfl ?_
  refine r_iconst (v := (1)) eL_law_16 (by decide) ?_
  refine r_newl (N := 1) eL_law_17 (by decide) (by decide) (by decide) (by omega) (by omega) (fun q2 hq2 => ?_)
  obtain ⟨h5, e5⟩ : ∃ g, g = hset h4 q2 (.inl (ar 1, 1, .inr (.inl (fun _ => 0)))) := ⟨_, rfl⟩
  rw [← e5]
  have s5 : h5 q2 = some (.inl (ar 1, 1, .inr (.inl (fun _ => 0)))) := by rw [e5]; exact hset_s _ _ _
  have k5 : ∀ a x, h4 a = some x → a ≠ q2 ∧ h5 a = some x := fun a x hx => by
    have ne : a ≠ q2 := fun z => by rw [z, hq2] at hx; cases hx
    exact ⟨ne, by rw [e5, hset_n _ _ ne]; exact hx⟩
  refine r_astore_n (lv' := [some (.ref b), some (.ref q0), some (.ref q1), some (.ref q2), none, none, none, none]) eL_law_19 (Nat.le_of_ble_eq_true rfl) rfl ?_
  refine r_iconst (v := (0)) eL_law_20 (by decide) ?_
  refine r_istore (lv' := [some (.ref b), some (.ref q0), some (.ref q1), some (.ref q2), some (.int 0), none, none, none]) eL_law_21 (Nat.le_of_ble_eq_true rfl) rfl ?_
  -- all apart
  have d_rq0 : ∀ i, i < 136 → r i ≠ q0 := fun i hi => (n1'.1 i hi).1
  have d_rq1 : ∀ i, i < 136 → r i ≠ q1 := fun i hi => by obtain ⟨x, hx⟩ := x1 i hi; exact (k3 _ x hx).1
  have d_01 : q0 ≠ q1 := (k3 q0 _ c1).1
  have d_rr : ∀ i j, i < 136 → j < 26 → r i ≠ r' j := fun i j hi hj z => by
    obtain ⟨x, hx⟩ := x1 i hi
    have := (k3 _ x hx).2
    rw [z, (n2'.1 j hj).2] at this; cases this
  have d_0r : ∀ j, j < 26 → q0 ≠ r' j := fun j hj z => by
    have := (k3 q0 _ c1).2
    rw [z, (n2'.1 j hj).2] at this; cases this
  have d_r2 : ∀ i, i < 136 → r i ≠ q2 := fun i hi => by obtain ⟨x, hx⟩ := x1 i hi; exact (k5 _ x (k4 _ x hx)).1
  have d_02 : q0 ≠ q2 := (k5 q0 _ (k4 q0 _ c1)).1
  have d_r'2 : ∀ i, i < 26 → r' i ≠ q2 := fun i hi => by obtain ⟨x, hx⟩ := x2 i hi; exact (k5 _ x hx).1
  have d_12 : q1 ≠ q2 := (k5 q1 _ c2).1
  have d_r'1 : ∀ i, i < 26 → r' i ≠ q1 := fun i hi => (n2'.1 i hi).1
  have aR : ∀ k, k < 136 → adr0 r r' q0 q1 q2 k = r k := fun k hk => if_pos hk
  have a136 : adr0 r r' q0 q1 q2 136 = q0 := rfl
  have aR' : ∀ k, 137 ≤ k → k < 163 → adr0 r r' q0 q1 q2 k = r' (k - 137) := fun k g1 g2 => by unfold adr0; rw [if_neg (by omega), if_neg (by omega), if_pos g2]
  have a163 : adr0 r r' q0 q1 q2 163 = q1 := rfl
  have a164 : adr0 r r' q0 q1 q2 164 = q2 := rfl
  have five : ∀ k, k < 165 → (k < 136) ∨ (k = 136) ∨ (137 ≤ k ∧ k < 163) ∨ (k = 163) ∨ (k = 164) := fun k hk => by omega
  have pf : (∀ i, i < 165 → (fun k => decide (k < 165)) i = true) ∧ (∀ i j, (fun k => decide (k < 165)) i = true → (fun k => decide (k < 165)) j = true → adr0 r r' q0 q1 q2 i = adr0 r r' q0 q1 q2 j → i = j) ∧ (∀ i, (fun k => decide (k < 165)) i = true → i < 261) := by
    refine ⟨fun i hi => decide_eq_true hi, fun i j hi hj e => ?_, fun i hi => by have := of_decide_eq_true hi; omega⟩
    have hi' : i < 165 := of_decide_eq_true hi
    have hj' : j < 165 := of_decide_eq_true hj
    rcases five i hi' with ci | rfl | ci | rfl | rfl <;> rcases five j hj' with cj | rfl | cj | rfl | rfl
    · rw [aR i ci, aR j cj] at e; exact n1'.2 i j ci cj e
    · rw [aR i ci, a136] at e; exact absurd e (d_rq0 i ci)
    · rw [aR i ci, aR' j cj.1 cj.2] at e; exact absurd e (d_rr i _ ci (by omega))
    · rw [aR i ci, a163] at e; exact absurd e (d_rq1 i ci)
    · rw [aR i ci, a164] at e; exact absurd e (d_r2 i ci)
    · rw [aR j cj, a136] at e; exact absurd e.symm (d_rq0 j cj)
    · rfl
    · rw [aR' j cj.1 cj.2, a136] at e; exact absurd e (d_0r _ (by omega))
    · rw [a163, a136] at e; exact absurd e d_01
    · rw [a164, a136] at e; exact absurd e d_02
    · rw [aR' i ci.1 ci.2, aR j cj] at e; exact absurd e.symm (d_rr j _ cj (by omega))
    · rw [aR' i ci.1 ci.2, a136] at e; exact absurd e.symm (d_0r _ (by omega))
    · rw [aR' i ci.1 ci.2, aR' j cj.1 cj.2] at e
      have := n2'.2 _ _ (by omega) (by omega) e; omega
    · rw [aR' i ci.1 ci.2, a163] at e; exact absurd e (d_r'1 _ (by omega))
    · rw [aR' i ci.1 ci.2, a164] at e; exact absurd e (d_r'2 _ (by omega))
    · rw [a163, aR j cj] at e; exact absurd e.symm (d_rq1 j cj)
    · rw [a163, a136] at e; exact absurd e.symm d_01
    · rw [a163, aR' j cj.1 cj.2] at e; exact absurd e.symm (d_r'1 _ (by omega))
    · rfl
    · rw [a163, a164] at e; exact absurd e d_12
    · rw [a164, aR j cj] at e; exact absurd e.symm (d_r2 j cj)
    · rw [a164, a136] at e; exact absurd e.symm d_02
    · rw [a164, aR' j cj.1 cj.2] at e; exact absurd e.symm (d_r'2 _ (by omega))
    · rw [a164, a163] at e; exact absurd e.symm d_12
    · rfl
  obtain ⟨w, hw⟩ : ∃ w : Wo, w = ⟨(adr0 r r' q0 q1 q2, fun k => decide (k < 165), h5), pf⟩ := ⟨_, rfl⟩
  have tA := st_A (E := (ar, sa, G, ro)) (h := h5) (lv := fun k => decide (k < 165)) (a := q0) (b := q1) (c := q2) (r' := r') pf at1
  have tB := st_B (E := (ar, sa, G, ro)) (h := h5) (lv := fun k => decide (k < 165)) (a := q0) (b := q1) (c := q2) (r := r) pf at2
  have t136 := st_136 (E := (ar, sa, G, ro)) (h := h5) (lv := fun k => decide (k < 165)) (a := q0) (b := q1) (c := q2) (r := r) (r' := r') pf
  have t163 := st_163 (E := (ar, sa, G, ro)) (h := h5) (lv := fun k => decide (k < 165)) (a := q0) (b := q1) (c := q2) (r := r) (r' := r') pf
  have t164 := st_164 (E := (ar, sa, G, ro)) (h := h5) (lv := fun k => decide (k < 165)) (a := q0) (b := q1) (c := q2) (r := r) (r' := r') pf
  have rw1 : ∀ k, rr w k = adr0 r r' q0 q1 q2 k := fun k => by rw [hw]; rfl
  have hH : Hw (ar, sa, G, ro) w I0 L0 Q0 = h5 := by
    refine Hw_mk (by rw [hw]) (fun k hk => ?_)
    have hk' : k < 165 := by rw [hw] at hk; exact of_decide_eq_true hk
    rw [rw1 k, hw]
    rcases five k hk' with ck | rfl | ck | rfl | rfl
    · rw [aR k ck]; exact (k5 _ _ (k4 _ _ (tA k ck))).2
    · rw [a136, ← t136]; exact (k5 _ _ (k4 _ _ c1)).2
    · rw [aR' k ck.1 ck.2]
      have z := tB (k - 137) (by omega)
      rw [show 137 + (k - 137) = k by omega] at z
      exact (k5 _ _ z).2
    · rw [a163, ← t163]; exact (k5 _ _ c2).2
    · rw [a164, ← t164]; exact s5
  have fin := k23 w (inv_start (fun k hk z => by rw [hw] at z; have : k < 165 := of_decide_eq_true z; omega)) (kc - 1 - 136 - 1 - 26 - 1) (ks - 12 - 12385 - 40 - 18863 - 1) (by omega) (by omega)
  rw [hH, rw1 136, rw1 163, rw1 164, a136, a163, a164] at fin
  exact fin
end
