/-! image: what is told goes into a home of its own -/
section
variable {E : Ev} {w : Wo} {I : Nat → Nat → Int32} {L : Nat → Nat → Int64} {Q : Nat → Nat → Option Nat} {c : Nat → Nat}
theorem m_image38 {i : Nat} (hG : 100000 ≤ E.2.2.1) (hi : i < 3) : ∃ I', (∀ k, k ≠ 138 → I' k = I k) ∧ (∀ j, j < 2988 → I' 138 (2988 * i + j) = I 137 j) ∧ (∀ x, ¬ (2988 * i ≤ x ∧ x < 2988 * i + 2988) → I' 138 x = I 138 x) ∧ L_X12_image_38 E (rr w 163) (nI i) E.2.2.1 0 (Hw E w I L Q) = rtV (Hw E w I' L Q) := by
  refine lpK2 (σ := Nat → Nat → Int32) (Lp := fun g j s => L_X12_image_38 E (rr w 163) (nI i) g (nI j) (Hw E w s L Q)) (K := fun s => rtV (Hw E w s L Q)) (Iv := fun m s => (∀ k, k ≠ 138 → s k = I k) ∧ (∀ j, j < m → s 138 (2988 * i + j) = I 137 j) ∧ ∀ x, ¬ (2988 * i ≤ x ∧ x < 2988 * i + m) → s 138 x = I 138 x) (N := 2988) (g := E.2.2.1) (i := 0) (s := I) ?_ ?_ ?_ (by omega) (by omega) ⟨fun _ _ => rfl, fun p hp => absurd hp (by omega), fun _ _ => rfl⟩
  · rintro I1 ⟨z1, z2, z3⟩ ee
    exact ⟨I1, z1, z2, z3, ee⟩
  · rintro g j I1 hj ⟨z1, z2, z3⟩
    have e8 : I1 137 j = I 137 j := by rw [z1 137 (by decide)]
    refine ⟨up2 I1 138 (2988 * i + j) (I 137 j), ⟨fun k hk => by rw [up2_row _ _ hk]; exact z1 k hk, fun p hp => ?_, fun x hx => by rw [up2_i _ _ _ (by omega)]; exact z3 x (by omega)⟩, ?_⟩
    · by_cases e : p = j
      · subst e; rw [up2_s]
      · rw [up2_i _ _ _ (by omega)]; exact z2 p (by omega)
    · show L_X12_image_38 E (rr w 163) (nI i) (g + 1) (nI j) (Hw E w I1 L Q) = _
      rw [L_X12_image_38]
      simp (disch := omega) only [Option.bind_some, Option.map_some, Option.join, cI_r, cL_r, cV_r, xI_r, xL_r, xV_r, xI_t, xL_t, xV_t, lt_r, rtZ_0, rtZ_1, rtZ_zb, m2988, pk_mul, nI_add, nI_leI, nI_1, if_neg, gf163_0, gf163_1, ga137, pa138, ix_n, e8]
  · rintro g I1 _
    show L_X12_image_38 E (rr w 163) (nI i) (g + 1) (nI 2988) (Hw E w I1 L Q) = _
    rw [L_X12_image_38]
    simp (disch := omega) only [m2988, nI_leI, if_pos]
theorem ImgR_t {I' : Nat → Nat → Int32} {t : Nat} (h1 : ∀ k, k < 2988 → I' 138 (2988 * t + k) = I 138 (2988 * t + k)) (h2 : I' 139 t = I 139 t) (h3 : ∀ j, j < 32 → I' (165 + 32 * t + j) = I (165 + 32 * t + j)) (q : ImgR w I Q t) : ImgR w I' Q t := by
  rcases q with ⟨o1, o2, o3, o4, o5⟩ | ⟨o1, o2, o3, o4, o5, c', w1, w2, w3, w4⟩
  · exact Or.inl ⟨o1, o2, o3, h2.trans o4, o5⟩
  · have r1 : (fun j => I' (165 + 32 * t + j)) 0 = (fun j => I (165 + 32 * t + j)) 0 := h3 0 (by decide)
    refine Or.inr ⟨o1, o2, o3, h2.trans o4, o5, c', WfT_X h1 w1, LandR_X h1 w1 w2 ?_ ?_ ?_ ?_ ?_ ?_ ?_ ?_ ?_ ?_ ?_ ?_ ?_ ?_ ?_ ?_ ?_, FolkR_X h1 w1 w3 ?_ ?_ ?_ ?_ ?_ ?_ ?_ ?_, BookR_X h1 w1 w4 ?_ ?_ ?_ ?_ ?_ ?_ ?_ ?_ ?_ ?_ ?_⟩
    · exact congrFun (h3 0 (by decide)) _
    · exact congrFun (h3 0 (by decide)) _
    · exact congrFun (h3 0 (by decide)) _
    · exact fun x _ => congrFun (h3 1 (by decide)) x
    · exact fun x _ => congrFun (h3 2 (by decide)) x
    · exact fun x _ => congrFun (h3 3 (by decide)) x
    · exact fun x _ => congrFun (h3 4 (by decide)) x
    · exact fun x _ => congrFun (h3 5 (by decide)) x
    · exact fun x _ => congrFun (h3 6 (by decide)) x
    · exact fun x _ => congrFun (h3 7 (by decide)) x
    · exact fun x _ => congrFun (h3 8 (by decide)) x
    · exact fun x _ => congrFun (h3 9 (by decide)) x
    · exact fun x _ => congrFun (h3 10 (by decide)) x
    · exact fun x _ => congrFun (h3 11 (by decide)) x
    · exact fun x _ => congrFun (h3 12 (by decide)) x
    · exact fun x _ => congrFun (h3 13 (by decide)) x
    · exact fun x _ => congrFun (h3 14 (by decide)) x
    all_goals have sh : ∀ a m, m < 32 → a = 165 + 32 * t + m → I' a = I a := fun a m hm e => by rw [e]; exact h3 m hm
    · exact congrFun (sh (180 + 32 * t + 0) 15 (by decide) (by omega)) _
    · exact congrFun (sh (180 + 32 * t + 0) 15 (by decide) (by omega)) _
    · exact fun x _ => congrFun (sh (180 + 32 * t + 1) 16 (by decide) (by omega)) x
    · exact fun x _ => congrFun (sh (180 + 32 * t + 2) 17 (by decide) (by omega)) x
    · exact fun x _ => congrFun (sh (180 + 32 * t + 3) 18 (by decide) (by omega)) x
    · exact fun x _ => congrFun (sh (180 + 32 * t + 4) 19 (by decide) (by omega)) x
    · exact fun x _ => congrFun (sh (180 + 32 * t + 5) 20 (by decide) (by omega)) x
    · exact fun x _ => congrFun (sh (180 + 32 * t + 6) 21 (by decide) (by omega)) x
    · exact congrFun (sh (187 + 32 * t + 0) 22 (by decide) (by omega)) _
    · exact congrFun (sh (187 + 32 * t + 0) 22 (by decide) (by omega)) _
    · exact fun x _ => congrFun (sh (187 + 32 * t + 1) 23 (by decide) (by omega)) x
    · exact fun x _ => congrFun (sh (187 + 32 * t + 2) 24 (by decide) (by omega)) x
    · exact fun x _ => congrFun (sh (187 + 32 * t + 3) 25 (by decide) (by omega)) x
    · exact fun x _ => congrFun (sh (187 + 32 * t + 4) 26 (by decide) (by omega)) x
    · exact fun x _ => congrFun (sh (187 + 32 * t + 5) 27 (by decide) (by omega)) x
    · exact fun x _ => congrFun (sh (187 + 32 * t + 6) 28 (by decide) (by omega)) x
    · exact fun x _ => congrFun (sh (187 + 32 * t + 7) 29 (by decide) (by omega)) x
    · exact fun x _ => congrFun (sh (187 + 32 * t + 8) 30 (by decide) (by omega)) x
    · exact fun x _ => congrFun (sh (187 + 32 * t + 9) 31 (by decide) (by omega)) x
theorem img71 {i : Nat} (hG : 100000 ≤ E.2.2.1) (hi : i < 3) (q1 : WfT (I 137) c) (q2 : LandR I (I 137) c) (q3 : FolkR (fun j => I (15 + j)) (I 137) c) (q4 : BookR (fun j => I (22 + j)) (I 137) c) (q5 : MapR I L (I 137) c) (q6 : RefR I L (I 137) c) (q7 : StepsR I L Q) (q8 : WalkR Q) (q9 : OddsR Q) (q10 : RefsR Q) (q11 : ReadR I) (q12 : ∀ t, t < 4 → TrayR I L t) (qi : ∀ t, t < 3 → t ≠ i → ImgR w I Q t) (o1 : Q 125 i = some (165 + 32 * i)) (o2 : Q 126 i = some (180 + 32 * i)) (o3 : Q 127 i = some (187 + 32 * i)) (o5 : ∀ j, j < 32 → lvk w (165 + 32 * i + j)) : ∃ J M, J_X11_image_71 E (rr w 136) (nI i) (Hw E w I L Q) = rtV (Hw E w J L Q) ∧ F_X12_image E (rr w 163) (nI i) (Hw E w J L Q) = rtV (Hw E w M L Q) ∧ Inv w M L Q ∧ M 163 3 = 0 := by
  have lI := LdO_i hi o5
  have fI := FkO_i hi o5
  have bI := BkO_i hi o5
  obtain ⟨J1, a1, a2, a3⟩ := take_Ld (E := E) (w := w) (I := I) (L := L) (Q := Q) (d := 165 + 32 * i) (s := 0) hG lI LdO_0 (by omega) (fun x hx => q2.2.2.2 x hx)
  obtain ⟨J2, b1, b2, b3⟩ := take_Fk (E := E) (w := w) (I := J1) (L := L) (Q := Q) (d := 180 + 32 * i) (s := 15) hG fI FkO_0 (by omega) (fun x hx => by rw [a1 _ (by omega)]; exact (q3.2.2 x hx).1) (fun x hx => by rw [a1 _ (by omega)]; exact (q3.2.2 x hx).2)
  obtain ⟨J3, d1, d2, d3⟩ := take_Bk (E := E) (w := w) (I := J2) (L := L) (Q := Q) (d := 187 + 32 * i) (s := 22) bI BkO_0 (by omega)
  have oi : ∀ k, ¬ (165 + 32 * i ≤ k ∧ k < 197 + 32 * i) → J3 k = I k := fun k hk => by rw [d1 k (by omega), b1 k (by omega), a1 k (by omega)]
  have oL : ∀ k, 165 + 32 * i ≤ k → k < 180 + 32 * i → J3 k = J1 k := fun k h1 h2 => by rw [d1 k (by omega), b1 k (by omega)]
  have oF : ∀ k, 180 + 32 * i ≤ k → k < 187 + 32 * i → J3 k = J2 k := fun k h1 h2 => by rw [d1 k (by omega)]
  have sF : ∀ k, k < 165 → J1 k = I k := fun k hk => a1 k (by omega)
  have sB : ∀ k, k < 165 → J2 k = I k := fun k hk => by rw [b1 k (by omega), a1 k (by omega)]
  generalize eJ : up2 (up2 J3 163 3 0) 139 i 1 = J4
  have r4 : ∀ k, k ≠ 163 → k ≠ 139 → J4 k = J3 k := fun k h1 h2 => by rw [← eJ, up2_row _ _ h2, up2_row _ _ h1]
  have r41 : ∀ f, f ≠ 3 → J4 163 f = J3 163 f := fun f hf => by rw [← eJ, up2_row _ _ (by decide), up2_i _ _ _ hf]
  have r42 : J4 163 3 = 0 := by rw [← eJ, up2_row _ _ (by decide), up2_s]
  have r43 : J4 139 i = 1 := by rw [← eJ, up2_s]
  have r44 : ∀ t, t ≠ i → J4 139 t = J3 139 t := fun t ht => by rw [← eJ, up2_i _ _ _ ht, up2_row _ _ (by decide)]
  obtain ⟨M, m1', m2', m3', m4'⟩ := m_image38 (E := E) (w := w) (I := J4) (L := L) (Q := Q) (i := i) hG hi
  have rI : ∀ k, k ≠ 138 → k ≠ 139 → k ≠ 163 → ¬ (165 + 32 * i ≤ k ∧ k < 197 + 32 * i) → M k = I k := fun k h1 h2 h3 h4 => by rw [m1' k h1, r4 k h3 h2, oi k h4]
  have rI' : ∀ k, k < 137 → M k = I k := fun k hk => rI k (by omega) (by omega) (by omega) (by omega)
  have r163 : ∀ f, f ≠ 3 → M 163 f = I 163 f := fun f hf => by rw [m1' 163 (by decide), r41 f hf, oi 163 (by omega)]
  have rJ : ∀ k, 165 ≤ k → M k = J3 k := fun k hk => by rw [m1' k (by omega), r4 k (by omega) (by omega)]
  have T137 : M 137 = I 137 := rI 137 (by decide) (by decide) (by decide) (by omega)
  have hT : ∀ j, j < 2988 → (fun k => M 138 (2988 * i + k)) j = I 137 j := fun j hj => by
    show M 138 (2988 * i + j) = _
    rw [m2' j hj, r4 137 (by decide) (by decide), oi 137 (by omega)]
  obtain ⟨g0, g3, g11, g1, g2, g4, g5, g6, g7, g8, g9, g10, g12, g13, g14, g15, g16⟩ := a2
  obtain ⟨k0, k2, k1, k3, k4, k5, k6, k7⟩ := b2
  obtain ⟨l0, l5, l1, l2, l3, l4, l6, l7, l8, l9, l10⟩ := d2
  refine ⟨J3, M, ?_, ?_, ?_, ?_⟩
  · unfold J_X11_image_71
    have i3 : ix (nI i) 3 = some i := ix_n hi (by decide)
    simp only [Option.bind_some, Option.map_some, Option.join, cI_r, cL_r, cV_r, xI_r, xL_r, xV_r, xI_t, xL_t, xV_t, lt_r, rtZ_0, rtZ_1, rtZ_zb, gf136_9, gf136_10, gf136_11, gf136_0, gf136_1, gf136_2, ga125, ga126, ga127, i3, o1, o2, o3, id_eq, isO_w lI.1.1 lI.1.2, isO_w fI.1.1 fI.1.2, isO_w bI.1.1 bI.1.2, a3, b3, d3]
  · unfold F_X12_image J_X12_image_18
    have p1b : bd (nI i) 0 2 := ⟨i, rfl, by omega, by omega⟩
    have i3 : ix (nI i) 3 = some i := ix_n hi (by decide)
    simp only [Option.bind_some, Option.map_some, Option.join, cI_r, cL_r, cV_r, xI_r, xL_r, xV_r, xI_t, xL_t, xV_t, lt_r, rtZ_0, rtZ_1, rtZ_zb, f_wi 2 (by decide) (show (nI 2).toInt64 = 2 by rfl), zi_t p1b, pf163_3, gf163_3, up2_s, show (0 : Int32) ≤ 0 by decide, if_true, gf163_2, pa139, i3, show vp_nar .boolean (1 : Int32) = 1 from rfl, eJ, m4']
  · refine ⟨c, by rw [T137]; exact q1, by rw [T137]; exact LandR_c (fun j hj => rI' j (by omega)) q2, by rw [T137]; exact FolkR_c (fun j hj => rI' (15 + j) (by omega)) q3, by rw [T137]; exact BookR_c (fun j hj => rI' (22 + j) (by omega)) q4, by rw [T137]; exact MapR_c (rI' 32 (by decide)) (rI' 38 (by decide)) (fun _ _ _ => rfl) q5, by rw [T137]; exact RefR_c (r163 4 (by decide)) (rI 142 (by decide) (by decide) (by decide) (by omega)) rfl rfl q6, StepsR_c (rI' 48 (by decide)) (rI' 49 (by decide)) (rI' 51 (by decide)) rfl rfl q7, q8, q9, q10, ReadR_c (fun f _ _ => by rw [rI' 121 (by decide)]) (rI' 122 (by decide)) (rI 144 (by decide) (by decide) (by decide) (by omega)) (r163 10 (by decide)) (r163 18 (by decide)) (r163 19 (by decide)) q11, fun t ht => TrayR_c (rI' _ (by omega)) (rI 160 (by decide) (by decide) (by decide) (by omega)) (rI 161 (by decide) (by decide) (by decide) (by omega)) rfl rfl (q12 t ht), fun t ht => ?_⟩
    by_cases e : t = i
    · subst e
      refine Or.inr ⟨o1, o2, o3, by rw [m1' 139 (by decide)]; exact r43, o5, c, WfT_X hT q1, LandR_X hT q1 q2 ?_ ?_ ?_ ?_ ?_ ?_ ?_ ?_ ?_ ?_ ?_ ?_ ?_ ?_ ?_ ?_ ?_, FolkR_X hT q1 q3 ?_ ?_ ?_ ?_ ?_ ?_ ?_ ?_, BookR_X hT q1 q4 ?_ ?_ ?_ ?_ ?_ ?_ ?_ ?_ ?_ ?_ ?_⟩
      · show M (165 + 32 * t) 0 = _; rw [rJ _ (by omega), oL _ (by omega) (by omega)]; exact g0
      · show M (165 + 32 * t) 3 = _; rw [rJ _ (by omega), oL _ (by omega) (by omega)]; exact g3
      · show M (165 + 32 * t) 11 = _; rw [rJ _ (by omega), oL _ (by omega) (by omega)]; exact g11
      · intro x hx; show M (165 + 32 * t + 1) x = _; rw [rJ _ (by omega), oL _ (by omega) (by omega)]; exact g1 x hx
      · intro x hx; show M (165 + 32 * t + 2) x = _; rw [rJ _ (by omega), oL _ (by omega) (by omega)]; exact g2 x hx
      · intro x hx; show M (165 + 32 * t + 3) x = _; rw [rJ _ (by omega), oL _ (by omega) (by omega)]; exact g4 x hx
      · intro x hx; show M (165 + 32 * t + 4) x = _; rw [rJ _ (by omega), oL _ (by omega) (by omega)]; exact g5 x hx
      · intro x hx; show M (165 + 32 * t + 5) x = _; rw [rJ _ (by omega), oL _ (by omega) (by omega)]; exact g6 x hx
      · intro x hx; show M (165 + 32 * t + 6) x = _; rw [rJ _ (by omega), oL _ (by omega) (by omega)]; exact g7 x hx
      · intro x hx; show M (165 + 32 * t + 7) x = _; rw [rJ _ (by omega), oL _ (by omega) (by omega)]; exact g8 x hx
      · intro x hx; show M (165 + 32 * t + 8) x = _; rw [rJ _ (by omega), oL _ (by omega) (by omega)]; exact g9 x hx
      · intro x hx; show M (165 + 32 * t + 9) x = _; rw [rJ _ (by omega), oL _ (by omega) (by omega)]; exact g10 x hx
      · intro x hx; show M (165 + 32 * t + 10) x = _; rw [rJ _ (by omega), oL _ (by omega) (by omega)]; exact g12 x hx
      · intro x hx; show M (165 + 32 * t + 11) x = _; rw [rJ _ (by omega), oL _ (by omega) (by omega)]; exact g13 x hx
      · intro x hx; show M (165 + 32 * t + 12) x = _; rw [rJ _ (by omega), oL _ (by omega) (by omega)]; exact g14 x hx
      · intro x hx; show M (165 + 32 * t + 13) x = _; rw [rJ _ (by omega), oL _ (by omega) (by omega)]; exact g15 x hx
      · intro x hx; show M (165 + 32 * t + 14) x = _; rw [rJ _ (by omega), oL _ (by omega) (by omega)]; exact g16 x hx
      · show M (180 + 32 * t) 0 = I 15 0; rw [rJ _ (by omega), oF _ (by omega) (by omega), k0, sF _ (by omega)]
      · show M (180 + 32 * t) 2 = I 15 2; rw [rJ _ (by omega), oF _ (by omega) (by omega), k2, sF _ (by omega)]
      · intro x hx; show M (180 + 32 * t + 1) x = I (15 + 1) x; rw [rJ _ (by omega), oF _ (by omega) (by omega), k1 x hx, sF _ (by omega)]
      · intro x hx; show M (180 + 32 * t + 2) x = I (15 + 2) x; rw [rJ _ (by omega), oF _ (by omega) (by omega), k3 x hx, sF _ (by omega)]
      · intro x hx; show M (180 + 32 * t + 3) x = I (15 + 3) x; rw [rJ _ (by omega), oF _ (by omega) (by omega), k4 x hx, sF _ (by omega)]
      · intro x hx; show M (180 + 32 * t + 4) x = I (15 + 4) x; rw [rJ _ (by omega), oF _ (by omega) (by omega), k5 x hx, sF _ (by omega)]
      · intro x hx; show M (180 + 32 * t + 5) x = I (15 + 5) x; rw [rJ _ (by omega), oF _ (by omega) (by omega), k6 x hx, sF _ (by omega)]
      · intro x hx; show M (180 + 32 * t + 6) x = I (15 + 6) x; rw [rJ _ (by omega), oF _ (by omega) (by omega), k7 x hx, sF _ (by omega)]
      · show M (187 + 32 * t) 0 = I 22 0; rw [rJ _ (by omega), l0, sB _ (by omega)]
      · show M (187 + 32 * t) 5 = I 22 5; rw [rJ _ (by omega), l5, sB _ (by omega)]
      · intro x hx; show M (187 + 32 * t + 1) x = I (22 + 1) x; rw [rJ _ (by omega), l1 x hx, sB _ (by omega)]
      · intro x hx; show M (187 + 32 * t + 2) x = I (22 + 2) x; rw [rJ _ (by omega), l2 x hx, sB _ (by omega)]
      · intro x hx; show M (187 + 32 * t + 3) x = I (22 + 3) x; rw [rJ _ (by omega), l3 x hx, sB _ (by omega)]
      · intro x hx; show M (187 + 32 * t + 4) x = I (22 + 4) x; rw [rJ _ (by omega), l4 x hx, sB _ (by omega)]
      · intro x hx; show M (187 + 32 * t + 5) x = I (22 + 5) x; rw [rJ _ (by omega), l6 x hx, sB _ (by omega)]
      · intro x hx; show M (187 + 32 * t + 6) x = I (22 + 6) x; rw [rJ _ (by omega), l7 x hx, sB _ (by omega)]
      · intro x hx; show M (187 + 32 * t + 7) x = I (22 + 7) x; rw [rJ _ (by omega), l8 x hx, sB _ (by omega)]
      · intro x hx; show M (187 + 32 * t + 8) x = I (22 + 8) x; rw [rJ _ (by omega), l9 x hx, sB _ (by omega)]
      · intro x hx; show M (187 + 32 * t + 9) x = I (22 + 9) x; rw [rJ _ (by omega), l10 x hx, sB _ (by omega)]
    · exact ImgR_t (fun k hk => by rw [m3' _ (by omega), r4 138 (by decide) (by decide), oi 138 (by omega)]) (by rw [m1' 139 (by decide), r44 t e, oi 139 (by omega)]) (fun j hj => by rw [rJ _ (by omega), oi _ (by omega)]) (qi t ht e)
  · rw [m1' 163 (by decide)]; exact r42
end
