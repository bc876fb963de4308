/-! image: the whole call, and the law's lines for it -/
section
variable {E : Ev} {w : Wo} {I : Nat → Nat → Int32} {L : Nat → Nat → Int64} {Q : Nat → Nat → Option Nat} {c : Nat → Nat} {x : Int32} {Φ : Ou → Hp → Prop}
/-- after image: a new world, whose words are those of the old -/
def ImgG (E : Ev) (w : Wo) (L : Nat → Nat → Int64) (x : Int32) (h : Hp) : Prop := ∃ (w' : Wo) (J M : Nat → Nat → Int32) (Q' : Nat → Nat → Option Nat), (∀ k, k < 165 → rr w' k = rr w k) ∧ h = Hw E w' J L Q' ∧ F_X12_image E (rr w' 163) x (Hw E w' J L Q') = rtV (Hw E w' M L Q') ∧ Inv w' M L Q' ∧ M 163 3 = 0
abbrev ImgO (E : Ev) (w : Wo) (I : Nat → Nat → Int32) (L : Nat → Nat → Int64) (Q : Nat → Nat → Option Nat) (x : Int32) : Ou → Hp → Prop := Ex (fun v h => v = none ∧ ImgG E w L x h) (fun e h => e = "java/util/NoSuchElementException" ∧ ¬ bl x 3 ∧ h = Hw E w I L Q)
theorem img_71 {w' : Wo} {I' : Nat → Nat → Int32} {Q' : Nat → Nat → Option Nat} {i d kc ks : Nat} (hG : 100000 ≤ E.2.2.1) (hi : i < 3) (hr : ∀ k, k < 165 → rr w' k = rr w k) (q : ImgP w' I' L Q' c i) : WE E mX11_image (d + 1) 71 [some (.ref (rr w 136)), some (.int (nI i))] [] (Hw E w' I' L Q') kc ks (ImgO E w I L Q (nI i)) := by
  obtain ⟨q1, q2, q3, q4, q5, q6, q7, q8, q9, q10, q11, q12, qi, o1, o2, o3, o5⟩ := q
  obtain ⟨J, M, e1, e2, e3, e4⟩ := img71 (E := E) (w := w') (L := L) hG hi q1 q2 q3 q4 q5 q6 q7 q8 q9 q10 q11 q12 qi o1 o2 o3 o5
  refine sJ_X11_image_71 ?_
  rw [← hr 136 (by decide), e1]
  exact ⟨rfl, w', J, M, Q', hr, rfl, e2, e3, e4⟩
theorem s_X11_image {d : Nat} (hG : 100000 ≤ E.2.2.1) (q : InvC w I L Q c) : CE E mX11_image (d + 1) [.ref (rr w 136), .int x] (Hw E w I L Q) 120 3100 (ImgO E w I L Q x) := by
  show WE E mX11_image (d + 1) 0 [some (.ref (rr w 136)), some (.int x)] [] (Hw E w I L Q) 120 3100 (ImgO E w I L Q x)
  have A0 : Hw E w I L Q (rr w 136) = some (.inr (11, fls w I L Q 136 [3, 18, 25, 35, 43, 57, 66, 124, 127, 128, 129, 130])) := Hw_at (lv_of (by decide))
  have B5 : Hw E w I L Q (rr w 125) = some (.inl (E.1 5, 3, .inr (.inr (.inr (.inr (fun f => (Q 125 f).map (rr w))))))) := Hw_at (lv_of (by decide))
  have B6 : Hw E w I L Q (rr w 126) = some (.inl (E.1 6, 3, .inr (.inr (.inr (.inr (fun f => (Q 126 f).map (rr w))))))) := Hw_at (lv_of (by decide))
  have B7 : Hw E w I L Q (rr w 127) = some (.inl (E.1 7, 3, .inr (.inr (.inr (.inr (fun f => (Q 127 f).map (rr w))))))) := Hw_at (lv_of (by decide))
  refine r_aload_n eX11_image_0 rfl ?_
  refine r_iload_n eX11_image_1 rfl ?_
  refine r_virtX (As := [.int x]) (rest := []) (b := rr w 136) (d' := d) (mc := 1) (ms := 6) (post := fun v h => v = none ∧ bl x 3 ∧ h = Hw E w I L Q) (xs := fun e h => e = "java/util/NoSuchElementException" ∧ ¬ bl x 3 ∧ h = Hw E w I L Q) eX11_image_2 k_11_411 l_11_411 rfl A0 rfl rfl rfl (Nat.le_of_ble_eq_true rfl) (Nat.le_of_ble_eq_true rfl) (by omega) (by omega) (s_X11_needImage ?_) (fun e h z => Or.inl ⟨rfl, z⟩) (fun v h z => ?_)
  · rw [f_needImage]
    unfold nd
    by_cases hb : bl x 3
    · rw [if_pos hb]; exact ⟨rfl, hb, rfl⟩
    · rw [if_neg hb]; exact ⟨rfl, hb, rfl⟩
  obtain ⟨rfl, ⟨i, rfl, hi⟩, rfl⟩ := z
  have hin : vp_in (nI i) 3 := vp_in_nI (by omega) (by decide)
  have hcl : (nI i).toNatClampNeg = i := nI_clamp (by omega)
  have q' := q
  obtain ⟨q1, q2, q3, q4, q5, q6, q7, q8, q9, q10, q11, q12, q13⟩ := q
  refine r_aload_n eX11_image_5 rfl ?_
  refine r_getf (v := .ref (rr w 125)) eX11_image_6 f_11_77 A0 rfl ?_
  refine r_iload_n eX11_image_9 rfl ?_
  rcases q13 i hi with ⟨o1, o2, o3, o4, o5⟩ | ⟨o1, o2, o3, o4, o5, c', w1, w2, w3, w4⟩
  · refine r_aald (t := 5) (v := .null) eX11_image_10 B5 ⟨by decide, by decide⟩ hin (by show va_rf ((Q 125 _).map _) = _; rw [hcl, o1]; rfl) ?_
    refine r_ifnull_n (t := 32) eX11_image_11 (by decide) ?_
    exact img32 (c := c) hi q' o5 (by omega) (by omega) (fun w' I' Q' hr p kc' ks' _ _ => img_71 (c := c) hG hi hr p)
  · refine r_aald (t := 5) (v := .ref (rr w (165 + 32 * i))) eX11_image_10 B5 ⟨by decide, by decide⟩ hin (by show va_rf ((Q 125 _).map _) = _; rw [hcl, o1]; rfl) ?_
    refine r_ifnull_r eX11_image_11 ?_
    refine r_aload_n eX11_image_14 rfl ?_
    refine r_getf (v := .ref (rr w 126)) eX11_image_15 f_11_81 A0 rfl ?_
    refine r_iload_n eX11_image_18 rfl ?_
    refine r_aald (t := 6) (v := .ref (rr w (180 + 32 * i))) eX11_image_19 B6 ⟨by decide, by decide⟩ hin (by show va_rf ((Q 126 _).map _) = _; rw [hcl, o2]; rfl) ?_
    refine r_ifnull_r eX11_image_20 ?_
    refine r_aload_n eX11_image_23 rfl ?_
    refine r_getf (v := .ref (rr w 127)) eX11_image_24 f_11_85 A0 rfl ?_
    refine r_iload_n eX11_image_27 rfl ?_
    refine r_aald (t := 7) (v := .ref (rr w (187 + 32 * i))) eX11_image_28 B7 ⟨by decide, by decide⟩ hin (by show va_rf ((Q 127 _).map _) = _; rw [hcl, o3]; rfl) ?_
    refine r_ifnonnull_r (t := 71) eX11_image_29 (by decide) ?_
    exact img_71 (c := c) hG hi (fun _ _ => rfl) ⟨q1, q2, q3, q4, q5, q6, q7, q8, q9, q10, q11, q12, fun t ht _ => q13 t ht, o1, o2, o3, o5⟩
theorem s_L_image {d : Nat} (hG : 100000 ≤ E.2.2.1) (q : InvC w I L Q c) : CE E mL_image (d + 2) [.ref (rr w 136), .int x] (Hw E w I L Q) 120 3100 (Ex (fun v h => (v = some (.int 0) ∧ ImgG E w L x h) ∨ (v = some (.int 1) ∧ ¬ bl x 3 ∧ h = Hw E w I L Q)) No) := by
  show WE E mL_image (d + 2) 0 [some (.ref (rr w 136)), some (.int x), none] [] (Hw E w I L Q) 120 3100 _
  have A0 : Hw E w I L Q (rr w 136) = some (.inr (11, fls w I L Q 136 [3, 18, 25, 35, 43, 57, 66, 124, 127, 128, 129, 130])) := Hw_at (lv_of (by decide))
  refine r_aload_n eL_image_0 rfl ?_
  refine r_iload_n eL_image_1 rfl ?_
  refine r_virtX (As := [.int x]) (rest := []) (b := rr w 136) (d' := d + 1) (mc := 120) (ms := 3100) eL_image_2 k_13_124 l_13_124 rfl A0 rfl rfl rfl (Nat.le_of_ble_eq_true rfl) (Nat.le_of_ble_eq_true rfl) (by omega) (by omega) (s_X11_image hG q) (fun e h z => ?_) (fun v h z => ?_)
  · obtain ⟨rfl, z⟩ := z
    refine Or.inr ⟨8, xh_L_image_2_8, fun qq => ?_⟩
    refine r_astore_n (lv' := [_, _, _]) eL_image_8 (Nat.le_of_ble_eq_true rfl) rfl ?_
    refine r_iconst (v := (1)) eL_image_9 (by decide) ?_
    exact r_iret eL_image_10 rfl (Or.inr ⟨rfl, z⟩)
  · obtain ⟨rfl, z⟩ := z
    refine r_goto (t := 11) eL_image_5 (by decide) ?_
    refine r_iconst (v := (0)) eL_image_11 (by decide) ?_
    exact r_iret eL_image_12 rfl (Or.inl ⟨rfl, z⟩)
theorem r_gaS {M : Mth} {d pc nx kc ks a : Nat} {i v : Int32} {lv : Lv} {st : List Value} {h : Hp} (hd : dc M pc .iaload 1 nx) (e : gaS E a i = some v) (k : WE E M d nx lv (.int v :: st) h kc ks Φ) : WE E M d pc lv (.int i :: .ref a :: st) h kc ks Φ := by
  obtain ⟨n, f, e1, e2, rfl⟩ := gaS_s e
  exact r_iald_ro hd e1 e2 k
theorem f_image_no (hb : ¬ bl x 3) : F_X12_image E (rr w 163) x (Hw E w I L Q) = rtV (Hw E w (up2 I 163 3 1) L Q) := by
  have p1 : ¬ bd x 0 2 := fun ⟨n, e, h1, h2⟩ => hb ⟨n, e, by omega⟩
  unfold F_X12_image J_X12_image_18
  simp only [Option.bind_some, Option.map_some, Option.join, cI_r, cL_r, cV_r, xI_r, xL_r, xV_r, xI_t, xL_t, xV_t, lt_r, rtZ_0, rtZ_1, rtZ_zb, f_wi 2 (by decide) (show (nI 2).toInt64 = 2 by rfl), zi_f p1, pf163_3, gf163_3, up2_s, show ¬ (1 : Int32) ≤ 0 by decide, if_false]
/-- the law's lines after L_image: the reference says the same -/
theorem law_3267 {b d i kc ks : Nat} {v5 : Int32} {z6 z7 : Option Value} {M : Nat → Nat → Int32} (hg : gaS E b (nI i + 1) = some x) (e2 : F_X12_image E (rr w 163) x (Hw E w I L Q) = rtV (Hw E w M L Q)) (e4 : M 163 3 = v5) (k23 : ∀ z5, WE E mL_law (d + 13) 23 [some (.ref b), some (.ref (rr w 136)), some (.ref (rr w 163)), some (.ref (rr w 164)), some (.int (nI i + 8)), z5, z6, z7] [] (Hw E w M L Q) kc ks Φ) : WE E mL_law (d + 13) 3267 [some (.ref b), some (.ref (rr w 136)), some (.ref (rr w 163)), some (.ref (rr w 164)), some (.int (nI i)), some (.int v5), z6, z7] [] (Hw E w I L Q) kc ks Φ := by
  obtain ⟨fs, A0⟩ : ∃ fs, Hw E w I L Q (rr w 163) = some (.inr (12, fs)) := ⟨_, Hw_at (lv_of (by decide))⟩
  obtain ⟨fs', A1⟩ : ∃ fs, Hw E w M L Q (rr w 163) = some (.inr (12, fs)) := ⟨_, Hw_at (lv_of (by decide))⟩
  refine r_aload_n eL_law_3267 rfl ?_
  refine r_aload_n eL_law_3268 rfl ?_
  refine r_iload eL_law_3269 rfl ?_
  refine r_iconst (v := (1)) eL_law_3271 (by decide) ?_
  refine r_iadd eL_law_3272 ?_
  refine r_gaS eL_law_3273 hg ?_
  refine r_virt (As := [.int x]) (rest := []) (b := rr w 163) (d' := d + 12) (mc := 0) (ms := 0) (post := fun v h => v = none ∧ h = Hw E w M L Q) eL_law_3274 k_13_267 rfl A0 rfl rfl rfl (Nat.le_of_ble_eq_true rfl) (Nat.le_of_ble_eq_true rfl) (by omega) (by omega) (s_X12_image (d := d + 11) (by rw [e2]; exact ⟨rfl, rfl⟩)) (fun v h z => ?_)
  obtain ⟨rfl, rfl⟩ := z
  refine r_aload_n eL_law_3277 rfl ?_
  refine r_virt (As := []) (rest := []) (b := rr w 163) (d' := d + 12) (mc := 0) (ms := 0) (post := fun v h => v = some (.int v5) ∧ h = Hw E w M L Q) eL_law_3278 k_13_141 rfl A1 rfl rfl rfl (Nat.le_of_ble_eq_true rfl) (Nat.le_of_ble_eq_true rfl) (by omega) (by omega) (s_X12_thrown (d := d + 12) (by rw [f_thrown, e4]; exact ⟨rfl, rfl⟩)) (fun v h z => ?_)
  obtain ⟨rfl, rfl⟩ := z
  refine r_iload eL_law_3281 rfl ?_
  refine r_icmp_eq eL_law_3283 (t := 3288) (by decide) (fun _ => ?_) (fun z => absurd rfl z)
  refine r_goto (t := 3352) eL_law_3288 (by decide) ?_
  refine r_iinc (v := (8)) (lv' := [_, _, _, _, _, _, _, _]) eL_law_3352 rfl (by decide) rfl ?_
  refine r_goto (t := 23) eL_law_3355 (by decide) ?_
  exact k23 _
theorem law_3255 {b d i kc ks : Nat} {z5 z6 z7 : Option Value} (hG : 100000 ≤ E.2.2.1) (q : Inv w I L Q) (hg : gaS E b (nI i + 1) = some x) (hc : 120 ≤ kc) (hs : 3100 ≤ ks) (k23 : ∀ (w' : Wo) I' L' Q', (∀ k, k < 165 → rr w' k = rr w k) → Inv w' I' L' Q' → ∀ z5, WE E mL_law (d + 13) 23 [some (.ref b), some (.ref (rr w 136)), some (.ref (rr w 163)), some (.ref (rr w 164)), some (.int (nI i + 8)), z5, z6, z7] [] (Hw E w' I' L' Q') (kc - 120) (ks - 3100) Φ) : WE E mL_law (d + 13) 3255 [some (.ref b), some (.ref (rr w 136)), some (.ref (rr w 163)), some (.ref (rr w 164)), some (.int (nI i)), z5, z6, z7] [] (Hw E w I L Q) kc ks Φ := by
  obtain ⟨c, q⟩ := q
  have qc : InvC w I L Q c := q
  refine r_aload_n eL_law_3255 rfl ?_
  refine r_aload_n eL_law_3256 rfl ?_
  refine r_iload eL_law_3257 rfl ?_
  refine r_iconst (v := (1)) eL_law_3259 (by decide) ?_
  refine r_iadd eL_law_3260 ?_
  refine r_gaS eL_law_3261 hg ?_
  refine r_stat (As := [.ref (rr w 136), .int x]) (rest := []) (d' := d + 12) (mc := 120) (ms := 3100) eL_law_3262 k_13_264 rfl rfl (Nat.le_of_ble_eq_true rfl) (Nat.le_of_ble_eq_true rfl) hc hs (s_L_image (d := d + 10) hG qc) (fun v h z => ?_)
  rcases z with ⟨rfl, w', J, M, Q', hr, rfl, e2, e3, e4⟩ | ⟨rfl, hb, rfl⟩
  · refine r_istore (lv' := [_, _, _, _, _, _, _, _]) eL_law_3265 (Nat.le_of_ble_eq_true rfl) rfl ?_
    have := law_3267 (E := E) (w := w') (I := J) (L := L) (Q := Q') (Φ := Φ) (d := d) (kc := kc - 120) (ks := ks - 3100) (b := b) (i := i) (z6 := z6) (z7 := z7) hg e2 e4 (fun z5 => by rw [hr 136 (by decide), hr 163 (by decide), hr 164 (by decide)]; exact k23 w' M L Q' hr e3 z5)
    rw [hr 136 (by decide), hr 163 (by decide), hr 164 (by decide)] at this
    exact this
  · refine r_istore (lv' := [_, _, _, _, _, _, _, _]) eL_law_3265 (Nat.le_of_ble_eq_true rfl) rfl ?_
    exact law_3267 hg (f_image_no hb) (up2_s _ _ _ _) (fun z5 => k23 w _ L Q (fun _ _ => rfl) (Inv_t ⟨c, q⟩) z5)
end
