/-! write -/
/-- a call of the law with a long answer -/
def OpL (E : Ev) (w : Wo) (fc fm : Hp → Rs) (I : Nat → Nat → Int32) (L : Nat → Nat → Int64) (Q : Nat → Nat → Option Nat) : Prop := ∃ (k : Int32) (b : Int64) (I1 I2 : Nat → Nat → Int32) (L1 L2 : Nat → Nat → Int64) (Q1 Q2 : Nat → Nat → Option Nat), fc (Hw E w I L Q) = rtI k (Hw E w I1 L1 Q1) ∧ fm (Hw E w I1 L1 Q1) = rtL b (Hw E w I2 L2 Q2) ∧ Inv w I2 L2 Q2 ∧ I2 163 3 = k ∧ (k = 0 → L2 164 0 = b)
def cutV (κ : Nat) (x : Int64) : Int64 := match κ with | 0 => x.toInt32.toInt8.toInt32.toInt64 | 1 => x.toInt32.toInt16.toInt32.toInt64 | 2 => x.toInt32.toInt64 | _ => x
theorem cut_n {κ : Nat} (h : κ < 4) (x : Int64) : (x <<< (((64 : Int32) - ((8 : Int32) <<< (nI κ &&& 31))).toInt64 &&& 63)) >>> (((64 : Int32) - ((8 : Int32) <<< (nI κ &&& 31))).toInt64 &&& 63) = cutV κ x := by
  have c := cut_sh x
  have : κ = 0 ∨ κ = 1 ∨ κ = 2 ∨ κ = 3 := by omega
  rcases this with rfl | rfl | rfl | rfl
  · exact c.1
  · exact c.2.1
  · exact c.2.2.1
  · exact c.2.2.2
section
variable {E : Ev} {w : Wo} {I : Nat → Nat → Int32} {L : Nat → Nat → Int64} {Q : Nat → Nat → Option Nat} {c : Nat → Nat} {x y : Int32}
theorem ty_o {t : Nat} (ht : t < 4) : isO (Hw E w I L Q) (rr w (128 + 2 * t)) 8 = some () := isO_w (lv_of (by omega)) (sh_tray ht).1
theorem ty_0 {t : Nat} (ht : t < 4) : gfI (Hw E w I L Q) (rr w (128 + 2 * t)) 8 0 = some (I (128 + 2 * t) 0) := gfI_w (lv_of (by omega)) (sh_tray ht).1 rfl
theorem ty_1 {t : Nat} (ht : t < 4) : gfI (Hw E w I L Q) (rr w (128 + 2 * t)) 8 1 = some (I (128 + 2 * t) 1) := gfI_w (lv_of (by omega)) (sh_tray ht).1 rfl
theorem ty_2 {t : Nat} (ht : t < 4) : gfI (Hw E w I L Q) (rr w (128 + 2 * t)) 8 2 = some (I (128 + 2 * t) 2) := gfI_w (lv_of (by omega)) (sh_tray ht).1 rfl
theorem ty_3 {t : Nat} (ht : t < 4) : gfR (Hw E w I L Q) (rr w (128 + 2 * t)) 8 3 = some (rr w (129 + 2 * t)) := by
  rw [show 129 + 2 * t = 128 + 2 * t + 1 by omega]; exact gfC_w (lv_of (by omega)) (sh_tray ht).1 rfl
theorem la_ty {t : Nat} (ht : t < 4) : LA w (129 + 2 * t) 12 := ⟨lv_of (by omega), (sh_tray ht).2, by decide⟩
theorem f_cut {t κ : Nat} {v : Int64} (ht : t < 4) (hk : κ < 4) (e : I (128 + 2 * t) 1 = nI κ) : F_X8_cut E (rr w (128 + 2 * t)) v (Hw E w I L Q) = rtL (cutV κ v) (Hw E w I L Q) := by
  unfold F_X8_cut
  rw [ty_1 ht, Option.bind_some, e]
  have : κ = 0 ∨ κ = 1 ∨ κ = 2 ∨ κ = 3 := by omega
  rcases this with rfl | rfl | rfl | rfl
  · rw [if_pos (by decide)]; rfl
  · rw [if_neg (by decide), if_pos (by decide)]; rfl
  · rw [if_neg (by decide), if_neg (by decide), if_pos (by decide)]; rfl
  · rw [if_neg (by decide), if_neg (by decide), if_neg (by decide)]; rfl
theorem op_write (hG : 100000 ≤ E.2.2.1) (q : Inv w I L Q) (x1 x2 : Int32) (x3 : Int64) : OpL E w (fun h => F_L_write E (rr w 136) x1 x2 x3 (rr w 164) h) (fun h => F_X12_write E (rr w 163) x1 x2 x3 h) I L Q := by
  have q0 := q
  obtain ⟨c, q1, q2, q3, q4, q5, q6, q7, q8, q9, q10, q11, q12, q13⟩ := q
  by_cases p1 : bl x1 4
  · have p1' := p1
    obtain ⟨t, rfl, ht⟩ := p1'
    have qt : Q 124 t = some (128 + 2 * t) := q10.2 t ht
    rcases q12 t ht with ⟨o1, o2⟩ | ⟨o1, ⟨κ, o2, hκ⟩, o3, ⟨n, o4, -, hn⟩, o5, o6⟩
    · refine ⟨2, (0 : Int32).toInt64, I, up2 (up2 I 163 3 0) 163 3 2, L, L, Q, Q, ?_, ?_, Inv_t (Inv_t q0), up2_s _ _ _ _, fun e => absurd e (by decide)⟩
      · show F_L_write E (rr w 136) (nI t) x2 x3 (rr w 164) (Hw E w I L Q) = _
        unfold F_L_write F_X11_write F_X11_needLaid
        simp only [Option.bind_some, Option.map_some, Option.join, cI_r, cL_r, cV_r, xI_r, xL_r, xV_r, xI_t, xL_t, xV_t, lt_r, rtZ_0, rtZ_1, rtZ_zb, o136, f_needTray, nd_t p1, gf136_8, ga124, ix_n ht (show 4 < 2 ^ 31 by decide), qt, id_eq, ty_0 ht, o1, if_neg (show ¬ (1 : Int32) = 0 by decide), if_true]
      · show F_X12_write E (rr w 163) (nI t) x2 x3 _ = _
        unfold F_X12_write
        have o2' : (up2 I 163 3 0) 160 t = -1 := o2
        simp only [Option.bind_some, Option.map_some, Option.join, cI_r, cL_r, cV_r, xI_r, xL_r, xV_r, xI_t, xL_t, xV_t, lt_r, rtZ_0, rtZ_1, rtZ_zb, pf163_3, o163, f_isTray, zn_t p1, gf163_37, ga160, ix_n ht (show 4 < 2 ^ 31 by decide), o2', not_true_eq_false, if_false, f_fails]
    · have o3' : I (128 + 2 * t) 1 = nI κ := o3.trans o2
      have o5' : I (128 + 2 * t) 2 = nI n := o5.trans o4
      have ne1 : ¬ I 160 t = -1 := by rw [o2]; exact m1_ne (by omega)
      by_cases p2 : bl x2 n
      · have z2 := (bl_iff (by omega)).mp p2
        have p2' := p2
        obtain ⟨j, rfl, hj⟩ := p2'
        have wi : ((0 : Int64) ≤ (nI j).toInt64 ∧ (nI j).toInt64 ≤ (nI n - 1).toInt64) ↔ bl (nI j) n := by
          rw [i64_l0, i64_le]; exact bl_ref (by omega)
        generalize ev : cutV κ x3 = v
        have e12 : ix ((12 : Int32) * nI t + nI j) 48 = some (12 * t + j) := by rw [m12, pk_mul, nI_add]; exact ix_n (by omega) (by decide)
        refine ⟨0, v, I, up2 I 163 3 0, up2 (up2 L (129 + 2 * t) j v) 164 0 v, up2 (up2 (up2 L (129 + 2 * t) j v) 164 0 v) 162 (12 * t + j) v, Q, Q, ?_, ?_, ?_, up2_s _ _ _ _, fun _ => by rw [up2_row _ _ (by decide), up2_s]⟩
        · show F_L_write E (rr w 136) (nI t) (nI j) x3 (rr w 164) (Hw E w I L Q) = _
          unfold F_L_write F_X11_write F_X11_needLaid
          simp only [Option.bind_some, Option.map_some, Option.join, cI_r, cL_r, cV_r, xI_r, xL_r, xV_r, xI_t, xL_t, xV_t, lt_r, rtZ_0, rtZ_1, rtZ_zb, o136, f_needTray, nd_t p1, gf136_8, ga124, ix_n ht (show 4 < 2 ^ 31 by decide), qt, id_eq, ty_0 ht, ty_2 ht, ty_3 ht, ty_o ht, o1, o5', if_true, if_neg z2.1, if_pos z2.2, f_cut ht hκ o3', ev, (la_ty ht).pa, (la_ty ht).ga, ix_n (show j < 12 by omega) (show 12 < 2 ^ 31 by decide), up2_s, pa164, ix01]
        · show F_X12_write E (rr w 163) (nI t) (nI j) x3 _ = _
          unfold F_X12_write
          have o2' : (up2 I 163 3 0) 160 t = nI κ := o2
          have o4' : (up2 I 163 3 0) 161 t = nI n := o4
          simp only [Option.bind_some, Option.map_some, Option.join, cI_r, cL_r, cV_r, xI_r, xL_r, xV_r, xI_t, xL_t, xV_t, lt_r, rtZ_0, rtZ_1, rtZ_zb, pf163_3, o163, f_isTray, zn_t p1, gf163_37, ga160, ix_n ht (show 4 < 2 ^ 31 by decide), o2', if_pos (show ¬ nI κ = -1 from m1_ne (by omega)), gf163_38, ga161, o4', wi_t, zb_c wi, zn_t p2, gf163_39, cut_n hκ, ev, pa162, ga162, e12, up2_s]
        · refine Inv_tr q0 ?_ ?_ ?_ ?_
          · intro k h1 h2 h3 h4
            rw [up2_row _ _ h4]
          · intro i hi
            rw [up2_i _ _ _ hi]
          · intro k h1 h2 h3
            rw [up2_row _ _ h2, up2_row _ _ h3, up2_row _ _ (by omega)]
          · intro j' hj'
            have o := q12 j' hj'
            unfold TrayR at *
            rw [up2_row _ _ (show 128 + 2 * j' ≠ 163 by omega), up2_row _ _ (show 160 ≠ 163 by decide), up2_row _ _ (show 161 ≠ 163 by decide)]
            rcases o with o | ⟨r1, r2, r3, r4, r5, r6⟩
            · exact Or.inl o
            · refine Or.inr ⟨r1, r2, r3, r4, r5, fun k hk => ?_⟩
              by_cases e : j' = t ∧ k = j
              · obtain ⟨rfl, rfl⟩ := e
                rw [up2_s, up2_row _ _ (by omega), up2_row _ _ (by omega), up2_s]
              · rw [up2_row _ _ (by omega), up2_row _ _ (by omega)]
                rw [show up2 (up2 (up2 L (129 + 2 * t) j v) 164 0 v) 162 (12 * t + j) v 162 (12 * j' + k) = L 162 (12 * j' + k) by rw [up2_i _ _ _ (by omega), up2_row _ _ (by decide), up2_row _ _ (by omega)]]
                rw [up2_ne _ _ _ _ (fun z => e ⟨by have := (Prod.mk.inj z).1; omega, (Prod.mk.inj z).2⟩)]
                exact r6 k hk
      · have wi : ((0 : Int64) ≤ x2.toInt64 ∧ x2.toInt64 ≤ (nI n - 1).toInt64) ↔ bl x2 n := by
          rw [i64_l0, i64_le]; exact bl_ref (by omega)
        refine ⟨3, (0 : Int32).toInt64, I, up2 (up2 I 163 3 0) 163 3 3, L, L, Q, Q, ?_, ?_, Inv_t (Inv_t q0), up2_s _ _ _ _, fun e => absurd e (by decide)⟩
        · show F_L_write E (rr w 136) (nI t) x2 x3 (rr w 164) (Hw E w I L Q) = _
          unfold F_L_write F_X11_write F_X11_needLaid
          by_cases c1 : x2 < 0
          · simp only [Option.bind_some, Option.map_some, Option.join, cI_r, cL_r, cV_r, xI_r, xL_r, xV_r, xI_t, xL_t, xV_t, lt_r, rtZ_0, rtZ_1, rtZ_zb, o136, f_needTray, nd_t p1, gf136_8, ga124, ix_n ht (show 4 < 2 ^ 31 by decide), qt, id_eq, ty_0 ht, o1, if_true, if_pos c1, String.reduceEq, if_false]
          · have c2 : ¬ x2 < nI n := fun z => p2 ((bl_iff (by omega)).mpr ⟨c1, z⟩)
            simp only [Option.bind_some, Option.map_some, Option.join, cI_r, cL_r, cV_r, xI_r, xL_r, xV_r, xI_t, xL_t, xV_t, lt_r, rtZ_0, rtZ_1, rtZ_zb, o136, f_needTray, nd_t p1, gf136_8, ga124, ix_n ht (show 4 < 2 ^ 31 by decide), qt, id_eq, ty_0 ht, ty_2 ht, o1, o5', if_true, if_neg c1, if_neg c2, String.reduceEq, if_false]
        · show F_X12_write E (rr w 163) (nI t) x2 x3 _ = _
          unfold F_X12_write
          have o2' : (up2 I 163 3 0) 160 t = nI κ := o2
          have o4' : (up2 I 163 3 0) 161 t = nI n := o4
          simp only [Option.bind_some, Option.map_some, Option.join, cI_r, cL_r, cV_r, xI_r, xL_r, xV_r, xI_t, xL_t, xV_t, lt_r, rtZ_0, rtZ_1, rtZ_zb, pf163_3, o163, f_isTray, zn_t p1, gf163_37, ga160, ix_n ht (show 4 < 2 ^ 31 by decide), o2', if_pos (show ¬ nI κ = -1 from m1_ne (by omega)), gf163_38, ga161, o4', wi_t, zb_c wi, zn_f p2, f_fails]
  · refine ⟨1, (0 : Int32).toInt64, I, up2 (up2 I 163 3 0) 163 3 1, L, L, Q, Q, ?_, ?_, Inv_t (Inv_t q0), up2_s _ _ _ _, fun e => absurd e (by decide)⟩
    · show F_L_write E (rr w 136) x1 x2 x3 (rr w 164) (Hw E w I L Q) = _
      unfold F_L_write F_X11_write
      simp only [Option.bind_some, Option.map_some, Option.join, cI_r, cL_r, cV_r, xI_r, xL_r, xV_r, xI_t, xL_t, xV_t, lt_r, rtZ_0, rtZ_1, rtZ_zb, o136, f_needTray, nd_f p1, String.reduceEq, if_false, if_true]
    · show F_X12_write E (rr w 163) x1 x2 x3 _ = _
      unfold F_X12_write
      simp only [Option.bind_some, Option.map_some, Option.join, cI_r, cL_r, cV_r, xI_r, xL_r, xV_r, xI_t, xL_t, xV_t, lt_r, rtZ_0, rtZ_1, rtZ_zb, pf163_3, o163, f_isTray, zn_f p1, f_fails]
end
