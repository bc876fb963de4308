theorem s_L_telling {E : Ev} {d : Nat} {a0 : Nat} {x1 : Int32} {x2 : Int32} {x3 : Int32} {a4 : Nat} {h : Hp} {Φ : Ou → Hp → Prop} (q : OK (F_L_telling E a0 x1 x2 x3 a4 h) Φ) : CE E mL_telling (d + 6) [.ref a0, .int x1, .int x2, .int x3, .ref a4] h 2 12 Φ := by
  show WE E mL_telling (d + 6) 0 [some (.ref a0), some (.int x1), some (.int x2), some (.int x3), some (.ref a4), none] [] h 2 12 Φ
  refine r_aload eL_telling_0 rfl ?_
  refine r_iconst (v := (0)) eL_telling_2 (by decide) ?_
  refine r_aload_n eL_telling_3 rfl ?_
  refine r_iload_n eL_telling_4 rfl ?_
  refine r_iload_n eL_telling_5 rfl ?_
  refine r_iload_n eL_telling_6 rfl ?_
  refine t_virtIx (As := [_, _, _]) (rest := [_, _]) (d' := d + 0 + 5) (ci := 11) (mc := 2) (ms := 12) eL_telling_7 k_13_54 l_13_54 rfl rfl rfl (by omega) (Nat.le_of_ble_eq_true rfl) (Nat.le_of_ble_eq_true rfl) (by omega) (by omega) (fun _ q => s_X11_telling q) q (fun ex hx q => ?_) (fun v7 h7 q => ?_)
  · refine OK_ite q (fun ec q => ?_) (fun _ q => ?_)
    · subst ec
      refine Or.inr ⟨19, xh_L_telling_7_19, fun qq => ?_⟩
      refine r_astore (lv' := [_, _, _, _, _, _]) eL_telling_19 (Nat.le_of_ble_eq_true rfl) rfl ?_
      refine r_iconst (v := (2)) eL_telling_21 (by decide) ?_
      exact t_rtI eL_telling_22 rfl q
    refine OK_ite q (fun ec q => ?_) (fun _ q => ?_)
    · subst ec
      refine Or.inr ⟨15, xh_L_telling_7_15, fun qq => ?_⟩
      refine r_astore (lv' := [_, _, _, _, _, _]) eL_telling_15 (Nat.le_of_ble_eq_true rfl) rfl ?_
      refine r_iconst (v := (1)) eL_telling_17 (by decide) ?_
      exact t_rtI eL_telling_18 rfl q
    exact q.elim
  refine r_i2l eL_telling_10 ?_
  refine t_paL eL_telling_11 q (fun h11 q => ?_)
  refine r_goto (t := 23) eL_telling_12 (by decide) ?_
  refine r_iconst (v := (0)) eL_telling_23 (by decide) ?_
  exact t_rtI eL_telling_24 rfl q
theorem s_L_sayings {E : Ev} {d : Nat} {a0 : Nat} {x1 : Int32} {a2 : Nat} {h : Hp} {Φ : Ou → Hp → Prop} (q : OK (F_L_sayings E a0 x1 a2 h) Φ) : CE E mL_sayings (d + 2) [.ref a0, .int x1, .ref a2] h 1 6 Φ := by
  show WE E mL_sayings (d + 2) 0 [some (.ref a0), some (.int x1), some (.ref a2), none] [] h 1 6 Φ
  refine r_aload_n eL_sayings_0 rfl ?_
  refine r_iconst (v := (0)) eL_sayings_1 (by decide) ?_
  refine r_aload_n eL_sayings_2 rfl ?_
  refine r_iload_n eL_sayings_3 rfl ?_
  refine t_virtIx (As := [_]) (rest := [_, _]) (d' := d + 0 + 1) (ci := 11) (mc := 1) (ms := 6) eL_sayings_4 k_13_57 l_13_57 rfl rfl rfl (by omega) (Nat.le_of_ble_eq_true rfl) (Nat.le_of_ble_eq_true rfl) (by omega) (by omega) (fun _ q => s_X11_sayings q) q (fun ex hx q => ?_) (fun v4 h4 q => ?_)
  · refine OK_ite q (fun ec q => ?_) (fun _ q => ?_)
    · subst ec
      refine Or.inr ⟨12, xh_L_sayings_4_12, fun qq => ?_⟩
      refine r_astore_n (lv' := [_, _, _, _]) eL_sayings_12 (Nat.le_of_ble_eq_true rfl) rfl ?_
      refine r_iconst (v := (1)) eL_sayings_13 (by decide) ?_
      exact t_rtI eL_sayings_14 rfl q
    exact q.elim
  refine r_i2l eL_sayings_7 ?_
  refine t_paL eL_sayings_8 q (fun h8 q => ?_)
  refine r_goto (t := 15) eL_sayings_9 (by decide) ?_
  refine r_iconst (v := (0)) eL_sayings_15 (by decide) ?_
  exact t_rtI eL_sayings_16 rfl q
theorem s_L_leads {E : Ev} {d : Nat} {a0 : Nat} {x1 : Int32} {x2 : Int32} {x3 : Int32} {x4 : Int32} {x5 : Int32} {x6 : Int32} {a7 : Nat} {h : Hp} {Φ : Ou → Hp → Prop} (q : OK (F_L_leads E a0 x1 x2 x3 x4 x5 x6 a7 h) Φ) : CE E mL_leads (d + 8) [.ref a0, .int x1, .int x2, .int x3, .int x4, .int x5, .int x6, .ref a7] h 5 30 Φ := by
  show WE E mL_leads (d + 8) 0 [some (.ref a0), some (.int x1), some (.int x2), some (.int x3), some (.int x4), some (.int x5), some (.int x6), some (.ref a7), none] [] h 5 30 Φ
  refine r_aload eL_leads_0 rfl ?_
  refine r_iconst (v := (0)) eL_leads_2 (by decide) ?_
  refine r_aload_n eL_leads_3 rfl ?_
  refine r_iload_n eL_leads_4 rfl ?_
  refine r_iload_n eL_leads_5 rfl ?_
  refine r_iload_n eL_leads_6 rfl ?_
  refine r_iload eL_leads_7 rfl ?_
  refine r_iload eL_leads_9 rfl ?_
  refine r_iload eL_leads_11 rfl ?_
  refine t_virtIx (As := [_, _, _, _, _, _]) (rest := [_, _]) (d' := d + 0 + 7) (ci := 11) (mc := 5) (ms := 30) eL_leads_13 k_13_61 l_13_61 rfl rfl rfl (by omega) (Nat.le_of_ble_eq_true rfl) (Nat.le_of_ble_eq_true rfl) (by omega) (by omega) (fun _ q => s_X11_leads q) q (fun ex hx q => ?_) (fun v13 h13 q => ?_)
  · refine OK_ite q (fun ec q => ?_) (fun _ q => ?_)
    · subst ec
      refine Or.inr ⟨25, xh_L_leads_13_25, fun qq => ?_⟩
      refine r_astore (lv' := [_, _, _, _, _, _, _, _, _]) eL_leads_25 (Nat.le_of_ble_eq_true rfl) rfl ?_
      refine r_iconst (v := (2)) eL_leads_27 (by decide) ?_
      exact t_rtI eL_leads_28 rfl q
    refine OK_ite q (fun ec q => ?_) (fun _ q => ?_)
    · subst ec
      refine Or.inr ⟨21, xh_L_leads_13_21, fun qq => ?_⟩
      refine r_astore (lv' := [_, _, _, _, _, _, _, _, _]) eL_leads_21 (Nat.le_of_ble_eq_true rfl) rfl ?_
      refine r_iconst (v := (1)) eL_leads_23 (by decide) ?_
      exact t_rtI eL_leads_24 rfl q
    exact q.elim
  refine r_i2l eL_leads_16 ?_
  refine t_paL eL_leads_17 q (fun h17 q => ?_)
  refine r_goto (t := 29) eL_leads_18 (by decide) ?_
  refine r_iconst (v := (0)) eL_leads_29 (by decide) ?_
  exact t_rtI eL_leads_30 rfl q
theorem s_L_holds {E : Ev} {d : Nat} {a0 : Nat} {x1 : Int32} {x2 : Int32} {x3 : Int32} {x4 : Int32} {a5 : Nat} {h : Hp} {Φ : Ou → Hp → Prop} (q : OK (F_L_holds E a0 x1 x2 x3 x4 a5 h) Φ) : CE E mL_holds (d + 8) [.ref a0, .int x1, .int x2, .int x3, .int x4, .ref a5] h 4 24 Φ := by
  show WE E mL_holds (d + 8) 0 [some (.ref a0), some (.int x1), some (.int x2), some (.int x3), some (.int x4), some (.ref a5), none] [] h 4 24 Φ
  refine r_aload eL_holds_0 rfl ?_
  refine r_iconst (v := (0)) eL_holds_2 (by decide) ?_
  refine r_aload_n eL_holds_3 rfl ?_
  refine r_iload_n eL_holds_4 rfl ?_
  refine r_iload_n eL_holds_5 rfl ?_
  refine r_iload_n eL_holds_6 rfl ?_
  refine r_iload eL_holds_7 rfl ?_
  refine t_virtIx (As := [_, _, _, _]) (rest := [_, _]) (d' := d + 0 + 7) (ci := 11) (mc := 4) (ms := 24) eL_holds_9 k_13_64 l_13_64 rfl rfl rfl (by omega) (Nat.le_of_ble_eq_true rfl) (Nat.le_of_ble_eq_true rfl) (by omega) (by omega) (fun _ q => s_X11_holds q) q (fun ex hx q => ?_) (fun v9 h9 q => ?_)
  · refine OK_ite q (fun ec q => ?_) (fun _ q => ?_)
    · subst ec
      refine Or.inr ⟨21, xh_L_holds_9_21, fun qq => ?_⟩
      refine r_astore (lv' := [_, _, _, _, _, _, _]) eL_holds_21 (Nat.le_of_ble_eq_true rfl) rfl ?_
      refine r_iconst (v := (2)) eL_holds_23 (by decide) ?_
      exact t_rtI eL_holds_24 rfl q
    refine OK_ite q (fun ec q => ?_) (fun _ q => ?_)
    · subst ec
      refine Or.inr ⟨17, xh_L_holds_9_17, fun qq => ?_⟩
      refine r_astore (lv' := [_, _, _, _, _, _, _]) eL_holds_17 (Nat.le_of_ble_eq_true rfl) rfl ?_
      refine r_iconst (v := (1)) eL_holds_19 (by decide) ?_
      exact t_rtI eL_holds_20 rfl q
    exact q.elim
  refine r_i2l eL_holds_12 ?_
  refine t_paL eL_holds_13 q (fun h13 q => ?_)
  refine r_goto (t := 25) eL_holds_14 (by decide) ?_
  refine r_iconst (v := (0)) eL_holds_25 (by decide) ?_
  exact t_rtI eL_holds_26 rfl q
theorem s_L_end {E : Ev} {d : Nat} {a0 : Nat} {x1 : Int32} {x2 : Int32} {x3 : Int32} {x4 : Int32} {x5 : Int32} {a6 : Nat} {h : Hp} {Φ : Ou → Hp → Prop} (q : OK (F_L_end E a0 x1 x2 x3 x4 x5 a6 h) Φ) : CE E mL_end (d + 9) [.ref a0, .int x1, .int x2, .int x3, .int x4, .int x5, .ref a6] h 4 24 Φ := by
  show WE E mL_end (d + 9) 0 [some (.ref a0), some (.int x1), some (.int x2), some (.int x3), some (.int x4), some (.int x5), some (.ref a6), none] [] h 4 24 Φ
  refine r_aload eL_end_0 rfl ?_
  refine r_iconst (v := (0)) eL_end_2 (by decide) ?_
  refine r_aload_n eL_end_3 rfl ?_
  refine r_iload_n eL_end_4 rfl ?_
  refine r_iload_n eL_end_5 rfl ?_
  refine r_iload_n eL_end_6 rfl ?_
  refine r_iload eL_end_7 rfl ?_
  refine r_iload eL_end_9 rfl ?_
  refine t_virtIx (As := [_, _, _, _, _]) (rest := [_, _]) (d' := d + 0 + 8) (ci := 11) (mc := 4) (ms := 24) eL_end_11 k_13_67 l_13_67 rfl rfl rfl (by omega) (Nat.le_of_ble_eq_true rfl) (Nat.le_of_ble_eq_true rfl) (by omega) (by omega) (fun _ q => s_X11_end q) q (fun ex hx q => ?_) (fun v11 h11 q => ?_)
  · refine OK_ite q (fun ec q => ?_) (fun _ q => ?_)
    · subst ec
      refine Or.inr ⟨23, xh_L_end_11_23, fun qq => ?_⟩
      refine r_astore (lv' := [_, _, _, _, _, _, _, _]) eL_end_23 (Nat.le_of_ble_eq_true rfl) rfl ?_
      refine r_iconst (v := (2)) eL_end_25 (by decide) ?_
      exact t_rtI eL_end_26 rfl q
    refine OK_ite q (fun ec q => ?_) (fun _ q => ?_)
    · subst ec
      refine Or.inr ⟨19, xh_L_end_11_19, fun qq => ?_⟩
      refine r_astore (lv' := [_, _, _, _, _, _, _, _]) eL_end_19 (Nat.le_of_ble_eq_true rfl) rfl ?_
      refine r_iconst (v := (1)) eL_end_21 (by decide) ?_
      exact t_rtI eL_end_22 rfl q
    exact q.elim
  refine r_i2l eL_end_14 ?_
  refine t_paL eL_end_15 q (fun h15 q => ?_)
  refine r_goto (t := 27) eL_end_16 (by decide) ?_
  refine r_iconst (v := (0)) eL_end_27 (by decide) ?_
  exact t_rtI eL_end_28 rfl q
theorem s_L_right {E : Ev} {d : Nat} {a0 : Nat} {x1 : Int32} {x2 : Int32} {x3 : Int32} {x4 : Int32} {a5 : Nat} {h : Hp} {Φ : Ou → Hp → Prop} (q : OK (F_L_right E a0 x1 x2 x3 x4 a5 h) Φ) : CE E mL_right (d + 9) [.ref a0, .int x1, .int x2, .int x3, .int x4, .ref a5] h 4 24 Φ := by
  show WE E mL_right (d + 9) 0 [some (.ref a0), some (.int x1), some (.int x2), some (.int x3), some (.int x4), some (.ref a5), none] [] h 4 24 Φ
  refine r_aload eL_right_0 rfl ?_
  refine r_iconst (v := (0)) eL_right_2 (by decide) ?_
  refine r_aload_n eL_right_3 rfl ?_
  refine r_iload_n eL_right_4 rfl ?_
  refine r_iload_n eL_right_5 rfl ?_
  refine r_iload_n eL_right_6 rfl ?_
  refine r_iload eL_right_7 rfl ?_
  refine t_virtIx (As := [_, _, _, _]) (rest := [_, _]) (d' := d + 0 + 8) (ci := 11) (mc := 4) (ms := 24) eL_right_9 k_13_71 l_13_71 rfl rfl rfl (by omega) (Nat.le_of_ble_eq_true rfl) (Nat.le_of_ble_eq_true rfl) (by omega) (by omega) (fun _ q => s_X11_right q) q (fun ex hx q => ?_) (fun v9 h9 q => ?_)
  · refine OK_ite q (fun ec q => ?_) (fun _ q => ?_)
    · subst ec
      refine Or.inr ⟨28, xh_L_right_9_28, fun qq => ?_⟩
      refine r_astore (lv' := [_, _, _, _, _, _, _]) eL_right_28 (Nat.le_of_ble_eq_true rfl) rfl ?_
      refine r_iconst (v := (2)) eL_right_30 (by decide) ?_
      exact t_rtI eL_right_31 rfl q
    refine OK_ite q (fun ec q => ?_) (fun _ q => ?_)
    · subst ec
      refine Or.inr ⟨24, xh_L_right_9_24, fun qq => ?_⟩
      refine r_astore (lv' := [_, _, _, _, _, _, _]) eL_right_24 (Nat.le_of_ble_eq_true rfl) rfl ?_
      refine r_iconst (v := (1)) eL_right_26 (by decide) ?_
      exact t_rtI eL_right_27 rfl q
    exact q.elim
  refine t_if_eq eL_right_12 (t := 19) (by decide) q (fun q => ?_) (fun q => ?_)
  · refine r_lconst (v := 0) eL_right_19 rfl ?_
    refine t_paL eL_right_20 q (fun h20 q => ?_)
    refine r_goto (t := 32) eL_right_21 (by decide) ?_
    refine r_iconst (v := (0)) eL_right_32 (by decide) ?_
    exact t_rtI eL_right_33 rfl q
  refine r_lconst (v := 1) eL_right_15 rfl ?_
  refine r_goto (t := 20) eL_right_16 (by decide) ?_
  refine t_paL eL_right_20 q (fun h20 q => ?_)
  refine r_goto (t := 32) eL_right_21 (by decide) ?_
  refine r_iconst (v := (0)) eL_right_32 (by decide) ?_
  exact t_rtI eL_right_33 rfl q
theorem s_L_odds {E : Ev} {d : Nat} {a0 : Nat} {x1 : Int32} {x2 : Int32} {x3 : Int32} {x4 : Int32} {x5 : Int32} {a6 : Nat} {h : Hp} {Φ : Ou → Hp → Prop} (q : OK (F_L_odds E a0 x1 x2 x3 x4 x5 a6 h) Φ) : CE E mL_odds (d + 8) [.ref a0, .int x1, .int x2, .int x3, .int x4, .int x5, .ref a6] h 5 30 Φ := by
  show WE E mL_odds (d + 8) 0 [some (.ref a0), some (.int x1), some (.int x2), some (.int x3), some (.int x4), some (.int x5), some (.ref a6), none] [] h 5 30 Φ
  refine r_aload eL_odds_0 rfl ?_
  refine r_iconst (v := (0)) eL_odds_2 (by decide) ?_
  refine r_aload_n eL_odds_3 rfl ?_
  refine r_iload_n eL_odds_4 rfl ?_
  refine r_iload_n eL_odds_5 rfl ?_
  refine r_iload_n eL_odds_6 rfl ?_
  refine r_iload eL_odds_7 rfl ?_
  refine r_iload eL_odds_9 rfl ?_
  refine t_virtIx (As := [_, _, _, _, _]) (rest := [_, _]) (d' := d + 0 + 7) (ci := 11) (mc := 5) (ms := 30) eL_odds_11 k_13_75 l_13_75 rfl rfl rfl (by omega) (Nat.le_of_ble_eq_true rfl) (Nat.le_of_ble_eq_true rfl) (by omega) (by omega) (fun _ q => s_X11_odds q) q (fun ex hx q => ?_) (fun v11 h11 q => ?_)
  · refine OK_ite q (fun ec q => ?_) (fun _ q => ?_)
    · subst ec
      refine Or.inr ⟨23, xh_L_odds_11_23, fun qq => ?_⟩
      refine r_astore (lv' := [_, _, _, _, _, _, _, _]) eL_odds_23 (Nat.le_of_ble_eq_true rfl) rfl ?_
      refine r_iconst (v := (2)) eL_odds_25 (by decide) ?_
      exact t_rtI eL_odds_26 rfl q
    refine OK_ite q (fun ec q => ?_) (fun _ q => ?_)
    · subst ec
      refine Or.inr ⟨19, xh_L_odds_11_19, fun qq => ?_⟩
      refine r_astore (lv' := [_, _, _, _, _, _, _, _]) eL_odds_19 (Nat.le_of_ble_eq_true rfl) rfl ?_
      refine r_iconst (v := (1)) eL_odds_21 (by decide) ?_
      exact t_rtI eL_odds_22 rfl q
    exact q.elim
  refine r_i2l eL_odds_14 ?_
  refine t_paL eL_odds_15 q (fun h15 q => ?_)
  refine r_goto (t := 27) eL_odds_16 (by decide) ?_
  refine r_iconst (v := (0)) eL_odds_27 (by decide) ?_
  exact t_rtI eL_odds_28 rfl q
theorem s_L_parts {E : Ev} {d : Nat} {a0 : Nat} {x1 : Int32} {x2 : Int32} {x3 : Int32} {x4 : Int32} {a5 : Nat} {h : Hp} {Φ : Ou → Hp → Prop} (q : OK (F_L_parts E a0 x1 x2 x3 x4 a5 h) Φ) : CE E mL_parts (d + 9) [.ref a0, .int x1, .int x2, .int x3, .int x4, .ref a5] h 4 24 Φ := by
  show WE E mL_parts (d + 9) 0 [some (.ref a0), some (.int x1), some (.int x2), some (.int x3), some (.int x4), some (.ref a5), none] [] h 4 24 Φ
  refine r_aload eL_parts_0 rfl ?_
  refine r_iconst (v := (0)) eL_parts_2 (by decide) ?_
  refine r_aload_n eL_parts_3 rfl ?_
  refine r_iload_n eL_parts_4 rfl ?_
  refine r_iload_n eL_parts_5 rfl ?_
  refine r_iload_n eL_parts_6 rfl ?_
  refine r_iload eL_parts_7 rfl ?_
  refine t_virtIx (As := [_, _, _, _]) (rest := [_, _]) (d' := d + 0 + 8) (ci := 11) (mc := 4) (ms := 24) eL_parts_9 k_13_78 l_13_78 rfl rfl rfl (by omega) (Nat.le_of_ble_eq_true rfl) (Nat.le_of_ble_eq_true rfl) (by omega) (by omega) (fun _ q => s_X11_parts q) q (fun ex hx q => ?_) (fun v9 h9 q => ?_)
  · refine OK_ite q (fun ec q => ?_) (fun _ q => ?_)
    · subst ec
      refine Or.inr ⟨21, xh_L_parts_9_21, fun qq => ?_⟩
      refine r_astore (lv' := [_, _, _, _, _, _, _]) eL_parts_21 (Nat.le_of_ble_eq_true rfl) rfl ?_
      refine r_iconst (v := (2)) eL_parts_23 (by decide) ?_
      exact t_rtI eL_parts_24 rfl q
    refine OK_ite q (fun ec q => ?_) (fun _ q => ?_)
    · subst ec
      refine Or.inr ⟨17, xh_L_parts_9_17, fun qq => ?_⟩
      refine r_astore (lv' := [_, _, _, _, _, _, _]) eL_parts_17 (Nat.le_of_ble_eq_true rfl) rfl ?_
      refine r_iconst (v := (1)) eL_parts_19 (by decide) ?_
      exact t_rtI eL_parts_20 rfl q
    exact q.elim
  refine r_i2l eL_parts_12 ?_
  refine t_paL eL_parts_13 q (fun h13 q => ?_)
  refine r_goto (t := 25) eL_parts_14 (by decide) ?_
  refine r_iconst (v := (0)) eL_parts_25 (by decide) ?_
  exact t_rtI eL_parts_26 rfl q
theorem s_L_hangs {E : Ev} {d : Nat} {a0 : Nat} {x1 : Int32} {x2 : Int32} {x3 : Int32} {x4 : Int32} {x5 : Int32} {a6 : Nat} {h : Hp} {Φ : Ou → Hp → Prop} (q : OK (F_L_hangs E a0 x1 x2 x3 x4 x5 a6 h) Φ) : CE E mL_hangs (d + 9) [.ref a0, .int x1, .int x2, .int x3, .int x4, .int x5, .ref a6] h 4 24 Φ := by
  show WE E mL_hangs (d + 9) 0 [some (.ref a0), some (.int x1), some (.int x2), some (.int x3), some (.int x4), some (.int x5), some (.ref a6), none] [] h 4 24 Φ
  refine r_aload eL_hangs_0 rfl ?_
  refine r_iconst (v := (0)) eL_hangs_2 (by decide) ?_
  refine r_aload_n eL_hangs_3 rfl ?_
  refine r_iload_n eL_hangs_4 rfl ?_
  refine r_iload_n eL_hangs_5 rfl ?_
  refine r_iload_n eL_hangs_6 rfl ?_
  refine r_iload eL_hangs_7 rfl ?_
  refine r_iload eL_hangs_9 rfl ?_
  refine t_virtIx (As := [_, _, _, _, _]) (rest := [_, _]) (d' := d + 0 + 8) (ci := 11) (mc := 4) (ms := 24) eL_hangs_11 k_13_81 l_13_81 rfl rfl rfl (by omega) (Nat.le_of_ble_eq_true rfl) (Nat.le_of_ble_eq_true rfl) (by omega) (by omega) (fun _ q => s_X11_hangs q) q (fun ex hx q => ?_) (fun v11 h11 q => ?_)
  · refine OK_ite q (fun ec q => ?_) (fun _ q => ?_)
    · subst ec
      refine Or.inr ⟨23, xh_L_hangs_11_23, fun qq => ?_⟩
      refine r_astore (lv' := [_, _, _, _, _, _, _, _]) eL_hangs_23 (Nat.le_of_ble_eq_true rfl) rfl ?_
      refine r_iconst (v := (2)) eL_hangs_25 (by decide) ?_
      exact t_rtI eL_hangs_26 rfl q
    refine OK_ite q (fun ec q => ?_) (fun _ q => ?_)
    · subst ec
      refine Or.inr ⟨19, xh_L_hangs_11_19, fun qq => ?_⟩
      refine r_astore (lv' := [_, _, _, _, _, _, _, _]) eL_hangs_19 (Nat.le_of_ble_eq_true rfl) rfl ?_
      refine r_iconst (v := (1)) eL_hangs_21 (by decide) ?_
      exact t_rtI eL_hangs_22 rfl q
    exact q.elim
  refine r_i2l eL_hangs_14 ?_
  refine t_paL eL_hangs_15 q (fun h15 q => ?_)
  refine r_goto (t := 27) eL_hangs_16 (by decide) ?_
  refine r_iconst (v := (0)) eL_hangs_27 (by decide) ?_
  exact t_rtI eL_hangs_28 rfl q
theorem s_L_years {E : Ev} {d : Nat} {a0 : Nat} {x1 : Int32} {x2 : Int32} {x3 : Int32} {x4 : Int32} {a5 : Nat} {h : Hp} {Φ : Ou → Hp → Prop} (q : OK (F_L_years E a0 x1 x2 x3 x4 a5 h) Φ) : CE E mL_years (d + 9) [.ref a0, .int x1, .int x2, .int x3, .int x4, .ref a5] h 4 24 Φ := by
  show WE E mL_years (d + 9) 0 [some (.ref a0), some (.int x1), some (.int x2), some (.int x3), some (.int x4), some (.ref a5), none] [] h 4 24 Φ
  refine r_aload eL_years_0 rfl ?_
  refine r_iconst (v := (0)) eL_years_2 (by decide) ?_
  refine r_aload_n eL_years_3 rfl ?_
  refine r_iload_n eL_years_4 rfl ?_
  refine r_iload_n eL_years_5 rfl ?_
  refine r_iload_n eL_years_6 rfl ?_
  refine r_iload eL_years_7 rfl ?_
  refine t_virtIx (As := [_, _, _, _]) (rest := [_, _]) (d' := d + 0 + 8) (ci := 11) (mc := 4) (ms := 24) eL_years_9 k_13_85 l_13_85 rfl rfl rfl (by omega) (Nat.le_of_ble_eq_true rfl) (Nat.le_of_ble_eq_true rfl) (by omega) (by omega) (fun _ q => s_X11_years q) q (fun ex hx q => ?_) (fun v9 h9 q => ?_)
  · refine OK_ite q (fun ec q => ?_) (fun _ q => ?_)
    · subst ec
      refine Or.inr ⟨21, xh_L_years_9_21, fun qq => ?_⟩
      refine r_astore (lv' := [_, _, _, _, _, _, _]) eL_years_21 (Nat.le_of_ble_eq_true rfl) rfl ?_
      refine r_iconst (v := (2)) eL_years_23 (by decide) ?_
      exact t_rtI eL_years_24 rfl q
    refine OK_ite q (fun ec q => ?_) (fun _ q => ?_)
    · subst ec
      refine Or.inr ⟨17, xh_L_years_9_17, fun qq => ?_⟩
      refine r_astore (lv' := [_, _, _, _, _, _, _]) eL_years_17 (Nat.le_of_ble_eq_true rfl) rfl ?_
      refine r_iconst (v := (1)) eL_years_19 (by decide) ?_
      exact t_rtI eL_years_20 rfl q
    exact q.elim
  refine r_i2l eL_years_12 ?_
  refine t_paL eL_years_13 q (fun h13 q => ?_)
  refine r_goto (t := 25) eL_years_14 (by decide) ?_
  refine r_iconst (v := (0)) eL_years_25 (by decide) ?_
  exact t_rtI eL_years_26 rfl q
theorem s_L_two {E : Ev} {d : Nat} {a0 : Nat} {x1 : Int32} {x2 : Int32} {x3 : Int32} {x4 : Int32} {x5 : Int32} {x6 : Int32} {x7 : Int32} {a8 : Nat} {h : Hp} {Φ : Ou → Hp → Prop} (q : OK (F_L_two E a0 x1 x2 x3 x4 x5 x6 x7 a8 h) Φ) : CE E mL_two (d + 9) [.ref a0, .int x1, .int x2, .int x3, .int x4, .int x5, .int x6, .int x7, .ref a8] h 7 42 Φ := by
  show WE E mL_two (d + 9) 0 [some (.ref a0), some (.int x1), some (.int x2), some (.int x3), some (.int x4), some (.int x5), some (.int x6), some (.int x7), some (.ref a8), none] [] h 7 42 Φ
  refine r_aload eL_two_0 rfl ?_
  refine r_iconst (v := (0)) eL_two_2 (by decide) ?_
  refine r_aload_n eL_two_3 rfl ?_
  refine r_iload_n eL_two_4 rfl ?_
  refine r_iload_n eL_two_5 rfl ?_
  refine r_iload_n eL_two_6 rfl ?_
  refine r_iload eL_two_7 rfl ?_
  refine r_iload eL_two_9 rfl ?_
  refine r_iload eL_two_11 rfl ?_
  refine r_iload eL_two_13 rfl ?_
  refine t_virtIx (As := [_, _, _, _, _, _, _]) (rest := [_, _]) (d' := d + 0 + 8) (ci := 11) (mc := 7) (ms := 42) eL_two_15 k_13_88 l_13_88 rfl rfl rfl (by omega) (Nat.le_of_ble_eq_true rfl) (Nat.le_of_ble_eq_true rfl) (by omega) (by omega) (fun _ q => s_X11_two q) q (fun ex hx q => ?_) (fun v15 h15 q => ?_)
  · refine OK_ite q (fun ec q => ?_) (fun _ q => ?_)
    · subst ec
      refine Or.inr ⟨27, xh_L_two_15_27, fun qq => ?_⟩
      refine r_astore (lv' := [_, _, _, _, _, _, _, _, _, _]) eL_two_27 (Nat.le_of_ble_eq_true rfl) rfl ?_
      refine r_iconst (v := (2)) eL_two_29 (by decide) ?_
      exact t_rtI eL_two_30 rfl q
    refine OK_ite q (fun ec q => ?_) (fun _ q => ?_)
    · subst ec
      refine Or.inr ⟨23, xh_L_two_15_23, fun qq => ?_⟩
      refine r_astore (lv' := [_, _, _, _, _, _, _, _, _, _]) eL_two_23 (Nat.le_of_ble_eq_true rfl) rfl ?_
      refine r_iconst (v := (1)) eL_two_25 (by decide) ?_
      exact t_rtI eL_two_26 rfl q
    exact q.elim
  refine r_i2l eL_two_18 ?_
  refine t_paL eL_two_19 q (fun h19 q => ?_)
  refine r_goto (t := 31) eL_two_20 (by decide) ?_
  refine r_iconst (v := (0)) eL_two_31 (by decide) ?_
  exact t_rtI eL_two_32 rfl q
theorem s_L_ask {E : Ev} {d : Nat} {a0 : Nat} {x1 : Int32} {x2 : Int32} {x3 : Int32} {x4 : Int32} {x5 : Int32} {x6 : Int32} {x7 : Int32} {a8 : Nat} {h : Hp} {Φ : Ou → Hp → Prop} (q : OK (F_L_ask E a0 x1 x2 x3 x4 x5 x6 x7 a8 h) Φ) : CE E mL_ask (d + 9) [.ref a0, .int x1, .int x2, .int x3, .int x4, .int x5, .int x6, .int x7, .ref a8] h 6 36 Φ := by
  show WE E mL_ask (d + 9) 0 [some (.ref a0), some (.int x1), some (.int x2), some (.int x3), some (.int x4), some (.int x5), some (.int x6), some (.int x7), some (.ref a8), none] [] h 6 36 Φ
  refine r_aload eL_ask_0 rfl ?_
  refine r_iconst (v := (0)) eL_ask_2 (by decide) ?_
  refine r_aload_n eL_ask_3 rfl ?_
  refine r_iload_n eL_ask_4 rfl ?_
  refine r_iload_n eL_ask_5 rfl ?_
  refine r_iload_n eL_ask_6 rfl ?_
  refine r_iload eL_ask_7 rfl ?_
  refine r_iload eL_ask_9 rfl ?_
  refine r_iload eL_ask_11 rfl ?_
  refine r_iload eL_ask_13 rfl ?_
  refine t_virtIx (As := [_, _, _, _, _, _, _]) (rest := [_, _]) (d' := d + 0 + 8) (ci := 11) (mc := 6) (ms := 36) eL_ask_15 k_13_92 l_13_92 rfl rfl rfl (by omega) (Nat.le_of_ble_eq_true rfl) (Nat.le_of_ble_eq_true rfl) (by omega) (by omega) (fun _ q => s_X11_ask q) q (fun ex hx q => ?_) (fun v15 h15 q => ?_)
  · refine OK_ite q (fun ec q => ?_) (fun _ q => ?_)
    · subst ec
      refine Or.inr ⟨27, xh_L_ask_15_27, fun qq => ?_⟩
      refine r_astore (lv' := [_, _, _, _, _, _, _, _, _, _]) eL_ask_27 (Nat.le_of_ble_eq_true rfl) rfl ?_
      refine r_iconst (v := (2)) eL_ask_29 (by decide) ?_
      exact t_rtI eL_ask_30 rfl q
    refine OK_ite q (fun ec q => ?_) (fun _ q => ?_)
    · subst ec
      refine Or.inr ⟨23, xh_L_ask_15_23, fun qq => ?_⟩
      refine r_astore (lv' := [_, _, _, _, _, _, _, _, _, _]) eL_ask_23 (Nat.le_of_ble_eq_true rfl) rfl ?_
      refine r_iconst (v := (1)) eL_ask_25 (by decide) ?_
      exact t_rtI eL_ask_26 rfl q
    exact q.elim
  refine r_i2l eL_ask_18 ?_
  refine t_paL eL_ask_19 q (fun h19 q => ?_)
  refine r_goto (t := 31) eL_ask_20 (by decide) ?_
  refine r_iconst (v := (0)) eL_ask_31 (by decide) ?_
  exact t_rtI eL_ask_32 rfl q
theorem s_L_shortest {E : Ev} {d : Nat} {a0 : Nat} {x1 : Int32} {x2 : Int32} {x3 : Int32} {x4 : Int32} {x5 : Int32} {x6 : Int32} {a7 : Nat} {h : Hp} {Φ : Ou → Hp → Prop} (q : OK (F_L_shortest E a0 x1 x2 x3 x4 x5 x6 a7 h) Φ) : CE E mL_shortest (d + 12) [.ref a0, .int x1, .int x2, .int x3, .int x4, .int x5, .int x6, .ref a7] h 5 30 Φ := by
  show WE E mL_shortest (d + 12) 0 [some (.ref a0), some (.int x1), some (.int x2), some (.int x3), some (.int x4), some (.int x5), some (.int x6), some (.ref a7), none] [] h 5 30 Φ
  refine r_aload eL_shortest_0 rfl ?_
  refine r_iconst (v := (0)) eL_shortest_2 (by decide) ?_
  refine r_aload_n eL_shortest_3 rfl ?_
  refine r_iload_n eL_shortest_4 rfl ?_
  refine r_iload_n eL_shortest_5 rfl ?_
  refine r_iload_n eL_shortest_6 rfl ?_
  refine r_iload eL_shortest_7 rfl ?_
  refine r_iload eL_shortest_9 rfl ?_
  refine r_iload eL_shortest_11 rfl ?_
  refine t_virtIx (As := [_, _, _, _, _, _]) (rest := [_, _]) (d' := d + 0 + 11) (ci := 11) (mc := 5) (ms := 30) eL_shortest_13 k_13_96 l_13_96 rfl rfl rfl (by omega) (Nat.le_of_ble_eq_true rfl) (Nat.le_of_ble_eq_true rfl) (by omega) (by omega) (fun _ q => s_X11_shortest q) q (fun ex hx q => ?_) (fun v13 h13 q => ?_)
  · refine OK_ite q (fun ec q => ?_) (fun _ q => ?_)
    · subst ec
      refine Or.inr ⟨25, xh_L_shortest_13_25, fun qq => ?_⟩
      refine r_astore (lv' := [_, _, _, _, _, _, _, _, _]) eL_shortest_25 (Nat.le_of_ble_eq_true rfl) rfl ?_
      refine r_iconst (v := (2)) eL_shortest_27 (by decide) ?_
      exact t_rtI eL_shortest_28 rfl q
    refine OK_ite q (fun ec q => ?_) (fun _ q => ?_)
    · subst ec
      refine Or.inr ⟨21, xh_L_shortest_13_21, fun qq => ?_⟩
      refine r_astore (lv' := [_, _, _, _, _, _, _, _, _]) eL_shortest_21 (Nat.le_of_ble_eq_true rfl) rfl ?_
      refine r_iconst (v := (1)) eL_shortest_23 (by decide) ?_
      exact t_rtI eL_shortest_24 rfl q
    exact q.elim
  refine r_i2l eL_shortest_16 ?_
  refine t_paL eL_shortest_17 q (fun h17 q => ?_)
  refine r_goto (t := 29) eL_shortest_18 (by decide) ?_
  refine r_iconst (v := (0)) eL_shortest_29 (by decide) ?_
  exact t_rtI eL_shortest_30 rfl q
theorem s_L_went {E : Ev} {d : Nat} {a0 : Nat} {x1 : Int32} {x2 : Int32} {x3 : Int32} {x4 : Int32} {x5 : Int32} {a6 : Nat} {h : Hp} {Φ : Ou → Hp → Prop} (q : OK (F_L_went E a0 x1 x2 x3 x4 x5 a6 h) Φ) : CE E mL_went (d + 3) [.ref a0, .int x1, .int x2, .int x3, .int x4, .int x5, .ref a6] h 5 30 Φ := by
  show WE E mL_went (d + 3) 0 [some (.ref a0), some (.int x1), some (.int x2), some (.int x3), some (.int x4), some (.int x5), some (.ref a6), none] [] h 5 30 Φ
  refine r_aload eL_went_0 rfl ?_
  refine r_iconst (v := (0)) eL_went_2 (by decide) ?_
  refine r_aload_n eL_went_3 rfl ?_
  refine r_iload_n eL_went_4 rfl ?_
  refine r_iload_n eL_went_5 rfl ?_
  refine r_iload_n eL_went_6 rfl ?_
  refine r_iload eL_went_7 rfl ?_
  refine r_iload eL_went_9 rfl ?_
  refine t_virtIx (As := [_, _, _, _, _]) (rest := [_, _]) (d' := d + 0 + 2) (ci := 11) (mc := 5) (ms := 30) eL_went_11 k_13_99 l_13_99 rfl rfl rfl (by omega) (Nat.le_of_ble_eq_true rfl) (Nat.le_of_ble_eq_true rfl) (by omega) (by omega) (fun _ q => s_X11_went q) q (fun ex hx q => ?_) (fun v11 h11 q => ?_)
  · refine OK_ite q (fun ec q => ?_) (fun _ q => ?_)
    · subst ec
      refine Or.inr ⟨23, xh_L_went_11_23, fun qq => ?_⟩
      refine r_astore (lv' := [_, _, _, _, _, _, _, _]) eL_went_23 (Nat.le_of_ble_eq_true rfl) rfl ?_
      refine r_iconst (v := (2)) eL_went_25 (by decide) ?_
      exact t_rtI eL_went_26 rfl q
    refine OK_ite q (fun ec q => ?_) (fun _ q => ?_)
    · subst ec
      refine Or.inr ⟨19, xh_L_went_11_19, fun qq => ?_⟩
      refine r_astore (lv' := [_, _, _, _, _, _, _, _]) eL_went_19 (Nat.le_of_ble_eq_true rfl) rfl ?_
      refine r_iconst (v := (1)) eL_went_21 (by decide) ?_
      exact t_rtI eL_went_22 rfl q
    exact q.elim
  refine r_i2l eL_went_14 ?_
  refine t_paL eL_went_15 q (fun h15 q => ?_)
  refine r_goto (t := 27) eL_went_16 (by decide) ?_
  refine r_iconst (v := (0)) eL_went_27 (by decide) ?_
  exact t_rtI eL_went_28 rfl q
theorem s_L_learned {E : Ev} {d : Nat} {a0 : Nat} {x1 : Int32} {x2 : Int32} {a3 : Nat} {h : Hp} {Φ : Ou → Hp → Prop} (q : OK (F_L_learned E a0 x1 x2 a3 h) Φ) : CE E mL_learned (d + 9) [.ref a0, .int x1, .int x2, .ref a3] h 2 12 Φ := by
  show WE E mL_learned (d + 9) 0 [some (.ref a0), some (.int x1), some (.int x2), some (.ref a3), none] [] h 2 12 Φ
  refine r_aload_n eL_learned_0 rfl ?_
  refine r_iconst (v := (0)) eL_learned_1 (by decide) ?_
  refine r_aload_n eL_learned_2 rfl ?_
  refine r_iload_n eL_learned_3 rfl ?_
  refine r_iload_n eL_learned_4 rfl ?_
  refine t_virtIx (As := [_, _]) (rest := [_, _]) (d' := d + 0 + 8) (ci := 11) (mc := 2) (ms := 12) eL_learned_5 k_13_102 l_13_102 rfl rfl rfl (by omega) (Nat.le_of_ble_eq_true rfl) (Nat.le_of_ble_eq_true rfl) (by omega) (by omega) (fun _ q => s_X11_learned q) q (fun ex hx q => ?_) (fun v5 h5 q => ?_)
  · refine OK_ite q (fun ec q => ?_) (fun _ q => ?_)
    · subst ec
      refine Or.inr ⟨13, xh_L_learned_5_13, fun qq => ?_⟩
      refine r_astore (lv' := [_, _, _, _, _]) eL_learned_13 (Nat.le_of_ble_eq_true rfl) rfl ?_
      refine r_iconst (v := (1)) eL_learned_15 (by decide) ?_
      exact t_rtI eL_learned_16 rfl q
    exact q.elim
  refine r_i2l eL_learned_8 ?_
  refine t_paL eL_learned_9 q (fun h9 q => ?_)
  refine r_goto (t := 17) eL_learned_10 (by decide) ?_
  refine r_iconst (v := (0)) eL_learned_17 (by decide) ?_
  exact t_rtI eL_learned_18 rfl q
theorem s_L_told {E : Ev} {d : Nat} {a0 : Nat} {x1 : Int32} {x2 : Int32} {a3 : Nat} {h : Hp} {Φ : Ou → Hp → Prop} (q : OK (F_L_told E a0 x1 x2 a3 h) Φ) : CE E mL_told (d + 2) [.ref a0, .int x1, .int x2, .ref a3] h 1 6 Φ := by
  show WE E mL_told (d + 2) 0 [some (.ref a0), some (.int x1), some (.int x2), some (.ref a3), none] [] h 1 6 Φ
  refine r_aload_n eL_told_0 rfl ?_
  refine r_iconst (v := (0)) eL_told_1 (by decide) ?_
  refine r_aload_n eL_told_2 rfl ?_
  refine r_iload_n eL_told_3 rfl ?_
  refine r_iload_n eL_told_4 rfl ?_
  refine t_virtIx (As := [_, _]) (rest := [_, _]) (d' := d + 0 + 1) (ci := 11) (mc := 1) (ms := 6) eL_told_5 k_13_105 l_13_105 rfl rfl rfl (by omega) (Nat.le_of_ble_eq_true rfl) (Nat.le_of_ble_eq_true rfl) (by omega) (by omega) (fun _ q => s_X11_told q) q (fun ex hx q => ?_) (fun v5 h5 q => ?_)
  · refine OK_ite q (fun ec q => ?_) (fun _ q => ?_)
    · subst ec
      refine Or.inr ⟨13, xh_L_told_5_13, fun qq => ?_⟩
      refine r_astore (lv' := [_, _, _, _, _]) eL_told_13 (Nat.le_of_ble_eq_true rfl) rfl ?_
      refine r_iconst (v := (1)) eL_told_15 (by decide) ?_
      exact t_rtI eL_told_16 rfl q
    exact q.elim
  refine r_i2l eL_told_8 ?_
  refine t_paL eL_told_9 q (fun h9 q => ?_)
  refine r_goto (t := 17) eL_told_10 (by decide) ?_
  refine r_iconst (v := (0)) eL_told_17 (by decide) ?_
  exact t_rtI eL_told_18 rfl q
theorem s_L_tray {E : Ev} {d : Nat} {a0 : Nat} {x1 : Int32} {x2 : Int32} {x3 : Int32} {h : Hp} {Φ : Ou → Hp → Prop} (q : OK (F_L_tray E a0 x1 x2 x3 h) Φ) : CE E mL_tray (d + 3) [.ref a0, .int x1, .int x2, .int x3] h 2 12 Φ := by
  show WE E mL_tray (d + 3) 0 [some (.ref a0), some (.int x1), some (.int x2), some (.int x3), none] [] h 2 12 Φ
  refine r_aload_n eL_tray_0 rfl ?_
  refine r_iload_n eL_tray_1 rfl ?_
  refine r_iload_n eL_tray_2 rfl ?_
  refine r_iload_n eL_tray_3 rfl ?_
  refine t_virtVx (As := [_, _, _]) (rest := []) (d' := d + 0 + 2) (ci := 11) (mc := 2) (ms := 12) eL_tray_4 k_13_109 l_13_109 rfl rfl rfl (by omega) (Nat.le_of_ble_eq_true rfl) (Nat.le_of_ble_eq_true rfl) (by omega) (by omega) (fun _ q => s_X11_tray q) q (fun ex hx q => ?_) (fun h4 q => ?_)
  · refine OK_ite q (fun ec q => ?_) (fun _ q => ?_)
    · subst ec
      refine Or.inr ⟨14, xh_L_tray_4_14, fun qq => ?_⟩
      refine r_astore (lv' := [_, _, _, _, _]) eL_tray_14 (Nat.le_of_ble_eq_true rfl) rfl ?_
      refine r_iconst (v := (2)) eL_tray_16 (by decide) ?_
      exact t_rtI eL_tray_17 rfl q
    refine OK_ite q (fun ec q => ?_) (fun _ q => ?_)
    · subst ec
      refine Or.inr ⟨10, xh_L_tray_4_10, fun qq => ?_⟩
      refine r_astore (lv' := [_, _, _, _, _]) eL_tray_10 (Nat.le_of_ble_eq_true rfl) rfl ?_
      refine r_iconst (v := (1)) eL_tray_12 (by decide) ?_
      exact t_rtI eL_tray_13 rfl q
    exact q.elim
  refine r_goto (t := 18) eL_tray_7 (by decide) ?_
  refine r_iconst (v := (0)) eL_tray_18 (by decide) ?_
  exact t_rtI eL_tray_19 rfl q
theorem s_L_write {E : Ev} {d : Nat} {a0 : Nat} {x1 : Int32} {x2 : Int32} {x3 : Int64} {a5 : Nat} {h : Hp} {Φ : Ou → Hp → Prop} (q : OK (F_L_write E a0 x1 x2 x3 a5 h) Φ) : CE E mL_write (d + 2) [.ref a0, .int x1, .int x2, .long x3, .ref a5] h 3 18 Φ := by
  show WE E mL_write (d + 2) 0 [some (.ref a0), some (.int x1), some (.int x2), some (.long x3), none, some (.ref a5), none] [] h 3 18 Φ
  refine r_aload eL_write_0 rfl ?_
  refine r_iconst (v := (0)) eL_write_2 (by decide) ?_
  refine r_aload_n eL_write_3 rfl ?_
  refine r_iload_n eL_write_4 rfl ?_
  refine r_iload_n eL_write_5 rfl ?_
  refine r_lload_n eL_write_6 rfl ?_
  refine t_virtLx (As := [_, _, _]) (rest := [_, _]) (d' := d + 0 + 1) (ci := 11) (mc := 3) (ms := 18) eL_write_7 k_13_113 l_13_113 rfl rfl rfl (by omega) (Nat.le_of_ble_eq_true rfl) (Nat.le_of_ble_eq_true rfl) (by omega) (by omega) (fun _ q => s_X11_write q) q (fun ex hx q => ?_) (fun v7 h7 q => ?_)
  · refine OK_ite q (fun ec q => ?_) (fun _ q => ?_)
    · subst ec
      refine Or.inr ⟨18, xh_L_write_7_18, fun qq => ?_⟩
      refine r_astore (lv' := [_, _, _, _, _, _, _]) eL_write_18 (Nat.le_of_ble_eq_true rfl) rfl ?_
      refine r_iconst (v := (2)) eL_write_20 (by decide) ?_
      exact t_rtI eL_write_21 rfl q
    refine OK_ite q (fun ec q => ?_) (fun _ q => ?_)
    · subst ec
      refine Or.inr ⟨22, xh_L_write_7_22, fun qq => ?_⟩
      refine r_astore (lv' := [_, _, _, _, _, _, _]) eL_write_22 (Nat.le_of_ble_eq_true rfl) rfl ?_
      refine r_iconst (v := (3)) eL_write_24 (by decide) ?_
      exact t_rtI eL_write_25 rfl q
    refine OK_ite q (fun ec q => ?_) (fun _ q => ?_)
    · subst ec
      refine Or.inr ⟨14, xh_L_write_7_14, fun qq => ?_⟩
      refine r_astore (lv' := [_, _, _, _, _, _, _]) eL_write_14 (Nat.le_of_ble_eq_true rfl) rfl ?_
      refine r_iconst (v := (1)) eL_write_16 (by decide) ?_
      exact t_rtI eL_write_17 rfl q
    exact q.elim
  refine t_paL eL_write_10 q (fun h10 q => ?_)
  refine r_goto (t := 26) eL_write_11 (by decide) ?_
  refine r_iconst (v := (0)) eL_write_26 (by decide) ?_
  exact t_rtI eL_write_27 rfl q
theorem s_L_say {E : Ev} {d : Nat} {a0 : Nat} {x1 : Int32} {x2 : Int32} {x3 : Int32} {a4 : Nat} {h : Hp} {Φ : Ou → Hp → Prop} (q : OK (F_L_say E a0 x1 x2 x3 a4 h) Φ) : CE E mL_say (d + 4) [.ref a0, .int x1, .int x2, .int x3, .ref a4] h 4 24 Φ := by
  show WE E mL_say (d + 4) 0 [some (.ref a0), some (.int x1), some (.int x2), some (.int x3), some (.ref a4), none] [] h 4 24 Φ
  refine r_aload eL_say_0 rfl ?_
  refine r_iconst (v := (0)) eL_say_2 (by decide) ?_
  refine r_aload_n eL_say_3 rfl ?_
  refine r_iload_n eL_say_4 rfl ?_
  refine r_iload_n eL_say_5 rfl ?_
  refine r_iload_n eL_say_6 rfl ?_
  refine t_virtIx (As := [_, _, _]) (rest := [_, _]) (d' := d + 0 + 3) (ci := 11) (mc := 4) (ms := 24) eL_say_7 k_13_121 l_13_121 rfl rfl rfl (by omega) (Nat.le_of_ble_eq_true rfl) (Nat.le_of_ble_eq_true rfl) (by omega) (by omega) (fun _ q => s_X11_say q) q (fun ex hx q => ?_) (fun v7 h7 q => ?_)
  · refine OK_ite q (fun ec q => ?_) (fun _ q => ?_)
    · subst ec
      refine Or.inr ⟨23, xh_L_say_7_23, fun qq => ?_⟩
      refine r_astore (lv' := [_, _, _, _, _, _]) eL_say_23 (Nat.le_of_ble_eq_true rfl) rfl ?_
      refine r_iconst (v := (3)) eL_say_25 (by decide) ?_
      exact t_rtI eL_say_26 rfl q
    refine OK_ite q (fun ec q => ?_) (fun _ q => ?_)
    · subst ec
      refine Or.inr ⟨19, xh_L_say_7_19, fun qq => ?_⟩
      refine r_astore (lv' := [_, _, _, _, _, _]) eL_say_19 (Nat.le_of_ble_eq_true rfl) rfl ?_
      refine r_iconst (v := (2)) eL_say_21 (by decide) ?_
      exact t_rtI eL_say_22 rfl q
    refine OK_ite q (fun ec q => ?_) (fun _ q => ?_)
    · subst ec
      refine Or.inr ⟨15, xh_L_say_7_15, fun qq => ?_⟩
      refine r_astore (lv' := [_, _, _, _, _, _]) eL_say_15 (Nat.le_of_ble_eq_true rfl) rfl ?_
      refine r_iconst (v := (1)) eL_say_17 (by decide) ?_
      exact t_rtI eL_say_18 rfl q
    exact q.elim
  refine r_i2l eL_say_10 ?_
  refine t_paL eL_say_11 q (fun h11 q => ?_)
  refine r_goto (t := 27) eL_say_12 (by decide) ?_
  refine r_iconst (v := (0)) eL_say_27 (by decide) ?_
  exact t_rtI eL_say_28 rfl q
theorem s_L_restore {E : Ev} {d : Nat} {a0 : Nat} {x1 : Int32} {h : Hp} {Φ : Ou → Hp → Prop} (q : OK (F_L_restore E a0 x1 h) Φ) : CE E mL_restore (d + 2) [.ref a0, .int x1] h 2 12 Φ := by
  show WE E mL_restore (d + 2) 0 [some (.ref a0), some (.int x1), none] [] h 2 12 Φ
  refine r_aload_n eL_restore_0 rfl ?_
  refine r_iload_n eL_restore_1 rfl ?_
  refine t_virtVx (As := [_]) (rest := []) (d' := d + 0 + 1) (ci := 11) (mc := 2) (ms := 12) eL_restore_2 k_13_128 l_13_128 rfl rfl rfl (by omega) (Nat.le_of_ble_eq_true rfl) (Nat.le_of_ble_eq_true rfl) (by omega) (by omega) (fun _ q => s_X11_restore q) q (fun ex hx q => ?_) (fun h2 q => ?_)
  · refine OK_ite q (fun ec q => ?_) (fun _ q => ?_)
    · subst ec
      refine Or.inr ⟨11, xh_L_restore_2_11, fun qq => ?_⟩
      refine r_astore_n (lv' := [_, _, _]) eL_restore_11 (Nat.le_of_ble_eq_true rfl) rfl ?_
      refine r_iconst (v := (2)) eL_restore_12 (by decide) ?_
      exact t_rtI eL_restore_13 rfl q
    refine OK_ite q (fun ec q => ?_) (fun _ q => ?_)
    · subst ec
      refine Or.inr ⟨8, xh_L_restore_2_8, fun qq => ?_⟩
      refine r_astore_n (lv' := [_, _, _]) eL_restore_8 (Nat.le_of_ble_eq_true rfl) rfl ?_
      refine r_iconst (v := (1)) eL_restore_9 (by decide) ?_
      exact t_rtI eL_restore_10 rfl q
    exact q.elim
  refine r_goto (t := 14) eL_restore_5 (by decide) ?_
  refine r_iconst (v := (0)) eL_restore_14 (by decide) ?_
  exact t_rtI eL_restore_15 rfl q
