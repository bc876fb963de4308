theorem sL_X11_parts_43 {E : Ev} {d kc ks : Nat} {Φ : Ou → Hp → Prop} {y0 : Nat} {y1 : Int32} {y2 : Int32} {y3 : Int32} {y4 : Int32} {y5 : Int64} {y7 : Int64}  : ∀ (g : Nat) (y9 : Int32) (h : Hp), OK (L_X11_parts_43 E y0 y5 y7 g y9 h) Φ → WE E mX11_parts (d + 8) 43 [some (.ref y0), some (.int y1), some (.int y2), some (.int y3), some (.int y4), some (.long y5), none, some (.long y7), none, some (.int y9)] [] h kc ks Φ := by
  intro g
  induction g with
  | zero => intro y9 h q; exact q.elim
  | succ g ih =>
    intro y9 h q
    refine r_iload eX11_parts_43 rfl ?_
    refine r_bipush (v := (12)) eX11_parts_45 (by decide) ?_
    refine t_icmp_ge eX11_parts_47 (t := 77) (by decide) q (fun q => ?_) (fun q => ?_)
    · refine r_iconst (v := (-1)) eX11_parts_77 (by decide) ?_
      exact t_rtI eX11_parts_78 rfl q
    refine r_lload eX11_parts_50 rfl ?_
    refine r_aload_n eX11_parts_52 rfl ?_
    refine t_gfR eX11_parts_53 f_11_44 q (fun v53 q => ?_)
    refine r_iload eX11_parts_56 rfl ?_
    refine t_virtL (As := [_]) (rest := [_]) (d' := d + 4 + 3) (ci := 9) eX11_parts_58 k_11_218 rfl rfl rfl (by omega) (Nat.le_of_ble_eq_true rfl) (Nat.le_of_ble_eq_true rfl) (fun _ q => s_X9_seenPlaces q) q (fun v58 h58 q => ?_)
    refine r_land eX11_parts_61 ?_
    refine r_lload eX11_parts_62 rfl ?_
    refine t_lc_ne eX11_parts_64 eX11_parts_65 (t := 71) (by decide) q (fun q => ?_) (fun q => ?_)
    · refine r_iinc (v := (1)) (lv' := [_, _, _, _, _, _, _, _, _, _]) eX11_parts_71 rfl (by decide) rfl ?_
      refine r_goto (t := 43) eX11_parts_74 (by decide) ?_
      exact ih _ _ q
    refine r_iload eX11_parts_68 rfl ?_
    exact t_rtI eX11_parts_70 rfl q
theorem s_X11_parts {E : Ev} {d : Nat} {a0 : Nat} {x1 : Int32} {x2 : Int32} {x3 : Int32} {x4 : Int32} {h : Hp} {Φ : Ou → Hp → Prop} (q : OK (F_X11_parts E a0 x1 x2 x3 x4 h) Φ) : CE E mX11_parts (d + 8) [.ref a0, .int x1, .int x2, .int x3, .int x4] h 4 24 Φ := by
  show WE E mX11_parts (d + 8) 0 [some (.ref a0), some (.int x1), some (.int x2), some (.int x3), some (.int x4), none, none, none, none, none] [] h 4 24 Φ
  refine r_aload_n eX11_parts_0 rfl ?_
  refine r_iload_n eX11_parts_1 rfl ?_
  refine r_iload_n eX11_parts_2 rfl ?_
  refine r_iload_n eX11_parts_3 rfl ?_
  refine r_iload eX11_parts_4 rfl ?_
  refine t_virtVx (As := [_, _, _, _]) (rest := []) (d' := d + 6 + 1) (ci := 11) (mc := 4) (ms := 24) eX11_parts_6 k_11_278 l_11_278 rfl rfl rfl (by omega) (Nat.le_of_ble_eq_true rfl) (Nat.le_of_ble_eq_true rfl) (by omega) (by omega) (fun _ q => s_X11_needTold q) q (fun _ _ q => Or.inl ⟨rfl, q⟩) (fun h6 q => ?_)
  refine r_aload_n eX11_parts_9 rfl ?_
  refine r_iload_n eX11_parts_10 rfl ?_
  refine r_iload eX11_parts_11 rfl ?_
  refine t_virtV (As := [_, _]) (rest := []) (d' := d + 4 + 3) (ci := 11) eX11_parts_13 k_11_215 rfl rfl rfl (by omega) (Nat.le_of_ble_eq_true rfl) (Nat.le_of_ble_eq_true rfl) (fun _ q => s_X11_setOut q) q (fun h13 q => ?_)
  refine r_aload_n eX11_parts_16 rfl ?_
  refine t_gfR eX11_parts_17 f_11_44 q (fun v17 q => ?_)
  refine r_iload_n eX11_parts_20 rfl ?_
  refine r_iload_n eX11_parts_21 rfl ?_
  refine t_virtL (As := [_, _]) (rest := []) (d' := d + 0 + 7) (ci := 9) eX11_parts_22 k_11_286 rfl rfl rfl (by omega) (Nat.le_of_ble_eq_true rfl) (Nat.le_of_ble_eq_true rfl) (fun _ q => s_X9_lastPlaces q) q (fun v22 h22 q => ?_)
  refine r_lstore (lv' := [_, _, _, _, _, _, _, _, _, _]) eX11_parts_25 (Nat.le_of_ble_eq_true rfl) rfl ?_
  refine r_lconst (v := 1) eX11_parts_27 rfl ?_
  refine r_aload_n eX11_parts_28 rfl ?_
  refine t_gfR eX11_parts_29 f_11_26 q (fun v29 q => ?_)
  refine t_gfR eX11_parts_32 f_11_306 q (fun v32 q => ?_)
  refine r_iload_n eX11_parts_35 rfl ?_
  refine t_gaI eX11_parts_36 q (fun v36 q => ?_)
  refine r_lshl eX11_parts_37 ?_
  replace q := OK_lt q
  refine r_lstore (lv' := [_, _, _, _, _, _, _, _, _, _]) eX11_parts_38 (Nat.le_of_ble_eq_true rfl) rfl ?_
  refine r_iconst (v := (0)) eX11_parts_40 (by decide) ?_
  refine r_istore (lv' := [_, _, _, _, _, _, _, _, _, _]) eX11_parts_41 (Nat.le_of_ble_eq_true rfl) rfl ?_
  exact sL_X11_parts_43  _ _ _ q
theorem sL_X11_hangs_34 {E : Ev} {d kc ks : Nat} {Φ : Ou → Hp → Prop} {y0 : Nat} {y1 : Int32} {y2 : Int32} {y3 : Int32} {y4 : Int32} {y5 : Int32}  : ∀ (g : Nat) (y6 : Int32) (y7 : Int32) (h : Hp), OK (L_X11_hangs_34 E y0 y1 y3 y5 g y6 y7 h) Φ → WE E mX11_hangs (d + 8) 34 [some (.ref y0), some (.int y1), some (.int y2), some (.int y3), some (.int y4), some (.int y5), some (.int y6), some (.int y7)] [] h kc ks Φ := by
  intro g
  induction g with
  | zero => intro y6 y7 h q; exact q.elim
  | succ g ih =>
    intro y6 y7 h q
    refine r_iload eX11_hangs_34 rfl ?_
    refine r_iconst (v := (4)) eX11_hangs_36 (by decide) ?_
    refine r_aload_n eX11_hangs_37 rfl ?_
    refine t_gfR eX11_hangs_38 f_11_12 q (fun v38 q => ?_)
    refine t_gfI eX11_hangs_41 f_11_124 q (fun v41 q => ?_)
    refine r_imul eX11_hangs_44 ?_
    refine t_icmp_ge eX11_hangs_45 (t := 103) (by decide) q (fun q => ?_) (fun q => ?_)
    · refine r_iload eX11_hangs_103 rfl ?_
      exact t_rtI eX11_hangs_105 rfl q
    refine r_aload_n eX11_hangs_48 rfl ?_
    refine t_gfR eX11_hangs_49 f_11_12 q (fun v49 q => ?_)
    refine t_gfR eX11_hangs_52 f_11_150 q (fun v52 q => ?_)
    refine r_iload eX11_hangs_55 rfl ?_
    refine t_gaI eX11_hangs_57 q (fun v57 q => ?_)
    refine r_iload_n eX11_hangs_58 rfl ?_
    refine t_icmp_ne eX11_hangs_59 (t := 97) (by decide) q (fun q => ?_) (fun q => ?_)
    · refine r_iinc (v := (2)) (lv' := [_, _, _, _, _, _, _, _]) eX11_hangs_97 rfl (by decide) rfl ?_
      refine r_goto (t := 34) eX11_hangs_100 (by decide) ?_
      exact ih _ _ _ q
    refine r_aload_n eX11_hangs_62 rfl ?_
    refine t_gfR eX11_hangs_63 f_11_35 q (fun v63 q => ?_)
    refine t_gfL eX11_hangs_66 f_11_309 q (fun v66 q => ?_)
    refine r_iload eX11_hangs_69 rfl ?_
    refine r_iconst (v := (2)) eX11_hangs_71 (by decide) ?_
    refine r_ishr eX11_hangs_72 ?_
    refine t_statI (As := [_, _]) (rest := []) (d' := d + 7 + 0) eX11_hangs_73 k_11_225 rfl (by omega) (Nat.le_of_ble_eq_true rfl) (Nat.le_of_ble_eq_true rfl) (fun _ q => s_X11_isIn q) q (fun v73 h73 q => ?_)
    refine t_if_eq eX11_hangs_76 (t := 97) (by decide) q (fun q => ?_) (fun q => ?_)
    · refine r_iinc (v := (2)) (lv' := [_, _, _, _, _, _, _, _]) eX11_hangs_97 rfl (by decide) rfl ?_
      refine r_goto (t := 34) eX11_hangs_100 (by decide) ?_
      exact ih _ _ _ q
    refine r_aload_n eX11_hangs_79 rfl ?_
    refine t_gfR eX11_hangs_80 f_11_44 q (fun v80 q => ?_)
    refine r_iload_n eX11_hangs_83 rfl ?_
    refine r_iload eX11_hangs_84 rfl ?_
    refine t_virtI (As := [_, _]) (rest := []) (d' := d + 0 + 7) (ci := 9) eX11_hangs_86 k_11_294 rfl rfl rfl (by omega) (Nat.le_of_ble_eq_true rfl) (Nat.le_of_ble_eq_true rfl) (fun _ q => s_X9_getsThere q) q (fun v86 h86 q => ?_)
    refine r_iload eX11_hangs_89 rfl ?_
    refine t_icmp_ne eX11_hangs_91 (t := 97) (by decide) q (fun q => ?_) (fun q => ?_)
    · refine r_iinc (v := (2)) (lv' := [_, _, _, _, _, _, _, _]) eX11_hangs_97 rfl (by decide) rfl ?_
      refine r_goto (t := 34) eX11_hangs_100 (by decide) ?_
      exact ih _ _ _ q
    refine r_iinc (v := (1)) (lv' := [_, _, _, _, _, _, _, _]) eX11_hangs_94 rfl (by decide) rfl ?_
    refine r_iinc (v := (2)) (lv' := [_, _, _, _, _, _, _, _]) eX11_hangs_97 rfl (by decide) rfl ?_
    refine r_goto (t := 34) eX11_hangs_100 (by decide) ?_
    exact ih _ _ _ q
theorem s_X11_hangs {E : Ev} {d : Nat} {a0 : Nat} {x1 : Int32} {x2 : Int32} {x3 : Int32} {x4 : Int32} {x5 : Int32} {h : Hp} {Φ : Ou → Hp → Prop} (q : OK (F_X11_hangs E a0 x1 x2 x3 x4 x5 h) Φ) : CE E mX11_hangs (d + 8) [.ref a0, .int x1, .int x2, .int x3, .int x4, .int x5] h 4 24 Φ := by
  show WE E mX11_hangs (d + 8) 0 [some (.ref a0), some (.int x1), some (.int x2), some (.int x3), some (.int x4), some (.int x5), none, none] [] h 4 24 Φ
  refine r_aload_n eX11_hangs_0 rfl ?_
  refine r_iload_n eX11_hangs_1 rfl ?_
  refine t_virtVx (As := [_]) (rest := []) (d' := d + 7 + 0) (ci := 11) (mc := 1) (ms := 6) eX11_hangs_2 k_11_272 l_11_272 rfl rfl rfl (by omega) (Nat.le_of_ble_eq_true rfl) (Nat.le_of_ble_eq_true rfl) (by omega) (by omega) (fun _ q => s_X11_needTelling q) q (fun _ _ q => Or.inl ⟨rfl, q⟩) (fun h2 q => ?_)
  refine r_aload_n eX11_hangs_5 rfl ?_
  refine r_iload_n eX11_hangs_6 rfl ?_
  refine t_virtVx (As := [_]) (rest := []) (d' := d + 7 + 0) (ci := 11) (mc := 1) (ms := 6) eX11_hangs_7 k_11_212 l_11_212 rfl rfl rfl (by omega) (Nat.le_of_ble_eq_true rfl) (Nat.le_of_ble_eq_true rfl) (by omega) (by omega) (fun _ q => s_X11_needWalker q) q (fun _ _ q => Or.inl ⟨rfl, q⟩) (fun h7 q => ?_)
  refine r_aload_n eX11_hangs_10 rfl ?_
  refine r_iload_n eX11_hangs_11 rfl ?_
  refine t_virtVx (As := [_]) (rest := []) (d' := d + 7 + 0) (ci := 11) (mc := 1) (ms := 6) eX11_hangs_12 k_11_101 l_11_101 rfl rfl rfl (by omega) (Nat.le_of_ble_eq_true rfl) (Nat.le_of_ble_eq_true rfl) (by omega) (by omega) (fun _ q => s_X11_needPlace q) q (fun _ _ q => Or.inl ⟨rfl, q⟩) (fun h12 q => ?_)
  refine r_aload_n eX11_hangs_15 rfl ?_
  refine r_iload eX11_hangs_16 rfl ?_
  refine t_virtVx (As := [_]) (rest := []) (d' := d + 7 + 0) (ci := 11) (mc := 1) (ms := 6) eX11_hangs_18 k_11_153 l_11_153 rfl rfl rfl (by omega) (Nat.le_of_ble_eq_true rfl) (Nat.le_of_ble_eq_true rfl) (by omega) (by omega) (fun _ q => s_X11_needYear q) q (fun _ _ q => Or.inl ⟨rfl, q⟩) (fun h18 q => ?_)
  refine r_aload_n eX11_hangs_21 rfl ?_
  refine r_iload_n eX11_hangs_22 rfl ?_
  refine r_iload eX11_hangs_23 rfl ?_
  refine t_virtV (As := [_, _]) (rest := []) (d' := d + 4 + 3) (ci := 11) eX11_hangs_25 k_11_215 rfl rfl rfl (by omega) (Nat.le_of_ble_eq_true rfl) (Nat.le_of_ble_eq_true rfl) (fun _ q => s_X11_setOut q) q (fun h25 q => ?_)
  refine r_iconst (v := (0)) eX11_hangs_28 (by decide) ?_
  refine r_istore (lv' := [_, _, _, _, _, _, _, _]) eX11_hangs_29 (Nat.le_of_ble_eq_true rfl) rfl ?_
  refine r_iconst (v := (1)) eX11_hangs_31 (by decide) ?_
  refine r_istore (lv' := [_, _, _, _, _, _, _, _]) eX11_hangs_32 (Nat.le_of_ble_eq_true rfl) rfl ?_
  exact sL_X11_hangs_34  _ _ _ _ q
theorem sJ_X11_years_92 {E : Ev} {d kc ks : Nat} {Φ : Ou → Hp → Prop} {y0 : Nat} {y1 : Int32} {y2 : Int32} {y3 : Int32} {y4 : Int32} {y5 : Int32} {y6 : Int32} {y7 : Int32} {y8 : Int32} {y9 : Int32} {h : Hp} {K49 : Int32 → Int32 → Int32 → Int32 → Int32 → Hp → Rs} (hK49 : ∀ (w5 : Int32) (w6 : Int32) (w7 : Int32) (w8 : Int32) (w9 : Int32) (h : Hp), OK (K49 w5 w6 w7 w8 w9 h) Φ → WE E mX11_years (d + 8) 49 [some (.ref y0), some (.int y1), some (.int y2), some (.int y3), some (.int y4), some (.int w5), some (.int w6), some (.int w7), some (.int w8), some (.int w9)] [] h kc ks Φ) (q : OK (J_X11_years_92 E K49 y0 y1 y2 y3 y5 y6 y7 y8 y9 h) Φ) : WE E mX11_years (d + 8) 92 [some (.ref y0), some (.int y1), some (.int y2), some (.int y3), some (.int y4), some (.int y5), some (.int y6), some (.int y7), some (.int y8), some (.int y9)] [] h kc ks Φ := by
  refine r_iload eX11_years_92 rfl ?_
  refine t_if_eq eX11_years_94 (t := 119) (by decide) q (fun q => ?_) (fun q => ?_)
  · refine r_iinc (v := (1)) (lv' := [_, _, _, _, _, _, _, _, _, _]) eX11_years_119 rfl (by decide) rfl ?_
    refine r_goto (t := 49) eX11_years_122 (by decide) ?_
    exact hK49 _ _ _ _ _ _ q
  refine r_iinc (v := (1)) (lv' := [_, _, _, _, _, _, _, _, _, _]) eX11_years_97 rfl (by decide) rfl ?_
  refine r_iload eX11_years_100 rfl ?_
  refine r_iconst (v := (-1)) eX11_years_102 (by decide) ?_
  refine t_icmp_ne eX11_years_103 (t := 111) (by decide) q (fun q => ?_) (fun q => ?_)
  · refine r_iload eX11_years_111 rfl ?_
    refine r_istore (lv' := [_, _, _, _, _, _, _, _, _, _]) eX11_years_113 (Nat.le_of_ble_eq_true rfl) rfl ?_
    refine r_iload eX11_years_115 rfl ?_
    refine r_istore (lv' := [_, _, _, _, _, _, _, _, _, _]) eX11_years_117 (Nat.le_of_ble_eq_true rfl) rfl ?_
    refine r_iinc (v := (1)) (lv' := [_, _, _, _, _, _, _, _, _, _]) eX11_years_119 rfl (by decide) rfl ?_
    refine r_goto (t := 49) eX11_years_122 (by decide) ?_
    exact hK49 _ _ _ _ _ _ q
  refine r_iload eX11_years_106 rfl ?_
  refine r_goto (t := 113) eX11_years_108 (by decide) ?_
  refine r_istore (lv' := [_, _, _, _, _, _, _, _, _, _]) eX11_years_113 (Nat.le_of_ble_eq_true rfl) rfl ?_
  refine r_iload eX11_years_115 rfl ?_
  refine r_istore (lv' := [_, _, _, _, _, _, _, _, _, _]) eX11_years_117 (Nat.le_of_ble_eq_true rfl) rfl ?_
  refine r_iinc (v := (1)) (lv' := [_, _, _, _, _, _, _, _, _, _]) eX11_years_119 rfl (by decide) rfl ?_
  refine r_goto (t := 49) eX11_years_122 (by decide) ?_
  exact hK49 _ _ _ _ _ _ q
theorem sJ_X11_years_74 {E : Ev} {d kc ks : Nat} {Φ : Ou → Hp → Prop} {y0 : Nat} {y1 : Int32} {y2 : Int32} {y3 : Int32} {y4 : Int32} {y5 : Int32} {y6 : Int32} {y7 : Int32} {y8 : Int32} {y9 : Int32} {h : Hp} {K49 : Int32 → Int32 → Int32 → Int32 → Int32 → Hp → Rs} (hK49 : ∀ (w5 : Int32) (w6 : Int32) (w7 : Int32) (w8 : Int32) (w9 : Int32) (h : Hp), OK (K49 w5 w6 w7 w8 w9 h) Φ → WE E mX11_years (d + 8) 49 [some (.ref y0), some (.int y1), some (.int y2), some (.int y3), some (.int y4), some (.int w5), some (.int w6), some (.int w7), some (.int w8), some (.int w9)] [] h kc ks Φ) (q : OK (J_X11_years_74 E K49 y0 y1 y2 y3 y5 y6 y7 y9 h) Φ) : WE E mX11_years (d + 8) 74 [some (.ref y0), some (.int y1), some (.int y2), some (.int y3), some (.int y4), some (.int y5), some (.int y6), some (.int y7), some (.int y8), some (.int y9)] [] h kc ks Φ := by
  refine r_aload_n eX11_years_74 rfl ?_
  refine r_iload_n eX11_years_75 rfl ?_
  refine r_iload eX11_years_76 rfl ?_
  refine t_virtV (As := [_, _]) (rest := []) (d' := d + 4 + 3) (ci := 11) eX11_years_78 k_11_215 rfl rfl rfl (by omega) (Nat.le_of_ble_eq_true rfl) (Nat.le_of_ble_eq_true rfl) (fun _ q => s_X11_setOut q) q (fun h78 q => ?_)
  refine r_aload_n eX11_years_81 rfl ?_
  refine t_gfR eX11_years_82 f_11_44 q (fun v82 q => ?_)
  refine r_iload_n eX11_years_85 rfl ?_
  refine r_iload_n eX11_years_86 rfl ?_
  refine t_virtI (As := [_, _]) (rest := []) (d' := d + 0 + 7) (ci := 9) eX11_years_87 k_11_294 rfl rfl rfl (by omega) (Nat.le_of_ble_eq_true rfl) (Nat.le_of_ble_eq_true rfl) (fun _ q => s_X9_getsThere q) q (fun v87 h87 q => ?_)
  refine r_istore (lv' := [_, _, _, _, _, _, _, _, _, _]) eX11_years_90 (Nat.le_of_ble_eq_true rfl) rfl ?_
  refine sJ_X11_years_92 (fun w1 w2 w3 w4 w5 h6 q => ?_) q
  exact hK49 _ _ _ _ _ _ q
theorem sL_X11_years_49 {E : Ev} {d kc ks : Nat} {Φ : Ou → Hp → Prop} {y0 : Nat} {y1 : Int32} {y2 : Int32} {y3 : Int32} {y4 : Int32} {K125 : Int32 → Int32 → Int32 → Hp → Rs} (hK125 : ∀ (w5 : Int32) (w6 : Int32) (w7 : Int32) (w8 : Int32) (w9 : Int32) (h : Hp), OK (K125 w5 w6 w7 h) Φ → WE E mX11_years (d + 8) 125 [some (.ref y0), some (.int y1), some (.int y2), some (.int y3), some (.int y4), some (.int w5), some (.int w6), some (.int w7), some (.int w8), some (.int w9)] [] h kc ks Φ) : ∀ (g : Nat) (y5 : Int32) (y6 : Int32) (y7 : Int32) (y8 : Int32) (y9 : Int32) (h : Hp), OK (L_X11_years_49 E K125 y0 y1 y2 y3 g y5 y6 y7 y8 y9 h) Φ → WE E mX11_years (d + 8) 49 [some (.ref y0), some (.int y1), some (.int y2), some (.int y3), some (.int y4), some (.int y5), some (.int y6), some (.int y7), some (.int y8), some (.int y9)] [] h kc ks Φ := by
  intro g
  induction g with
  | zero => intro y5 y6 y7 y8 y9 h q; exact q.elim
  | succ g ih =>
    intro y5 y6 y7 y8 y9 h q
    refine r_iload eX11_years_49 rfl ?_
    refine r_sipush (v := (200)) eX11_years_51 (by decide) ?_
    refine t_icmp_gt eX11_years_54 (t := 125) (by decide) q (fun q => ?_) (fun q => ?_)
    · exact hK125 _ _ _ _ _ _ q
    refine r_iload eX11_years_57 rfl ?_
    refine t_if_eq eX11_years_59 (t := 74) (by decide) q (fun q => ?_) (fun q => ?_)
    · refine sJ_X11_years_74 (fun w1 w2 w3 w4 w5 h6 q => ?_) q
      exact ih _ _ _ _ _ _ q
    refine r_aload_n eX11_years_62 rfl ?_
    refine t_gfR eX11_years_63 f_11_35 q (fun v63 q => ?_)
    refine r_iload eX11_years_66 rfl ?_
    refine t_virtI (As := [_]) (rest := []) (d' := d + 7 + 0) (ci := 10) eX11_years_68 k_11_312 rfl rfl rfl (by omega) (Nat.le_of_ble_eq_true rfl) (Nat.le_of_ble_eq_true rfl) (fun _ q => s_X10_isPreparedFor q) q (fun v68 h68 q => ?_)
    refine t_if_ne eX11_years_71 (t := 92) (by decide) q (fun q => ?_) (fun q => ?_)
    · refine sJ_X11_years_92 (fun w7 w8 w9 w10 w11 h12 q => ?_) q
      exact ih _ _ _ _ _ _ q
    refine sJ_X11_years_74 (fun w13 w14 w15 w16 w17 h18 q => ?_) q
    exact ih _ _ _ _ _ _ q
theorem s_X11_years {E : Ev} {d : Nat} {a0 : Nat} {x1 : Int32} {x2 : Int32} {x3 : Int32} {x4 : Int32} {h : Hp} {Φ : Ou → Hp → Prop} (q : OK (F_X11_years E a0 x1 x2 x3 x4 h) Φ) : CE E mX11_years (d + 8) [.ref a0, .int x1, .int x2, .int x3, .int x4] h 4 24 Φ := by
  show WE E mX11_years (d + 8) 0 [some (.ref a0), some (.int x1), some (.int x2), some (.int x3), some (.int x4), none, none, none, none, none] [] h 4 24 Φ
  refine r_aload_n eX11_years_0 rfl ?_
  refine r_iload_n eX11_years_1 rfl ?_
  refine t_virtVx (As := [_]) (rest := []) (d' := d + 7 + 0) (ci := 11) (mc := 1) (ms := 6) eX11_years_2 k_11_272 l_11_272 rfl rfl rfl (by omega) (Nat.le_of_ble_eq_true rfl) (Nat.le_of_ble_eq_true rfl) (by omega) (by omega) (fun _ q => s_X11_needTelling q) q (fun _ _ q => Or.inl ⟨rfl, q⟩) (fun h2 q => ?_)
  refine r_aload_n eX11_years_5 rfl ?_
  refine r_iload_n eX11_years_6 rfl ?_
  refine t_virtVx (As := [_]) (rest := []) (d' := d + 7 + 0) (ci := 11) (mc := 1) (ms := 6) eX11_years_7 k_11_212 l_11_212 rfl rfl rfl (by omega) (Nat.le_of_ble_eq_true rfl) (Nat.le_of_ble_eq_true rfl) (by omega) (by omega) (fun _ q => s_X11_needWalker q) q (fun _ _ q => Or.inl ⟨rfl, q⟩) (fun h7 q => ?_)
  refine r_aload_n eX11_years_10 rfl ?_
  refine r_iload_n eX11_years_11 rfl ?_
  refine t_virtVx (As := [_]) (rest := []) (d' := d + 7 + 0) (ci := 11) (mc := 1) (ms := 6) eX11_years_12 k_11_147 l_11_147 rfl rfl rfl (by omega) (Nat.le_of_ble_eq_true rfl) (Nat.le_of_ble_eq_true rfl) (by omega) (by omega) (fun _ q => s_X11_needState q) q (fun _ _ q => Or.inl ⟨rfl, q⟩) (fun h12 q => ?_)
  refine r_iload eX11_years_15 rfl ?_
  refine t_if_lt eX11_years_17 (t := 26) (by decide) q (fun q => ?_) (fun q => ?_)
  · exact r_throw th_X11_years_26 (Nat.le_of_ble_eq_true rfl) (by omega) (by omega) q
  refine r_iload eX11_years_20 rfl ?_
  refine r_iconst (v := (2)) eX11_years_22 (by decide) ?_
  refine t_icmp_le eX11_years_23 (t := 34) (by decide) q (fun q => ?_) (fun q => ?_)
  · refine r_iconst (v := (0)) eX11_years_34 (by decide) ?_
    refine r_istore (lv' := [_, _, _, _, _, _, _, _, _, _]) eX11_years_35 (Nat.le_of_ble_eq_true rfl) rfl ?_
    refine r_iconst (v := (-1)) eX11_years_37 (by decide) ?_
    refine r_istore (lv' := [_, _, _, _, _, _, _, _, _, _]) eX11_years_38 (Nat.le_of_ble_eq_true rfl) rfl ?_
    refine r_iconst (v := (-1)) eX11_years_40 (by decide) ?_
    refine r_istore (lv' := [_, _, _, _, _, _, _, _, _, _]) eX11_years_41 (Nat.le_of_ble_eq_true rfl) rfl ?_
    refine r_iconst (v := (0)) eX11_years_43 (by decide) ?_
    refine r_istore (lv' := [_, _, _, _, _, _, _, _, _, _]) eX11_years_44 (Nat.le_of_ble_eq_true rfl) rfl ?_
    refine r_iconst (v := (0)) eX11_years_46 (by decide) ?_
    refine r_istore (lv' := [_, _, _, _, _, _, _, _, _, _]) eX11_years_47 (Nat.le_of_ble_eq_true rfl) rfl ?_
    refine sL_X11_years_49 (fun w1 w2 w3 w4 w5 h6 q => ?_) _ _ _ _ _ _ _ q
    refine r_iload eX11_years_125 rfl ?_
    refine t_if_ne eX11_years_127 (t := 135) (by decide) q (fun q => ?_) (fun q => ?_)
    · refine r_iload eX11_years_135 rfl ?_
      refine r_iconst (v := (1)) eX11_years_137 (by decide) ?_
      refine t_icmp_ne eX11_years_138 (t := 146) (by decide) q (fun q => ?_) (fun q => ?_)
      · refine r_iload eX11_years_146 rfl ?_
        exact t_rtI eX11_years_148 rfl q
      refine r_iload eX11_years_141 rfl ?_
      refine r_goto (t := 148) eX11_years_143 (by decide) ?_
      exact t_rtI eX11_years_148 rfl q
    refine r_iload eX11_years_130 rfl ?_
    refine r_goto (t := 148) eX11_years_132 (by decide) ?_
    exact t_rtI eX11_years_148 rfl q
  exact r_throw th_X11_years_26 (Nat.le_of_ble_eq_true rfl) (by omega) (by omega) q
theorem s_X11_two {E : Ev} {d : Nat} {a0 : Nat} {x1 : Int32} {x2 : Int32} {x3 : Int32} {x4 : Int32} {x5 : Int32} {x6 : Int32} {x7 : Int32} {h : Hp} {Φ : Ou → Hp → Prop} (q : OK (F_X11_two E a0 x1 x2 x3 x4 x5 x6 x7 h) Φ) : CE E mX11_two (d + 8) [.ref a0, .int x1, .int x2, .int x3, .int x4, .int x5, .int x6, .int x7] h 7 42 Φ := by
  show WE E mX11_two (d + 8) 0 [some (.ref a0), some (.int x1), some (.int x2), some (.int x3), some (.int x4), some (.int x5), some (.int x6), some (.int x7)] [] h 7 42 Φ
  refine r_aload_n eX11_two_0 rfl ?_
  refine r_iload_n eX11_two_1 rfl ?_
  refine t_virtVx (As := [_]) (rest := []) (d' := d + 7 + 0) (ci := 11) (mc := 1) (ms := 6) eX11_two_2 k_11_272 l_11_272 rfl rfl rfl (by omega) (Nat.le_of_ble_eq_true rfl) (Nat.le_of_ble_eq_true rfl) (by omega) (by omega) (fun _ q => s_X11_needTelling q) q (fun _ _ q => Or.inl ⟨rfl, q⟩) (fun h2 q => ?_)
  refine r_aload_n eX11_two_5 rfl ?_
  refine r_iload_n eX11_two_6 rfl ?_
  refine t_virtVx (As := [_]) (rest := []) (d' := d + 7 + 0) (ci := 11) (mc := 1) (ms := 6) eX11_two_7 k_11_147 l_11_147 rfl rfl rfl (by omega) (Nat.le_of_ble_eq_true rfl) (Nat.le_of_ble_eq_true rfl) (by omega) (by omega) (fun _ q => s_X11_needState q) q (fun _ _ q => Or.inl ⟨rfl, q⟩) (fun h7 q => ?_)
  refine r_aload_n eX11_two_10 rfl ?_
  refine r_iload_n eX11_two_11 rfl ?_
  refine r_iload eX11_two_12 rfl ?_
  refine r_iload eX11_two_14 rfl ?_
  refine r_iload eX11_two_16 rfl ?_
  refine t_virtVx (As := [_, _, _, _]) (rest := []) (d' := d + 6 + 1) (ci := 11) (mc := 4) (ms := 24) eX11_two_18 k_11_278 l_11_278 rfl rfl rfl (by omega) (Nat.le_of_ble_eq_true rfl) (Nat.le_of_ble_eq_true rfl) (by omega) (by omega) (fun _ q => s_X11_needTold q) q (fun _ _ q => Or.inl ⟨rfl, q⟩) (fun h18 q => ?_)
  refine r_iload eX11_two_21 rfl ?_
  refine t_if_lt eX11_two_23 (t := 32) (by decide) q (fun q => ?_) (fun q => ?_)
  · exact r_throw th_X11_two_32 (Nat.le_of_ble_eq_true rfl) (by omega) (by omega) q
  refine r_iload eX11_two_26 rfl ?_
  refine r_iconst (v := (1)) eX11_two_28 (by decide) ?_
  refine t_icmp_le eX11_two_29 (t := 40) (by decide) q (fun q => ?_) (fun q => ?_)
  · refine r_aload_n eX11_two_40 rfl ?_
    refine r_iload eX11_two_41 rfl ?_
    refine r_iload eX11_two_43 rfl ?_
    refine t_virtV (As := [_, _]) (rest := []) (d' := d + 4 + 3) (ci := 11) eX11_two_45 k_11_215 rfl rfl rfl (by omega) (Nat.le_of_ble_eq_true rfl) (Nat.le_of_ble_eq_true rfl) (fun _ q => s_X11_setOut q) q (fun h45 q => ?_)
    refine r_iload eX11_two_48 rfl ?_
    refine t_if_ne eX11_two_50 (t := 77) (by decide) q (fun q => ?_) (fun q => ?_)
    · refine r_aload_n eX11_two_77 rfl ?_
      refine t_gfR eX11_two_78 f_11_53 q (fun v78 q => ?_)
      refine r_iload_n eX11_two_81 rfl ?_
      refine r_iload_n eX11_two_82 rfl ?_
      refine r_iload_n eX11_two_83 rfl ?_
      refine r_iload eX11_two_84 rfl ?_
      refine t_virtI (As := [_, _, _, _]) (rest := []) (d' := d + 0 + 7) (ci := 4) eX11_two_86 k_11_316 rfl rfl rfl (by omega) (Nat.le_of_ble_eq_true rfl) (Nat.le_of_ble_eq_true rfl) (fun _ q => s_X4_meet q) q (fun v86 h86 q => ?_)
      exact t_rtI eX11_two_89 rfl q
    refine r_aload_n eX11_two_53 rfl ?_
    refine t_gfR eX11_two_54 f_11_44 q (fun v54 q => ?_)
    refine r_iload_n eX11_two_57 rfl ?_
    refine r_iload_n eX11_two_58 rfl ?_
    refine t_virtL (As := [_, _]) (rest := []) (d' := d + 0 + 7) (ci := 9) eX11_two_59 k_11_286 rfl rfl rfl (by omega) (Nat.le_of_ble_eq_true rfl) (Nat.le_of_ble_eq_true rfl) (fun _ q => s_X9_lastPlaces q) q (fun v59 h59 q => ?_)
    refine r_aload_n eX11_two_62 rfl ?_
    refine t_gfR eX11_two_63 f_11_44 q (fun v63 q => ?_)
    refine r_iload_n eX11_two_66 rfl ?_
    refine r_iload eX11_two_67 rfl ?_
    refine t_virtL (As := [_, _]) (rest := [_]) (d' := d + 0 + 7) (ci := 9) eX11_two_69 k_11_286 rfl rfl rfl (by omega) (Nat.le_of_ble_eq_true rfl) (Nat.le_of_ble_eq_true rfl) (fun _ q => s_X9_lastPlaces q) q (fun v69 h69 q => ?_)
    refine r_land eX11_two_72 ?_
    refine t_statI (As := [_]) (rest := []) (d' := d + 7 + 0) eX11_two_73 k_11_167 rfl (by omega) (Nat.le_of_ble_eq_true rfl) (Nat.le_of_ble_eq_true rfl) (fun _ q => s_J13_bitCount_95d88 q) q (fun v73 h73 q => ?_)
    exact t_rtI eX11_two_76 rfl q
  exact r_throw th_X11_two_32 (Nat.le_of_ble_eq_true rfl) (by omega) (by omega) q
theorem s_X11_lossBehind {E : Ev} {d : Nat} {a0 : Nat} {x1 : Int32} {x2 : Int32} {x3 : Int32} {x4 : Int32} {x5 : Int32} {h : Hp} {Φ : Ou → Hp → Prop} (q : OK (F_X11_lossBehind E a0 x1 x2 x3 x4 x5 h) Φ) : CE E mX11_lossBehind (d + 7) [.ref a0, .int x1, .int x2, .int x3, .int x4, .int x5] h 0 0 Φ := by
  show WE E mX11_lossBehind (d + 7) 0 [some (.ref a0), some (.int x1), some (.int x2), some (.int x3), some (.int x4), some (.int x5)] [] h 0 0 Φ
  refine r_aload_n eX11_lossBehind_0 rfl ?_
  refine t_gfR eX11_lossBehind_1 f_11_44 q (fun v1 q => ?_)
  refine r_iload eX11_lossBehind_4 rfl ?_
  refine t_virtV (As := [_]) (rest := []) (d' := d + 6 + 0) (ci := 9) eX11_lossBehind_6 k_11_325 rfl rfl rfl (by omega) (Nat.le_of_ble_eq_true rfl) (Nat.le_of_ble_eq_true rfl) (fun _ q => s_X9_become q) q (fun h6 q => ?_)
  refine r_aload_n eX11_lossBehind_9 rfl ?_
  refine t_gfR eX11_lossBehind_10 f_11_44 q (fun v10 q => ?_)
  refine r_iload_n eX11_lossBehind_13 rfl ?_
  refine r_iload eX11_lossBehind_14 rfl ?_
  refine r_iload_n eX11_lossBehind_16 rfl ?_
  refine t_virtI (As := [_, _, _]) (rest := []) (d' := d + 0 + 6) (ci := 9) eX11_lossBehind_17 k_11_282 rfl rfl rfl (by omega) (Nat.le_of_ble_eq_true rfl) (Nat.le_of_ble_eq_true rfl) (fun _ q => s_X9_follow q) q (fun v17 h17 q => ?_)
  refine r_pop eX11_lossBehind_20 rfl ?_
  refine r_aload_n eX11_lossBehind_21 rfl ?_
  refine t_gfR eX11_lossBehind_22 f_11_44 q (fun v22 q => ?_)
  refine t_gfR eX11_lossBehind_25 f_11_173 q (fun v25 q => ?_)
  refine t_virtI (As := []) (rest := []) (d' := d + 6 + 0) (ci := 6) eX11_lossBehind_28 k_11_328 rfl rfl rfl (by omega) (Nat.le_of_ble_eq_true rfl) (Nat.le_of_ble_eq_true rfl) (fun _ q => s_X6_isEmpty q) q (fun v28 h28 q => ?_)
  refine t_if_eq eX11_lossBehind_31 (t := 36) (by decide) q (fun q => ?_) (fun q => ?_)
  · refine r_aload_n eX11_lossBehind_36 rfl ?_
    refine t_gfR eX11_lossBehind_37 f_11_44 q (fun v37 q => ?_)
    refine r_iload_n eX11_lossBehind_40 rfl ?_
    refine t_virtV (As := [_]) (rest := []) (d' := d + 6 + 0) (ci := 9) eX11_lossBehind_41 k_11_325 rfl rfl rfl (by omega) (Nat.le_of_ble_eq_true rfl) (Nat.le_of_ble_eq_true rfl) (fun _ q => s_X9_become q) q (fun h41 q => ?_)
    refine r_aload_n eX11_lossBehind_44 rfl ?_
    refine t_gfR eX11_lossBehind_45 f_11_53 q (fun v45 q => ?_)
    refine r_aload_n eX11_lossBehind_48 rfl ?_
    refine t_gfR eX11_lossBehind_49 f_11_44 q (fun v49 q => ?_)
    refine t_gfR eX11_lossBehind_52 f_11_173 q (fun v52 q => ?_)
    refine t_virtV (As := [_]) (rest := []) (d' := d + 2 + 4) (ci := 4) eX11_lossBehind_55 k_11_332 rfl rfl rfl (by omega) (Nat.le_of_ble_eq_true rfl) (Nat.le_of_ble_eq_true rfl) (fun _ q => s_X4_spread q) q (fun h55 q => ?_)
    refine r_aload_n eX11_lossBehind_58 rfl ?_
    refine t_gfR eX11_lossBehind_59 f_11_53 q (fun v59 q => ?_)
    refine r_iload_n eX11_lossBehind_62 rfl ?_
    refine r_iload_n eX11_lossBehind_63 rfl ?_
    refine t_virtV (As := [_, _]) (rest := []) (d' := d + 0 + 6) (ci := 4) eX11_lossBehind_64 k_11_300 rfl rfl rfl (by omega) (Nat.le_of_ble_eq_true rfl) (Nat.le_of_ble_eq_true rfl) (fun _ q => s_X4_goOn q) q (fun h64 q => ?_)
    refine r_ldcw eX11_lossBehind_67 g_11_320 ?_
    refine r_aload_n eX11_lossBehind_70 rfl ?_
    refine t_gfR eX11_lossBehind_71 f_11_53 q (fun v71 q => ?_)
    refine r_aload_n eX11_lossBehind_74 rfl ?_
    refine t_gfR eX11_lossBehind_75 f_11_26 q (fun v75 q => ?_)
    refine t_gfR eX11_lossBehind_78 f_11_306 q (fun v78 q => ?_)
    refine r_iload_n eX11_lossBehind_81 rfl ?_
    refine t_gaI eX11_lossBehind_82 q (fun v82 q => ?_)
    refine t_virtI (As := [_]) (rest := [_]) (d' := d + 6 + 0) (ci := 4) eX11_lossBehind_83 k_11_303 rfl rfl rfl (by omega) (Nat.le_of_ble_eq_true rfl) (Nat.le_of_ble_eq_true rfl) (fun _ q => s_X4_partsAt q) q (fun v83 h83 q => ?_)
    refine r_isub eX11_lossBehind_86 ?_
    exact t_rtI eX11_lossBehind_87 rfl q
  refine r_iconst (v := (-1)) eX11_lossBehind_34 (by decide) ?_
  exact t_rtI eX11_lossBehind_35 rfl q
theorem sL_X11_ask_96 {E : Ev} {d kc ks : Nat} {Φ : Ou → Hp → Prop} {y0 : Nat} {y1 : Int32} {y2 : Int32} {y3 : Int32} {y4 : Int32} {y5 : Int32} {y6 : Int32} {y7 : Int32}  : ∀ (g : Nat) (y8 : Int32) (y9 : Int32) (y10 : Int32) (y11 : Option Value) (h : Hp), OK (L_X11_ask_96 E y0 y1 y2 y3 y4 y6 y7 g y8 y9 y10 h) Φ → WE E mX11_ask (d + 8) 96 [some (.ref y0), some (.int y1), some (.int y2), some (.int y3), some (.int y4), some (.int y5), some (.int y6), some (.int y7), some (.int y8), some (.int y9), some (.int y10), y11] [] h kc ks Φ := by
  intro g
  induction g with
  | zero => intro y8 y9 y10 y11 h q; exact q.elim
  | succ g ih =>
    intro y8 y9 y10 y11 h q
    refine r_iload eX11_ask_96 rfl ?_
    refine r_aload_n eX11_ask_98 rfl ?_
    refine t_gfR eX11_ask_99 f_11_26 q (fun v99 q => ?_)
    refine t_gfR eX11_ask_102 f_11_275 q (fun v102 q => ?_)
    refine r_iload_n eX11_ask_105 rfl ?_
    refine t_gaI eX11_ask_106 q (fun v106 q => ?_)
    refine t_icmp_ge eX11_ask_107 (t := 156) (by decide) q (fun q => ?_) (fun q => ?_)
    · refine r_iload eX11_ask_156 rfl ?_
      refine t_if_eq eX11_ask_158 (t := 166) (by decide) q (fun q => ?_) (fun q => ?_)
      · refine r_iload eX11_ask_166 rfl ?_
        exact t_rtI eX11_ask_168 rfl q
      refine r_iload eX11_ask_161 rfl ?_
      refine r_goto (t := 168) eX11_ask_163 (by decide) ?_
      exact t_rtI eX11_ask_168 rfl q
    refine r_aload_n eX11_ask_110 rfl ?_
    refine r_iload eX11_ask_111 rfl ?_
    refine r_iload_n eX11_ask_113 rfl ?_
    refine r_iload_n eX11_ask_114 rfl ?_
    refine r_iload_n eX11_ask_115 rfl ?_
    refine r_iload eX11_ask_116 rfl ?_
    refine t_virtI (As := [_, _, _, _, _]) (rest := []) (d' := d + 0 + 7) (ci := 11) eX11_ask_118 k_11_321 rfl rfl rfl (by omega) (Nat.le_of_ble_eq_true rfl) (Nat.le_of_ble_eq_true rfl) (fun _ q => s_X11_lossBehind q) q (fun v118 h118 q => ?_)
    refine r_istore (lv' := [_, _, _, _, _, _, _, _, _, _, _, _]) eX11_ask_121 (Nat.le_of_ble_eq_true rfl) rfl ?_
    refine r_iload eX11_ask_123 rfl ?_
    refine r_iconst (v := (-1)) eX11_ask_125 (by decide) ?_
    refine t_icmp_eq eX11_ask_126 (t := 150) (by decide) q (fun q => ?_) (fun q => ?_)
    · refine r_iinc (v := (1)) (lv' := [_, _, _, _, _, _, _, _, _, _, _, _]) eX11_ask_150 rfl (by decide) rfl ?_
      refine r_goto (t := 96) eX11_ask_153 (by decide) ?_
      exact ih _ _ _ _ _ q
    refine r_iload eX11_ask_129 rfl ?_
    refine r_iload eX11_ask_131 rfl ?_
    refine r_iadd eX11_ask_133 ?_
    refine r_iload eX11_ask_134 rfl ?_
    refine t_icmp_ge eX11_ask_136 (t := 150) (by decide) q (fun q => ?_) (fun q => ?_)
    · refine r_iinc (v := (1)) (lv' := [_, _, _, _, _, _, _, _, _, _, _, _]) eX11_ask_150 rfl (by decide) rfl ?_
      refine r_goto (t := 96) eX11_ask_153 (by decide) ?_
      exact ih _ _ _ _ _ q
    refine r_iload eX11_ask_139 rfl ?_
    refine r_iload eX11_ask_141 rfl ?_
    refine r_iadd eX11_ask_143 ?_
    refine r_istore (lv' := [_, _, _, _, _, _, _, _, _, _, _, _]) eX11_ask_144 (Nat.le_of_ble_eq_true rfl) rfl ?_
    refine r_iload eX11_ask_146 rfl ?_
    refine r_istore (lv' := [_, _, _, _, _, _, _, _, _, _, _, _]) eX11_ask_148 (Nat.le_of_ble_eq_true rfl) rfl ?_
    refine r_iinc (v := (1)) (lv' := [_, _, _, _, _, _, _, _, _, _, _, _]) eX11_ask_150 rfl (by decide) rfl ?_
    refine r_goto (t := 96) eX11_ask_153 (by decide) ?_
    exact ih _ _ _ _ _ q
theorem s_X11_ask {E : Ev} {d : Nat} {a0 : Nat} {x1 : Int32} {x2 : Int32} {x3 : Int32} {x4 : Int32} {x5 : Int32} {x6 : Int32} {x7 : Int32} {h : Hp} {Φ : Ou → Hp → Prop} (q : OK (F_X11_ask E a0 x1 x2 x3 x4 x5 x6 x7 h) Φ) : CE E mX11_ask (d + 8) [.ref a0, .int x1, .int x2, .int x3, .int x4, .int x5, .int x6, .int x7] h 6 36 Φ := by
  show WE E mX11_ask (d + 8) 0 [some (.ref a0), some (.int x1), some (.int x2), some (.int x3), some (.int x4), some (.int x5), some (.int x6), some (.int x7), none, none, none, none] [] h 6 36 Φ
  refine r_aload_n eX11_ask_0 rfl ?_
  refine r_iload_n eX11_ask_1 rfl ?_
  refine t_virtVx (As := [_]) (rest := []) (d' := d + 7 + 0) (ci := 11) (mc := 1) (ms := 6) eX11_ask_2 k_11_212 l_11_212 rfl rfl rfl (by omega) (Nat.le_of_ble_eq_true rfl) (Nat.le_of_ble_eq_true rfl) (by omega) (by omega) (fun _ q => s_X11_needWalker q) q (fun _ _ q => Or.inl ⟨rfl, q⟩) (fun h2 q => ?_)
  refine r_aload_n eX11_ask_5 rfl ?_
  refine r_iload_n eX11_ask_6 rfl ?_
  refine r_iload_n eX11_ask_7 rfl ?_
  refine r_iload eX11_ask_8 rfl ?_
  refine r_iload eX11_ask_10 rfl ?_
  refine t_virtVx (As := [_, _, _, _]) (rest := []) (d' := d + 6 + 1) (ci := 11) (mc := 4) (ms := 24) eX11_ask_12 k_11_278 l_11_278 rfl rfl rfl (by omega) (Nat.le_of_ble_eq_true rfl) (Nat.le_of_ble_eq_true rfl) (by omega) (by omega) (fun _ q => s_X11_needTold q) q (fun _ _ q => Or.inl ⟨rfl, q⟩) (fun h12 q => ?_)
  refine r_iload eX11_ask_15 rfl ?_
  refine t_if_lt eX11_ask_17 (t := 28) (by decide) q (fun q => ?_) (fun q => ?_)
  · exact r_throw th_X11_ask_28 (Nat.le_of_ble_eq_true rfl) (by omega) (by omega) q
  refine r_iload eX11_ask_20 rfl ?_
  refine r_ldcw eX11_ask_22 g_11_320 ?_
  refine t_icmp_le eX11_ask_25 (t := 36) (by decide) q (fun q => ?_) (fun q => ?_)
  · refine r_aload_n eX11_ask_36 rfl ?_
    refine r_iload_n eX11_ask_37 rfl ?_
    refine r_iload eX11_ask_38 rfl ?_
    refine t_virtV (As := [_, _]) (rest := []) (d' := d + 4 + 3) (ci := 11) eX11_ask_40 k_11_215 rfl rfl rfl (by omega) (Nat.le_of_ble_eq_true rfl) (Nat.le_of_ble_eq_true rfl) (fun _ q => s_X11_setOut q) q (fun h40 q => ?_)
    refine r_aload_n eX11_ask_43 rfl ?_
    refine r_iload_n eX11_ask_44 rfl ?_
    refine r_iload eX11_ask_45 rfl ?_
    refine t_virtV (As := [_, _]) (rest := []) (d' := d + 4 + 3) (ci := 11) eX11_ask_47 k_11_215 rfl rfl rfl (by omega) (Nat.le_of_ble_eq_true rfl) (Nat.le_of_ble_eq_true rfl) (fun _ q => s_X11_setOut q) q (fun h47 q => ?_)
    refine r_aload_n eX11_ask_50 rfl ?_
    refine t_gfR eX11_ask_51 f_11_53 q (fun v51 q => ?_)
    refine r_iload eX11_ask_54 rfl ?_
    refine t_virtV (As := [_]) (rest := []) (d' := d + 6 + 1) (ci := 4) eX11_ask_56 k_11_297 rfl rfl rfl (by omega) (Nat.le_of_ble_eq_true rfl) (Nat.le_of_ble_eq_true rfl) (fun _ q => s_X4_start q) q (fun h56 q => ?_)
    refine r_aload_n eX11_ask_59 rfl ?_
    refine t_gfR eX11_ask_60 f_11_53 q (fun v60 q => ?_)
    refine r_iload_n eX11_ask_63 rfl ?_
    refine r_iconst (v := (0)) eX11_ask_64 (by decide) ?_
    refine t_virtV (As := [_, _]) (rest := []) (d' := d + 1 + 6) (ci := 4) eX11_ask_65 k_11_300 rfl rfl rfl (by omega) (Nat.le_of_ble_eq_true rfl) (Nat.le_of_ble_eq_true rfl) (fun _ q => s_X4_goOn q) q (fun h65 q => ?_)
    refine r_ldcw eX11_ask_68 g_11_320 ?_
    refine r_aload_n eX11_ask_71 rfl ?_
    refine t_gfR eX11_ask_72 f_11_53 q (fun v72 q => ?_)
    refine r_aload_n eX11_ask_75 rfl ?_
    refine t_gfR eX11_ask_76 f_11_26 q (fun v76 q => ?_)
    refine t_gfR eX11_ask_79 f_11_306 q (fun v79 q => ?_)
    refine r_iload_n eX11_ask_82 rfl ?_
    refine t_gaI eX11_ask_83 q (fun v83 q => ?_)
    refine t_virtI (As := [_]) (rest := [_]) (d' := d + 7 + 0) (ci := 4) eX11_ask_84 k_11_303 rfl rfl rfl (by omega) (Nat.le_of_ble_eq_true rfl) (Nat.le_of_ble_eq_true rfl) (fun _ q => s_X4_partsAt q) q (fun v84 h84 q => ?_)
    refine r_isub eX11_ask_87 ?_
    replace q := OK_lt q
    refine r_istore (lv' := [_, _, _, _, _, _, _, _, _, _, _, _]) eX11_ask_88 (Nat.le_of_ble_eq_true rfl) rfl ?_
    refine r_iconst (v := (0)) eX11_ask_90 (by decide) ?_
    refine r_istore (lv' := [_, _, _, _, _, _, _, _, _, _, _, _]) eX11_ask_91 (Nat.le_of_ble_eq_true rfl) rfl ?_
    refine r_iconst (v := (1)) eX11_ask_93 (by decide) ?_
    refine r_istore (lv' := [_, _, _, _, _, _, _, _, _, _, _, _]) eX11_ask_94 (Nat.le_of_ble_eq_true rfl) rfl ?_
    exact sL_X11_ask_96  _ _ _ _ _ _ q
  exact r_throw th_X11_ask_28 (Nat.le_of_ble_eq_true rfl) (by omega) (by omega) q
theorem sL_X11_shortest_48 {E : Ev} {d kc ks : Nat} {Φ : Ou → Hp → Prop} {y0 : Nat} {y1 : Int32} {y2 : Int32} {y3 : Int32} {y4 : Int32} {y5 : Int32} {y6 : Int32} {K84 : Hp → Rs} (hK84 : ∀ (w7 : Int32) (h : Hp), OK (K84 h) Φ → WE E mX11_shortest (d + 11) 84 [some (.ref y0), some (.int y1), some (.int y2), some (.int y3), some (.int y4), some (.int y5), some (.int y6), some (.int w7)] [] h kc ks Φ) : ∀ (g : Nat) (y7 : Int32) (h : Hp), OK (L_X11_shortest_48 E K84 y0 y1 y4 g y7 h) Φ → WE E mX11_shortest (d + 11) 48 [some (.ref y0), some (.int y1), some (.int y2), some (.int y3), some (.int y4), some (.int y5), some (.int y6), some (.int y7)] [] h kc ks Φ := by
  intro g
  induction g with
  | zero => intro y7 h q; exact q.elim
  | succ g ih =>
    intro y7 h q
    refine r_iload eX11_shortest_48 rfl ?_
    refine r_aload_n eX11_shortest_50 rfl ?_
    refine t_gfR eX11_shortest_51 f_11_19 q (fun v51 q => ?_)
    refine t_gfI eX11_shortest_54 f_11_336 q (fun v54 q => ?_)
    refine t_icmp_ge eX11_shortest_57 (t := 84) (by decide) q (fun q => ?_) (fun q => ?_)
    · exact hK84 _ _ q
    refine r_iload_n eX11_shortest_60 rfl ?_
    refine r_i2l eX11_shortest_61 ?_
    refine r_iload eX11_shortest_62 rfl ?_
    refine t_statI (As := [_, _]) (rest := []) (d' := d + 10 + 0) eX11_shortest_64 k_11_225 rfl (by omega) (Nat.le_of_ble_eq_true rfl) (Nat.le_of_ble_eq_true rfl) (fun _ q => s_X11_isIn q) q (fun v64 h64 q => ?_)
    refine t_if_eq eX11_shortest_67 (t := 78) (by decide) q (fun q => ?_) (fun q => ?_)
    · refine r_iinc (v := (1)) (lv' := [_, _, _, _, _, _, _, _]) eX11_shortest_78 rfl (by decide) rfl ?_
      refine r_goto (t := 48) eX11_shortest_81 (by decide) ?_
      exact ih _ _ q
    refine r_aload_n eX11_shortest_70 rfl ?_
    refine r_iload eX11_shortest_71 rfl ?_
    refine r_iload eX11_shortest_73 rfl ?_
    refine t_virtV (As := [_, _]) (rest := []) (d' := d + 7 + 3) (ci := 11) eX11_shortest_75 k_11_215 rfl rfl rfl (by omega) (Nat.le_of_ble_eq_true rfl) (Nat.le_of_ble_eq_true rfl) (fun _ q => s_X11_setOut q) q (fun h75 q => ?_)
    refine r_iinc (v := (1)) (lv' := [_, _, _, _, _, _, _, _]) eX11_shortest_78 rfl (by decide) rfl ?_
    refine r_goto (t := 48) eX11_shortest_81 (by decide) ?_
    exact ih _ _ q
theorem sL_X11_shortest_97 {E : Ev} {d kc ks : Nat} {Φ : Ou → Hp → Prop} {y0 : Nat} {y1 : Int32} {y2 : Int32} {y3 : Int32} {y4 : Int32} {y5 : Int32} {y6 : Int32} {K117 : Int32 → Hp → Rs} (hK117 : ∀ (w7 : Int32) (h : Hp), OK (K117 w7 h) Φ → WE E mX11_shortest (d + 11) 117 [some (.ref y0), some (.int y1), some (.int y2), some (.int y3), some (.int y4), some (.int y5), some (.int y6), some (.int w7)] [] h kc ks Φ) : ∀ (g : Nat) (y7 : Int32) (h : Hp), OK (L_X11_shortest_97 E K117 y0 y5 g y7 h) Φ → WE E mX11_shortest (d + 11) 97 [some (.ref y0), some (.int y1), some (.int y2), some (.int y3), some (.int y4), some (.int y5), some (.int y6), some (.int y7)] [] h kc ks Φ := by
  intro g
  induction g with
  | zero => intro y7 h q; exact q.elim
  | succ g ih =>
    intro y7 h q
    refine r_iload eX11_shortest_97 rfl ?_
    refine r_iload eX11_shortest_99 rfl ?_
    refine t_icmp_gt eX11_shortest_101 (t := 161) (by decide) q (fun q => ?_) (fun q => ?_)
    · refine r_iconst (v := (-1)) eX11_shortest_161 (by decide) ?_
      exact t_rtI eX11_shortest_162 rfl q
    refine r_aload_n eX11_shortest_104 rfl ?_
    refine t_gfR eX11_shortest_105 f_11_60 q (fun v105 q => ?_)
    refine r_iconst (v := (0)) eX11_shortest_108 (by decide) ?_
    refine r_iload eX11_shortest_109 rfl ?_
    refine t_virtI (As := [_, _]) (rest := []) (d' := d + 0 + 4 + 6) (ci := 1) eX11_shortest_111 k_11_343 rfl rfl rfl (by omega) (Nat.le_of_ble_eq_true rfl) (Nat.le_of_ble_eq_true rfl) (fun _ q => s_X1_search 4 q) q (fun v111 h111 q => ?_)
    refine t_if_eq eX11_shortest_114 (t := 155) (by decide) q (fun q => ?_) (fun q => ?_)
    · refine r_iinc (v := (1)) (lv' := [_, _, _, _, _, _, _, _]) eX11_shortest_155 rfl (by decide) rfl ?_
      refine r_goto (t := 97) eX11_shortest_158 (by decide) ?_
      exact ih _ _ q
    exact hK117 _ _ q
theorem s_X11_shortest {E : Ev} {d : Nat} {a0 : Nat} {x1 : Int32} {x2 : Int32} {x3 : Int32} {x4 : Int32} {x5 : Int32} {x6 : Int32} {h : Hp} {Φ : Ou → Hp → Prop} (q : OK (F_X11_shortest E a0 x1 x2 x3 x4 x5 x6 h) Φ) : CE E mX11_shortest (d + 11) [.ref a0, .int x1, .int x2, .int x3, .int x4, .int x5, .int x6] h 5 30 Φ := by
  show WE E mX11_shortest (d + 11) 0 [some (.ref a0), some (.int x1), some (.int x2), some (.int x3), some (.int x4), some (.int x5), some (.int x6), none] [] h 5 30 Φ
  refine r_aload_n eX11_shortest_0 rfl ?_
  refine r_iload_n eX11_shortest_1 rfl ?_
  refine t_virtVx (As := [_]) (rest := []) (d' := d + 10 + 0) (ci := 11) (mc := 1) (ms := 6) eX11_shortest_2 k_11_147 l_11_147 rfl rfl rfl (by omega) (Nat.le_of_ble_eq_true rfl) (Nat.le_of_ble_eq_true rfl) (by omega) (by omega) (fun _ q => s_X11_needState q) q (fun _ _ q => Or.inl ⟨rfl, q⟩) (fun h2 q => ?_)
  refine r_aload_n eX11_shortest_5 rfl ?_
  refine r_iload_n eX11_shortest_6 rfl ?_
  refine t_virtVx (As := [_]) (rest := []) (d' := d + 10 + 0) (ci := 11) (mc := 1) (ms := 6) eX11_shortest_7 k_11_101 l_11_101 rfl rfl rfl (by omega) (Nat.le_of_ble_eq_true rfl) (Nat.le_of_ble_eq_true rfl) (by omega) (by omega) (fun _ q => s_X11_needPlace q) q (fun _ _ q => Or.inl ⟨rfl, q⟩) (fun h7 q => ?_)
  refine r_aload_n eX11_shortest_10 rfl ?_
  refine r_iload eX11_shortest_11 rfl ?_
  refine t_virtVx (As := [_]) (rest := []) (d' := d + 10 + 0) (ci := 11) (mc := 1) (ms := 6) eX11_shortest_13 k_11_153 l_11_153 rfl rfl rfl (by omega) (Nat.le_of_ble_eq_true rfl) (Nat.le_of_ble_eq_true rfl) (by omega) (by omega) (fun _ q => s_X11_needYear q) q (fun _ _ q => Or.inl ⟨rfl, q⟩) (fun h13 q => ?_)
  refine r_aload_n eX11_shortest_16 rfl ?_
  refine r_iload_n eX11_shortest_17 rfl ?_
  refine t_virtVx (As := [_]) (rest := []) (d' := d + 10 + 0) (ci := 11) (mc := 1) (ms := 6) eX11_shortest_18 k_11_229 l_11_229 rfl rfl rfl (by omega) (Nat.le_of_ble_eq_true rfl) (Nat.le_of_ble_eq_true rfl) (by omega) (by omega) (fun _ q => s_X11_needWalkers q) q (fun _ _ q => Or.inl ⟨rfl, q⟩) (fun h18 q => ?_)
  refine r_iload_n eX11_shortest_21 rfl ?_
  refine t_if_eq eX11_shortest_22 (t := 37) (by decide) q (fun q => ?_) (fun q => ?_)
  · exact r_throw th_X11_shortest_37 (Nat.le_of_ble_eq_true rfl) (by omega) (by omega) q
  refine r_iload eX11_shortest_25 rfl ?_
  refine r_iconst (v := (1)) eX11_shortest_27 (by decide) ?_
  refine t_icmp_lt eX11_shortest_28 (t := 37) (by decide) q (fun q => ?_) (fun q => ?_)
  · exact r_throw th_X11_shortest_37 (Nat.le_of_ble_eq_true rfl) (by omega) (by omega) q
  refine r_iload eX11_shortest_31 rfl ?_
  refine r_iconst (v := (3)) eX11_shortest_33 (by decide) ?_
  refine t_icmp_le eX11_shortest_34 (t := 45) (by decide) q (fun q => ?_) (fun q => ?_)
  · refine r_iconst (v := (0)) eX11_shortest_45 (by decide) ?_
    refine r_istore (lv' := [_, _, _, _, _, _, _, _]) eX11_shortest_46 (Nat.le_of_ble_eq_true rfl) rfl ?_
    refine sL_X11_shortest_48 (fun w1 h2 q => ?_) _ _ _ q
    refine r_aload_n eX11_shortest_84 rfl ?_
    refine t_gfR eX11_shortest_85 f_11_60 q (fun v85 q => ?_)
    refine r_iload_n eX11_shortest_88 rfl ?_
    refine r_iload_n eX11_shortest_89 rfl ?_
    refine r_iload_n eX11_shortest_90 rfl ?_
    refine t_virtV (As := [_, _, _]) (rest := []) (d' := d + 8 + 2) (ci := 1) eX11_shortest_91 k_11_339 rfl rfl rfl (by omega) (Nat.le_of_ble_eq_true rfl) (Nat.le_of_ble_eq_true rfl) (fun _ q => s_X1_begin q) q (fun h91 q => ?_)
    refine r_iconst (v := (1)) eX11_shortest_94 (by decide) ?_
    refine r_istore (lv' := [_, _, _, _, _, _, _, _]) eX11_shortest_95 (Nat.le_of_ble_eq_true rfl) rfl ?_
    refine sL_X11_shortest_97 (fun w3 h4 q => ?_) _ _ _ q
    refine r_iload eX11_shortest_117 rfl ?_
    refine r_iconst (v := (-1)) eX11_shortest_119 (by decide) ?_
    refine t_icmp_ne eX11_shortest_120 (t := 128) (by decide) q (fun q => ?_) (fun q => ?_)
    · refine r_iload eX11_shortest_128 rfl ?_
      refine t_if_lt eX11_shortest_130 (t := 153) (by decide) q (fun q => ?_) (fun q => ?_)
      · refine r_iconst (v := (-1)) eX11_shortest_153 (by decide) ?_
        exact t_rtI eX11_shortest_154 rfl q
      refine r_iload eX11_shortest_133 rfl ?_
      refine r_iload eX11_shortest_135 rfl ?_
      refine t_icmp_ge eX11_shortest_137 (t := 153) (by decide) q (fun q => ?_) (fun q => ?_)
      · refine r_iconst (v := (-1)) eX11_shortest_153 (by decide) ?_
        exact t_rtI eX11_shortest_154 rfl q
      refine r_aload_n eX11_shortest_140 rfl ?_
      refine t_gfR eX11_shortest_141 f_11_60 q (fun v141 q => ?_)
      refine t_gfR eX11_shortest_144 f_11_346 q (fun v144 q => ?_)
      refine r_iload eX11_shortest_147 rfl ?_
      refine t_gaI eX11_shortest_149 q (fun v149 q => ?_)
      refine r_goto (t := 154) eX11_shortest_150 (by decide) ?_
      exact t_rtI eX11_shortest_154 rfl q
    refine r_iload eX11_shortest_123 rfl ?_
    refine r_goto (t := 154) eX11_shortest_125 (by decide) ?_
    exact t_rtI eX11_shortest_154 rfl q
  exact r_throw th_X11_shortest_37 (Nat.le_of_ble_eq_true rfl) (by omega) (by omega) q
theorem s_X11_went {E : Ev} {d : Nat} {a0 : Nat} {x1 : Int32} {x2 : Int32} {x3 : Int32} {x4 : Int32} {x5 : Int32} {h : Hp} {Φ : Ou → Hp → Prop} (q : OK (F_X11_went E a0 x1 x2 x3 x4 x5 h) Φ) : CE E mX11_went (d + 2) [.ref a0, .int x1, .int x2, .int x3, .int x4, .int x5] h 5 30 Φ := by
  show WE E mX11_went (d + 2) 0 [some (.ref a0), some (.int x1), some (.int x2), some (.int x3), some (.int x4), some (.int x5)] [] h 5 30 Φ
  refine r_aload_n eX11_went_0 rfl ?_
  refine r_iload eX11_went_1 rfl ?_
  refine t_virtVx (As := [_]) (rest := []) (d' := d + 1 + 0) (ci := 11) (mc := 1) (ms := 6) eX11_went_3 k_11_101 l_11_101 rfl rfl rfl (by omega) (Nat.le_of_ble_eq_true rfl) (Nat.le_of_ble_eq_true rfl) (by omega) (by omega) (fun _ q => s_X11_needPlace q) q (fun _ _ q => Or.inl ⟨rfl, q⟩) (fun h3 q => ?_)
  refine r_aload_n eX11_went_6 rfl ?_
  refine r_iload_n eX11_went_7 rfl ?_
  refine r_iload_n eX11_went_8 rfl ?_
  refine r_iload_n eX11_went_9 rfl ?_
  refine r_iload eX11_went_10 rfl ?_
  refine t_virtVx (As := [_, _, _, _]) (rest := []) (d' := d + 0 + 1) (ci := 11) (mc := 4) (ms := 24) eX11_went_12 k_11_278 l_11_278 rfl rfl rfl (by omega) (Nat.le_of_ble_eq_true rfl) (Nat.le_of_ble_eq_true rfl) (by omega) (by omega) (fun _ q => s_X11_needTold q) q (fun _ _ q => Or.inl ⟨rfl, q⟩) (fun h12 q => ?_)
  refine r_aload_n eX11_went_15 rfl ?_
  refine t_gfR eX11_went_16 f_11_26 q (fun v16 q => ?_)
  refine r_iload_n eX11_went_19 rfl ?_
  refine r_iload_n eX11_went_20 rfl ?_
  refine r_iload_n eX11_went_21 rfl ?_
  refine r_iload eX11_went_22 rfl ?_
  refine r_iload eX11_went_24 rfl ?_
  refine t_virtI (As := [_, _, _, _, _]) (rest := []) (d' := d + 1 + 0) (ci := 0) eX11_went_26 k_11_349 rfl rfl rfl (by omega) (Nat.le_of_ble_eq_true rfl) (Nat.le_of_ble_eq_true rfl) (fun _ q => s_X0_addRecord q) q (fun v26 h26 q => ?_)
  exact t_rtI eX11_went_29 rfl q
theorem sL_X11_kindsThatFit_17 {E : Ev} {d kc ks : Nat} {Φ : Ou → Hp → Prop} {y0 : Nat} {y1 : Int32} {y2 : Int32} {y3 : Int32} {y4 : Int32}  : ∀ (g : Nat) (y5 : Int32) (y6 : Int32) (h : Hp), OK (L_X11_kindsThatFit_17 E y0 y1 y2 y3 y4 g y5 y6 h) Φ → WE E mX11_kindsThatFit (d + 7) 17 [some (.ref y0), some (.int y1), some (.int y2), some (.int y3), some (.int y4), some (.int y5), some (.int y6)] [] h kc ks Φ := by
  intro g
  induction g with
  | zero => intro y5 y6 h q; exact q.elim
  | succ g ih =>
    intro y5 y6 h q
    refine r_iload eX11_kindsThatFit_17 rfl ?_
    refine r_bipush (v := (12)) eX11_kindsThatFit_19 (by decide) ?_
    refine t_icmp_ge eX11_kindsThatFit_21 (t := 119) (by decide) q (fun q => ?_) (fun q => ?_)
    · refine r_iload eX11_kindsThatFit_119 rfl ?_
      exact t_rtI eX11_kindsThatFit_121 rfl q
    refine r_iload_n eX11_kindsThatFit_24 rfl ?_
    refine r_i2l eX11_kindsThatFit_25 ?_
    refine r_iload eX11_kindsThatFit_26 rfl ?_
    refine t_statI (As := [_, _]) (rest := []) (d' := d + 6 + 0) eX11_kindsThatFit_28 k_11_225 rfl (by omega) (Nat.le_of_ble_eq_true rfl) (Nat.le_of_ble_eq_true rfl) (fun _ q => s_X11_isIn q) q (fun v28 h28 q => ?_)
    refine t_if_eq eX11_kindsThatFit_31 (t := 113) (by decide) q (fun q => ?_) (fun q => ?_)
    · refine r_iinc (v := (1)) (lv' := [_, _, _, _, _, _, _]) eX11_kindsThatFit_113 rfl (by decide) rfl ?_
      refine r_goto (t := 17) eX11_kindsThatFit_116 (by decide) ?_
      exact ih _ _ _ q
    refine r_aload_n eX11_kindsThatFit_34 rfl ?_
    refine t_gfR eX11_kindsThatFit_35 f_11_44 q (fun v35 q => ?_)
    refine r_iload_n eX11_kindsThatFit_38 rfl ?_
    refine r_iconst (v := (1)) eX11_kindsThatFit_39 (by decide) ?_
    refine r_iload eX11_kindsThatFit_40 rfl ?_
    refine r_ishl eX11_kindsThatFit_42 ?_
    refine t_virtV (As := [_, _]) (rest := []) (d' := d + 4 + 2) (ci := 9) eX11_kindsThatFit_43 k_11_367 rfl rfl rfl (by omega) (Nat.le_of_ble_eq_true rfl) (Nat.le_of_ble_eq_true rfl) (fun _ q => s_X9_suppose q) q (fun h43 q => ?_)
    refine r_aload_n eX11_kindsThatFit_46 rfl ?_
    refine t_gfR eX11_kindsThatFit_47 f_11_44 q (fun v47 q => ?_)
    refine r_iload eX11_kindsThatFit_50 rfl ?_
    refine r_aload_n eX11_kindsThatFit_52 rfl ?_
    refine t_gfR eX11_kindsThatFit_53 f_11_26 q (fun v53 q => ?_)
    refine t_gfR eX11_kindsThatFit_56 f_11_370 q (fun v56 q => ?_)
    refine r_iload_n eX11_kindsThatFit_59 rfl ?_
    refine t_gaI eX11_kindsThatFit_60 q (fun v60 q => ?_)
    refine r_aload_n eX11_kindsThatFit_61 rfl ?_
    refine t_gfR eX11_kindsThatFit_62 f_11_26 q (fun v62 q => ?_)
    refine t_gfR eX11_kindsThatFit_65 f_11_275 q (fun v65 q => ?_)
    refine r_iload eX11_kindsThatFit_68 rfl ?_
    refine t_gaI eX11_kindsThatFit_70 q (fun v70 q => ?_)
    refine t_virtI (As := [_, _, _]) (rest := []) (d' := d + 0 + 6) (ci := 9) eX11_kindsThatFit_71 k_11_282 rfl rfl rfl (by omega) (Nat.le_of_ble_eq_true rfl) (Nat.le_of_ble_eq_true rfl) (fun _ q => s_X9_follow q) q (fun v71 h71 q => ?_)
    refine r_pop eX11_kindsThatFit_74 rfl ?_
    refine r_aload_n eX11_kindsThatFit_75 rfl ?_
    refine t_gfR eX11_kindsThatFit_76 f_11_35 q (fun v76 q => ?_)
    refine r_aload_n eX11_kindsThatFit_79 rfl ?_
    refine t_gfR eX11_kindsThatFit_80 f_11_44 q (fun v80 q => ?_)
    refine t_gfR eX11_kindsThatFit_83 f_11_173 q (fun v83 q => ?_)
    refine t_virtL (As := [_]) (rest := []) (d' := d + 4 + 2) (ci := 10) eX11_kindsThatFit_86 k_11_373 rfl rfl rfl (by omega) (Nat.le_of_ble_eq_true rfl) (Nat.le_of_ble_eq_true rfl) (fun _ q => s_X10_placesOf q) q (fun v86 h86 q => ?_)
    refine r_aload_n eX11_kindsThatFit_89 rfl ?_
    refine t_gfR eX11_kindsThatFit_90 f_11_26 q (fun v90 q => ?_)
    refine t_gfR eX11_kindsThatFit_93 f_11_377 q (fun v93 q => ?_)
    refine r_iload_n eX11_kindsThatFit_96 rfl ?_
    refine t_gaI eX11_kindsThatFit_97 q (fun v97 q => ?_)
    refine t_statI (As := [_, _]) (rest := []) (d' := d + 6 + 0) eX11_kindsThatFit_98 k_11_225 rfl (by omega) (Nat.le_of_ble_eq_true rfl) (Nat.le_of_ble_eq_true rfl) (fun _ q => s_X11_isIn q) q (fun v98 h98 q => ?_)
    refine t_if_eq eX11_kindsThatFit_101 (t := 113) (by decide) q (fun q => ?_) (fun q => ?_)
    · refine r_iinc (v := (1)) (lv' := [_, _, _, _, _, _, _]) eX11_kindsThatFit_113 rfl (by decide) rfl ?_
      refine r_goto (t := 17) eX11_kindsThatFit_116 (by decide) ?_
      exact ih _ _ _ q
    refine r_iload eX11_kindsThatFit_104 rfl ?_
    refine r_iconst (v := (1)) eX11_kindsThatFit_106 (by decide) ?_
    refine r_iload eX11_kindsThatFit_107 rfl ?_
    refine r_ishl eX11_kindsThatFit_109 ?_
    refine r_ior eX11_kindsThatFit_110 ?_
    replace q := OK_lt q
    refine r_istore (lv' := [_, _, _, _, _, _, _]) eX11_kindsThatFit_111 (Nat.le_of_ble_eq_true rfl) rfl ?_
    refine r_iinc (v := (1)) (lv' := [_, _, _, _, _, _, _]) eX11_kindsThatFit_113 rfl (by decide) rfl ?_
    refine r_goto (t := 17) eX11_kindsThatFit_116 (by decide) ?_
    exact ih _ _ _ q
theorem s_X11_kindsThatFit {E : Ev} {d : Nat} {a0 : Nat} {x1 : Int32} {x2 : Int32} {x3 : Int32} {h : Hp} {Φ : Ou → Hp → Prop} (q : OK (F_X11_kindsThatFit E a0 x1 x2 x3 h) Φ) : CE E mX11_kindsThatFit (d + 7) [.ref a0, .int x1, .int x2, .int x3] h 0 0 Φ := by
  show WE E mX11_kindsThatFit (d + 7) 0 [some (.ref a0), some (.int x1), some (.int x2), some (.int x3), none, none, none] [] h 0 0 Φ
  refine r_aload_n eX11_kindsThatFit_0 rfl ?_
  refine t_gfR eX11_kindsThatFit_1 f_11_26 q (fun v1 q => ?_)
  refine t_gfR eX11_kindsThatFit_4 f_11_364 q (fun v4 q => ?_)
  refine r_iload_n eX11_kindsThatFit_7 rfl ?_
  refine t_gaI eX11_kindsThatFit_8 q (fun v8 q => ?_)
  refine r_istore (lv' := [_, _, _, _, _, _, _]) eX11_kindsThatFit_9 (Nat.le_of_ble_eq_true rfl) rfl ?_
  refine r_iconst (v := (0)) eX11_kindsThatFit_11 (by decide) ?_
  refine r_istore (lv' := [_, _, _, _, _, _, _]) eX11_kindsThatFit_12 (Nat.le_of_ble_eq_true rfl) rfl ?_
  refine r_iconst (v := (0)) eX11_kindsThatFit_14 (by decide) ?_
  refine r_istore (lv' := [_, _, _, _, _, _, _]) eX11_kindsThatFit_15 (Nat.le_of_ble_eq_true rfl) rfl ?_
  exact sL_X11_kindsThatFit_17  _ _ _ _ q
theorem sL_X11_learned_17 {E : Ev} {d kc ks : Nat} {Φ : Ou → Hp → Prop} {y0 : Nat} {y1 : Int32} {y2 : Int32}  : ∀ (g : Nat) (y3 : Int32) (y4 : Int32) (h : Hp), OK (L_X11_learned_17 E y0 y1 y2 g y3 y4 h) Φ → WE E mX11_learned (d + 8) 17 [some (.ref y0), some (.int y1), some (.int y2), some (.int y3), some (.int y4)] [] h kc ks Φ := by
  intro g
  induction g with
  | zero => intro y3 y4 h q; exact q.elim
  | succ g ih =>
    intro y3 y4 h q
    refine r_iload eX11_learned_17 rfl ?_
    refine r_aload_n eX11_learned_19 rfl ?_
    refine t_gfR eX11_learned_20 f_11_26 q (fun v20 q => ?_)
    refine t_gfI eX11_learned_23 f_11_352 q (fun v23 q => ?_)
    refine t_icmp_ge eX11_learned_26 (t := 73) (by decide) q (fun q => ?_) (fun q => ?_)
    · refine r_iload_n eX11_learned_73 rfl ?_
      exact t_rtI eX11_learned_74 rfl q
    refine r_aload_n eX11_learned_29 rfl ?_
    refine t_gfR eX11_learned_30 f_11_26 q (fun v30 q => ?_)
    refine t_gfR eX11_learned_33 f_11_355 q (fun v33 q => ?_)
    refine r_iload eX11_learned_36 rfl ?_
    refine t_gaI eX11_learned_38 q (fun v38 q => ?_)
    refine r_iload_n eX11_learned_39 rfl ?_
    refine t_icmp_ne eX11_learned_40 (t := 67) (by decide) q (fun q => ?_) (fun q => ?_)
    · refine r_iinc (v := (1)) (lv' := [_, _, _, _, _]) eX11_learned_67 rfl (by decide) rfl ?_
      refine r_goto (t := 17) eX11_learned_70 (by decide) ?_
      exact ih _ _ _ q
    refine r_aload_n eX11_learned_43 rfl ?_
    refine r_iload_n eX11_learned_44 rfl ?_
    refine r_aload_n eX11_learned_45 rfl ?_
    refine t_gfR eX11_learned_46 f_11_26 q (fun v46 q => ?_)
    refine t_gfR eX11_learned_49 f_11_358 q (fun v49 q => ?_)
    refine r_iload eX11_learned_52 rfl ?_
    refine t_gaI eX11_learned_54 q (fun v54 q => ?_)
    refine t_virtV (As := [_, _]) (rest := []) (d' := d + 4 + 3) (ci := 11) eX11_learned_55 k_11_215 rfl rfl rfl (by omega) (Nat.le_of_ble_eq_true rfl) (Nat.le_of_ble_eq_true rfl) (fun _ q => s_X11_setOut q) q (fun h55 q => ?_)
    refine r_aload_n eX11_learned_58 rfl ?_
    refine r_iload eX11_learned_59 rfl ?_
    refine r_iload_n eX11_learned_61 rfl ?_
    refine r_iload_n eX11_learned_62 rfl ?_
    refine t_virtI (As := [_, _, _]) (rest := []) (d' := d + 0 + 7) (ci := 11) eX11_learned_63 k_11_361 rfl rfl rfl (by omega) (Nat.le_of_ble_eq_true rfl) (Nat.le_of_ble_eq_true rfl) (fun _ q => s_X11_kindsThatFit q) q (fun v63 h63 q => ?_)
    refine r_istore_n (lv' := [_, _, _, _, _]) eX11_learned_66 (Nat.le_of_ble_eq_true rfl) rfl ?_
    refine r_iinc (v := (1)) (lv' := [_, _, _, _, _]) eX11_learned_67 rfl (by decide) rfl ?_
    refine r_goto (t := 17) eX11_learned_70 (by decide) ?_
    exact ih _ _ _ q
theorem s_X11_learned {E : Ev} {d : Nat} {a0 : Nat} {x1 : Int32} {x2 : Int32} {h : Hp} {Φ : Ou → Hp → Prop} (q : OK (F_X11_learned E a0 x1 x2 h) Φ) : CE E mX11_learned (d + 8) [.ref a0, .int x1, .int x2] h 2 12 Φ := by
  show WE E mX11_learned (d + 8) 0 [some (.ref a0), some (.int x1), some (.int x2), none, none] [] h 2 12 Φ
  refine r_aload_n eX11_learned_0 rfl ?_
  refine r_iload_n eX11_learned_1 rfl ?_
  refine t_virtVx (As := [_]) (rest := []) (d' := d + 7 + 0) (ci := 11) (mc := 1) (ms := 6) eX11_learned_2 k_11_212 l_11_212 rfl rfl rfl (by omega) (Nat.le_of_ble_eq_true rfl) (Nat.le_of_ble_eq_true rfl) (by omega) (by omega) (fun _ q => s_X11_needWalker q) q (fun _ _ q => Or.inl ⟨rfl, q⟩) (fun h2 q => ?_)
  refine r_aload_n eX11_learned_5 rfl ?_
  refine r_iload_n eX11_learned_6 rfl ?_
  refine t_virtVx (As := [_]) (rest := []) (d' := d + 7 + 0) (ci := 11) (mc := 1) (ms := 6) eX11_learned_7 k_11_199 l_11_199 rfl rfl rfl (by omega) (Nat.le_of_ble_eq_true rfl) (Nat.le_of_ble_eq_true rfl) (by omega) (by omega) (fun _ q => s_X11_needName q) q (fun _ _ q => Or.inl ⟨rfl, q⟩) (fun h7 q => ?_)
  refine r_sipush (v := (4095)) eX11_learned_10 (by decide) ?_
  refine r_istore_n (lv' := [_, _, _, _, _]) eX11_learned_13 (Nat.le_of_ble_eq_true rfl) rfl ?_
  refine r_iconst (v := (0)) eX11_learned_14 (by decide) ?_
  refine r_istore (lv' := [_, _, _, _, _]) eX11_learned_15 (Nat.le_of_ble_eq_true rfl) rfl ?_
  exact sL_X11_learned_17  _ _ _ _ q
theorem sJ_X11_teller_61 {E : Ev} {d kc ks : Nat} {Φ : Ou → Hp → Prop} {y0 : Nat} {y1 : Int32} {y2 : Int32} {y3 : Int32} {y4 : Int32} {y5 : Int32} {y6 : Int32} {h : Hp} {K9 : Int32 → Int32 → Int32 → Int32 → Hp → Rs} (hK9 : ∀ (w1 : Int32) (w2 : Int32) (w3 : Int32) (w4 : Int32) (w5 : Option Value) (w6 : Option Value) (h : Hp), OK (K9 w1 w2 w3 w4 h) Φ → WE E mX11_teller (d + 1) 9 [some (.ref y0), some (.int w1), some (.int w2), some (.int w3), some (.int w4), w5, w6] [] h kc ks Φ) (q : OK (J_X11_teller_61 E K9 y0 y4 y5 y6 h) Φ) : WE E mX11_teller (d + 1) 61 [some (.ref y0), some (.int y1), some (.int y2), some (.int y3), some (.int y4), some (.int y5), some (.int y6)] [] h kc ks Φ := by
  refine r_iload eX11_teller_61 rfl ?_
  refine r_istore_n (lv' := [_, _, _, _, _, _, _]) eX11_teller_63 (Nat.le_of_ble_eq_true rfl) rfl ?_
  refine r_iload eX11_teller_64 rfl ?_
  refine r_istore_n (lv' := [_, _, _, _, _, _, _]) eX11_teller_66 (Nat.le_of_ble_eq_true rfl) rfl ?_
  refine r_iload eX11_teller_67 rfl ?_
  refine r_istore_n (lv' := [_, _, _, _, _, _, _]) eX11_teller_69 (Nat.le_of_ble_eq_true rfl) rfl ?_
  refine r_iinc (v := (1)) (lv' := [_, _, _, _, _, _, _]) eX11_teller_70 rfl (by decide) rfl ?_
  refine r_goto (t := 9) eX11_teller_73 (by decide) ?_
  exact hK9 _ _ _ _ _ _ _ q
theorem sL_X11_teller_9 {E : Ev} {d kc ks : Nat} {Φ : Ou → Hp → Prop} {y0 : Nat}  : ∀ (g : Nat) (y1 : Int32) (y2 : Int32) (y3 : Int32) (y4 : Int32) (y5 : Option Value) (y6 : Option Value) (h : Hp), OK (L_X11_teller_9 E y0 g y1 y2 y3 y4 h) Φ → WE E mX11_teller (d + 1) 9 [some (.ref y0), some (.int y1), some (.int y2), some (.int y3), some (.int y4), y5, y6] [] h kc ks Φ := by
  intro g
  induction g with
  | zero => intro y1 y2 y3 y4 y5 y6 h q; exact q.elim
  | succ g ih =>
    intro y1 y2 y3 y4 y5 y6 h q
    refine r_iload eX11_teller_9 rfl ?_
    refine r_bipush (v := (10)) eX11_teller_11 (by decide) ?_
    refine t_icmp_ge eX11_teller_13 (t := 76) (by decide) q (fun q => ?_) (fun q => ?_)
    · refine r_iload_n eX11_teller_76 rfl ?_
      exact t_rtI eX11_teller_77 rfl q
    refine r_aload_n eX11_teller_16 rfl ?_
    refine t_gfR eX11_teller_17 f_11_26 q (fun v17 q => ?_)
    refine r_iload eX11_teller_20 rfl ?_
    refine r_iconst (v := (0)) eX11_teller_22 (by decide) ?_
    refine t_virtI (As := [_, _]) (rest := []) (d' := d + 0 + 0) (ci := 0) eX11_teller_23 k_11_380 rfl rfl rfl (by omega) (Nat.le_of_ble_eq_true rfl) (Nat.le_of_ble_eq_true rfl) (fun _ q => s_X0_recordsOf q) q (fun v23 h23 q => ?_)
    refine r_istore (lv' := [_, _, _, _, _, _, _]) eX11_teller_26 (Nat.le_of_ble_eq_true rfl) rfl ?_
    refine r_aload_n eX11_teller_28 rfl ?_
    refine t_gfR eX11_teller_29 f_11_26 q (fun v29 q => ?_)
    refine r_iload eX11_teller_32 rfl ?_
    refine r_iconst (v := (1)) eX11_teller_34 (by decide) ?_
    refine t_virtI (As := [_, _]) (rest := []) (d' := d + 0 + 0) (ci := 0) eX11_teller_35 k_11_380 rfl rfl rfl (by omega) (Nat.le_of_ble_eq_true rfl) (Nat.le_of_ble_eq_true rfl) (fun _ q => s_X0_recordsOf q) q (fun v35 h35 q => ?_)
    refine r_istore (lv' := [_, _, _, _, _, _, _]) eX11_teller_38 (Nat.le_of_ble_eq_true rfl) rfl ?_
    refine r_iload eX11_teller_40 rfl ?_
    refine t_if_le eX11_teller_42 (t := 70) (by decide) q (fun q => ?_) (fun q => ?_)
    · refine r_iinc (v := (1)) (lv' := [_, _, _, _, _, _, _]) eX11_teller_70 rfl (by decide) rfl ?_
      refine r_goto (t := 9) eX11_teller_73 (by decide) ?_
      exact ih _ _ _ _ _ _ _ q
    refine r_iload_n eX11_teller_45 rfl ?_
    refine r_iconst (v := (-1)) eX11_teller_46 (by decide) ?_
    refine t_icmp_eq eX11_teller_47 (t := 61) (by decide) q (fun q => ?_) (fun q => ?_)
    · refine sJ_X11_teller_61 (fun w1 w2 w3 w4 w5 w6 h7 q => ?_) q
      exact ih _ _ _ _ _ _ _ q
    refine r_iload eX11_teller_50 rfl ?_
    refine r_iload_n eX11_teller_52 rfl ?_
    refine r_imul eX11_teller_53 ?_
    refine r_iload_n eX11_teller_54 rfl ?_
    refine r_iload eX11_teller_55 rfl ?_
    refine r_imul eX11_teller_57 ?_
    refine t_icmp_le eX11_teller_58 (t := 70) (by decide) q (fun q => ?_) (fun q => ?_)
    · refine r_iinc (v := (1)) (lv' := [_, _, _, _, _, _, _]) eX11_teller_70 rfl (by decide) rfl ?_
      refine r_goto (t := 9) eX11_teller_73 (by decide) ?_
      exact ih _ _ _ _ _ _ _ q
    refine sJ_X11_teller_61 (fun w8 w9 w10 w11 w12 w13 h14 q => ?_) q
    exact ih _ _ _ _ _ _ _ q
theorem s_X11_teller {E : Ev} {d : Nat} {a0 : Nat} {h : Hp} {Φ : Ou → Hp → Prop} (q : OK (F_X11_teller E a0 h) Φ) : CE E mX11_teller (d + 1) [.ref a0] h 0 0 Φ := by
  show WE E mX11_teller (d + 1) 0 [some (.ref a0), none, none, none, none, none, none] [] h 0 0 Φ
  refine r_iconst (v := (-1)) eX11_teller_0 (by decide) ?_
  refine r_istore_n (lv' := [_, _, _, _, _, _, _]) eX11_teller_1 (Nat.le_of_ble_eq_true rfl) rfl ?_
  refine r_iconst (v := (0)) eX11_teller_2 (by decide) ?_
  refine r_istore_n (lv' := [_, _, _, _, _, _, _]) eX11_teller_3 (Nat.le_of_ble_eq_true rfl) rfl ?_
  refine r_iconst (v := (1)) eX11_teller_4 (by decide) ?_
  refine r_istore_n (lv' := [_, _, _, _, _, _, _]) eX11_teller_5 (Nat.le_of_ble_eq_true rfl) rfl ?_
  refine r_iconst (v := (0)) eX11_teller_6 (by decide) ?_
  refine r_istore (lv' := [_, _, _, _, _, _, _]) eX11_teller_7 (Nat.le_of_ble_eq_true rfl) rfl ?_
  exact sL_X11_teller_9  _ _ _ _ _ _ _ _ q
theorem s_X11_told {E : Ev} {d : Nat} {a0 : Nat} {x1 : Int32} {x2 : Int32} {h : Hp} {Φ : Ou → Hp → Prop} (q : OK (F_X11_told E a0 x1 x2 h) Φ) : CE E mX11_told (d + 1) [.ref a0, .int x1, .int x2] h 1 6 Φ := by
  show WE E mX11_told (d + 1) 0 [some (.ref a0), some (.int x1), some (.int x2)] [] h 1 6 Φ
  refine r_aload_n eX11_told_0 rfl ?_
  refine r_iload_n eX11_told_1 rfl ?_
  refine t_virtVx (As := [_]) (rest := []) (d' := d + 0 + 0) (ci := 11) (mc := 1) (ms := 6) eX11_told_2 k_11_247 l_11_247 rfl rfl rfl (by omega) (Nat.le_of_ble_eq_true rfl) (Nat.le_of_ble_eq_true rfl) (by omega) (by omega) (fun _ q => s_X11_needTeller q) q (fun _ _ q => Or.inl ⟨rfl, q⟩) (fun h2 q => ?_)
  refine r_aload_n eX11_told_5 rfl ?_
  refine t_gfR eX11_told_6 f_11_26 q (fun v6 q => ?_)
  refine r_iload_n eX11_told_9 rfl ?_
  refine r_iload_n eX11_told_10 rfl ?_
  refine t_if_ne eX11_told_11 (t := 18) (by decide) q (fun q => ?_) (fun q => ?_)
  · refine r_iconst (v := (0)) eX11_told_18 (by decide) ?_
    refine t_virtI (As := [_, _]) (rest := []) (d' := d + 0 + 0) (ci := 0) eX11_told_19 k_11_380 rfl rfl rfl (by omega) (Nat.le_of_ble_eq_true rfl) (Nat.le_of_ble_eq_true rfl) (fun _ q => s_X0_recordsOf q) q (fun v19 h19 q => ?_)
    exact t_rtI eX11_told_22 rfl q
  refine r_iconst (v := (1)) eX11_told_14 (by decide) ?_
  refine r_goto (t := 19) eX11_told_15 (by decide) ?_
  refine t_virtI (As := [_, _]) (rest := []) (d' := d + 0 + 0) (ci := 0) eX11_told_19 k_11_380 rfl rfl rfl (by omega) (Nat.le_of_ble_eq_true rfl) (Nat.le_of_ble_eq_true rfl) (fun _ q => s_X0_recordsOf q) q (fun v19 h19 q => ?_)
  exact t_rtI eX11_told_22 rfl q
theorem s_X11_needTray {E : Ev} {d : Nat} {a0 : Nat} {x1 : Int32} {h : Hp} {Φ : Ou → Hp → Prop} (q : OK (F_X11_needTray E a0 x1 h) Φ) : CE E mX11_needTray (d + 0) [.ref a0, .int x1] h 1 6 Φ := by
  show WE E mX11_needTray (d + 0) 0 [some (.ref a0), some (.int x1)] [] h 1 6 Φ
  refine r_iload_n eX11_needTray_0 rfl ?_
  refine t_if_lt eX11_needTray_1 (t := 9) (by decide) q (fun q => ?_) (fun q => ?_)
  · exact r_throw th_X11_needTray_9 (Nat.le_of_ble_eq_true rfl) (by omega) (by omega) q
  refine r_iload_n eX11_needTray_4 rfl ?_
  refine r_iconst (v := (4)) eX11_needTray_5 (by decide) ?_
  refine t_icmp_lt eX11_needTray_6 (t := 17) (by decide) q (fun q => ?_) (fun q => ?_)
  · exact t_rtV eX11_needTray_17 rfl q
  exact r_throw th_X11_needTray_9 (Nat.le_of_ble_eq_true rfl) (by omega) (by omega) q
theorem s_X11_tray {E : Ev} {d : Nat} {a0 : Nat} {x1 : Int32} {x2 : Int32} {x3 : Int32} {h : Hp} {Φ : Ou → Hp → Prop} (q : OK (F_X11_tray E a0 x1 x2 x3 h) Φ) : CE E mX11_tray (d + 2) [.ref a0, .int x1, .int x2, .int x3] h 2 12 Φ := by
  show WE E mX11_tray (d + 2) 0 [some (.ref a0), some (.int x1), some (.int x2), some (.int x3)] [] h 2 12 Φ
  refine r_aload_n eX11_tray_0 rfl ?_
  refine r_iload_n eX11_tray_1 rfl ?_
  refine t_virtVx (As := [_]) (rest := []) (d' := d + 1 + 0) (ci := 11) (mc := 1) (ms := 6) eX11_tray_2 k_11_384 l_11_384 rfl rfl rfl (by omega) (Nat.le_of_ble_eq_true rfl) (Nat.le_of_ble_eq_true rfl) (by omega) (by omega) (fun _ q => s_X11_needTray q) q (fun _ _ q => Or.inl ⟨rfl, q⟩) (fun h2 q => ?_)
  refine r_iload_n eX11_tray_5 rfl ?_
  refine t_if_lt eX11_tray_6 (t := 24) (by decide) q (fun q => ?_) (fun q => ?_)
  · exact r_throw th_X11_tray_24 (Nat.le_of_ble_eq_true rfl) (by omega) (by omega) q
  refine r_iload_n eX11_tray_9 rfl ?_
  refine r_iconst (v := (4)) eX11_tray_10 (by decide) ?_
  refine t_icmp_ge eX11_tray_11 (t := 24) (by decide) q (fun q => ?_) (fun q => ?_)
  · exact r_throw th_X11_tray_24 (Nat.le_of_ble_eq_true rfl) (by omega) (by omega) q
  refine r_iload_n eX11_tray_14 rfl ?_
  refine t_if_lt eX11_tray_15 (t := 24) (by decide) q (fun q => ?_) (fun q => ?_)
  · exact r_throw th_X11_tray_24 (Nat.le_of_ble_eq_true rfl) (by omega) (by omega) q
  refine r_iload_n eX11_tray_18 rfl ?_
  refine r_bipush (v := (12)) eX11_tray_19 (by decide) ?_
  refine t_icmp_le eX11_tray_21 (t := 32) (by decide) q (fun q => ?_) (fun q => ?_)
  · refine r_aload_n eX11_tray_32 rfl ?_
    refine t_gfR eX11_tray_33 f_11_73 q (fun v33 q => ?_)
    refine r_iload_n eX11_tray_36 rfl ?_
    refine t_gaR eX11_tray_37 (by decide) q (fun v37 q => ?_)
    refine r_iload_n eX11_tray_38 rfl ?_
    refine r_iload_n eX11_tray_39 rfl ?_
    refine t_virtV (As := [_, _]) (rest := []) (d' := d + 0 + 1) (ci := 8) eX11_tray_40 k_11_387 rfl rfl rfl (by omega) (Nat.le_of_ble_eq_true rfl) (Nat.le_of_ble_eq_true rfl) (fun _ q => s_X8_lay q) q (fun h40 q => ?_)
    exact t_rtV eX11_tray_43 rfl q
  exact r_throw th_X11_tray_24 (Nat.le_of_ble_eq_true rfl) (by omega) (by omega) q
theorem s_X11_needLaid {E : Ev} {d : Nat} {a0 : Nat} {x1 : Int32} {h : Hp} {Φ : Ou → Hp → Prop} (q : OK (F_X11_needLaid E a0 x1 h) Φ) : CE E mX11_needLaid (d + 0) [.ref a0, .int x1] h 1 6 Φ := by
  show WE E mX11_needLaid (d + 0) 0 [some (.ref a0), some (.int x1)] [] h 1 6 Φ
  refine r_aload_n eX11_needLaid_0 rfl ?_
  refine t_gfR eX11_needLaid_1 f_11_73 q (fun v1 q => ?_)
  refine r_iload_n eX11_needLaid_4 rfl ?_
  refine t_gaR eX11_needLaid_5 (by decide) q (fun v5 q => ?_)
  refine t_gfI eX11_needLaid_6 f_11_432 q (fun v6 q => ?_)
  refine t_if_eq eX11_needLaid_9 (t := 20) (by decide) q (fun q => ?_) (fun q => ?_)
  · exact t_rtV eX11_needLaid_20 rfl q
  exact r_throw th_X11_needLaid_12 (Nat.le_of_ble_eq_true rfl) (by omega) (by omega) q
theorem s_X11_write {E : Ev} {d : Nat} {a0 : Nat} {x1 : Int32} {x2 : Int32} {x3 : Int64} {h : Hp} {Φ : Ou → Hp → Prop} (q : OK (F_X11_write E a0 x1 x2 x3 h) Φ) : CE E mX11_write (d + 1) [.ref a0, .int x1, .int x2, .long x3] h 3 18 Φ := by
  show WE E mX11_write (d + 1) 0 [some (.ref a0), some (.int x1), some (.int x2), some (.long x3), none] [] h 3 18 Φ
  refine r_aload_n eX11_write_0 rfl ?_
  refine r_iload_n eX11_write_1 rfl ?_
  refine t_virtVx (As := [_]) (rest := []) (d' := d + 0 + 0) (ci := 11) (mc := 1) (ms := 6) eX11_write_2 k_11_384 l_11_384 rfl rfl rfl (by omega) (Nat.le_of_ble_eq_true rfl) (Nat.le_of_ble_eq_true rfl) (by omega) (by omega) (fun _ q => s_X11_needTray q) q (fun _ _ q => Or.inl ⟨rfl, q⟩) (fun h2 q => ?_)
  refine r_aload_n eX11_write_5 rfl ?_
  refine r_iload_n eX11_write_6 rfl ?_
  refine t_virtVx (As := [_]) (rest := []) (d' := d + 0 + 0) (ci := 11) (mc := 1) (ms := 6) eX11_write_7 k_11_390 l_11_390 rfl rfl rfl (by omega) (Nat.le_of_ble_eq_true rfl) (Nat.le_of_ble_eq_true rfl) (by omega) (by omega) (fun _ q => s_X11_needLaid q) q (fun _ _ q => Or.inl ⟨rfl, q⟩) (fun h7 q => ?_)
  refine r_iload_n eX11_write_10 rfl ?_
  refine t_if_lt eX11_write_11 (t := 27) (by decide) q (fun q => ?_) (fun q => ?_)
  · exact r_throw th_X11_write_27 (Nat.le_of_ble_eq_true rfl) (by omega) (by omega) q
  refine r_iload_n eX11_write_14 rfl ?_
  refine r_aload_n eX11_write_15 rfl ?_
  refine t_gfR eX11_write_16 f_11_73 q (fun v16 q => ?_)
  refine r_iload_n eX11_write_19 rfl ?_
  refine t_gaR eX11_write_20 (by decide) q (fun v20 q => ?_)
  refine t_gfI eX11_write_21 f_11_393 q (fun v21 q => ?_)
  refine t_icmp_lt eX11_write_24 (t := 35) (by decide) q (fun q => ?_) (fun q => ?_)
  · refine r_aload_n eX11_write_35 rfl ?_
    refine t_gfR eX11_write_36 f_11_73 q (fun v36 q => ?_)
    refine r_iload_n eX11_write_39 rfl ?_
    refine t_gaR eX11_write_40 (by decide) q (fun v40 q => ?_)
    refine t_gfR eX11_write_41 f_11_397 q (fun v41 q => ?_)
    refine r_iload_n eX11_write_44 rfl ?_
    refine r_aload_n eX11_write_45 rfl ?_
    refine t_gfR eX11_write_46 f_11_73 q (fun v46 q => ?_)
    refine r_iload_n eX11_write_49 rfl ?_
    refine t_gaR eX11_write_50 (by decide) q (fun v50 q => ?_)
    refine r_lload_n eX11_write_51 rfl ?_
    refine t_virtL (As := [_]) (rest := [_, _]) (d' := d + 0 + 0) (ci := 8) eX11_write_52 k_11_400 rfl rfl rfl (by omega) (Nat.le_of_ble_eq_true rfl) (Nat.le_of_ble_eq_true rfl) (fun _ q => s_X8_cut q) q (fun v52 h52 q => ?_)
    refine t_paL eX11_write_55 q (fun h55 q => ?_)
    refine r_aload_n eX11_write_56 rfl ?_
    refine t_gfR eX11_write_57 f_11_73 q (fun v57 q => ?_)
    refine r_iload_n eX11_write_60 rfl ?_
    refine t_gaR eX11_write_61 (by decide) q (fun v61 q => ?_)
    refine t_gfR eX11_write_62 f_11_397 q (fun v62 q => ?_)
    refine r_iload_n eX11_write_65 rfl ?_
    refine t_gaL eX11_write_66 q (fun v66 q => ?_)
    exact t_rtL eX11_write_67 rfl q
  exact r_throw th_X11_write_27 (Nat.le_of_ble_eq_true rfl) (by omega) (by omega) q
theorem s_X11_say {E : Ev} {d : Nat} {a0 : Nat} {x1 : Int32} {x2 : Int32} {x3 : Int32} {h : Hp} {Φ : Ou → Hp → Prop} (q : OK (F_X11_say E a0 x1 x2 x3 h) Φ) : CE E mX11_say (d + 3) [.ref a0, .int x1, .int x2, .int x3] h 4 24 Φ := by
  show WE E mX11_say (d + 3) 0 [some (.ref a0), some (.int x1), some (.int x2), some (.int x3)] [] h 4 24 Φ
  refine r_aload_n eX11_say_0 rfl ?_
  refine r_iload_n eX11_say_1 rfl ?_
  refine t_virtVx (As := [_]) (rest := []) (d' := d + 2 + 0) (ci := 11) (mc := 1) (ms := 6) eX11_say_2 k_11_384 l_11_384 rfl rfl rfl (by omega) (Nat.le_of_ble_eq_true rfl) (Nat.le_of_ble_eq_true rfl) (by omega) (by omega) (fun _ q => s_X11_needTray q) q (fun _ _ q => Or.inl ⟨rfl, q⟩) (fun h2 q => ?_)
  refine r_aload_n eX11_say_5 rfl ?_
  refine r_iload_n eX11_say_6 rfl ?_
  refine t_virtVx (As := [_]) (rest := []) (d' := d + 2 + 0) (ci := 11) (mc := 1) (ms := 6) eX11_say_7 k_11_101 l_11_101 rfl rfl rfl (by omega) (Nat.le_of_ble_eq_true rfl) (Nat.le_of_ble_eq_true rfl) (by omega) (by omega) (fun _ q => s_X11_needPlace q) q (fun _ _ q => Or.inl ⟨rfl, q⟩) (fun h7 q => ?_)
  refine r_aload_n eX11_say_10 rfl ?_
  refine r_iload_n eX11_say_11 rfl ?_
  refine t_virtVx (As := [_]) (rest := []) (d' := d + 2 + 0) (ci := 11) (mc := 1) (ms := 6) eX11_say_12 k_11_390 l_11_390 rfl rfl rfl (by omega) (Nat.le_of_ble_eq_true rfl) (Nat.le_of_ble_eq_true rfl) (by omega) (by omega) (fun _ q => s_X11_needLaid q) q (fun _ _ q => Or.inl ⟨rfl, q⟩) (fun h12 q => ?_)
  refine r_aload_n eX11_say_15 rfl ?_
  refine t_gfR eX11_say_16 f_11_73 q (fun v16 q => ?_)
  refine r_iload_n eX11_say_19 rfl ?_
  refine t_gaR eX11_say_20 (by decide) q (fun v20 q => ?_)
  refine t_virtI (As := []) (rest := []) (d' := d + 2 + 0) (ci := 8) eX11_say_21 k_11_404 rfl rfl rfl (by omega) (Nat.le_of_ble_eq_true rfl) (Nat.le_of_ble_eq_true rfl) (fun _ q => s_X8_isSayable q) q (fun v21 h21 q => ?_)
  refine t_if_ne eX11_say_24 (t := 35) (by decide) q (fun q => ?_) (fun q => ?_)
  · refine r_aload_n eX11_say_35 rfl ?_
    refine r_iload_n eX11_say_36 rfl ?_
    refine t_virtVx (As := [_]) (rest := []) (d' := d + 2 + 0) (ci := 11) (mc := 1) (ms := 6) eX11_say_37 k_11_247 l_11_247 rfl rfl rfl (by omega) (Nat.le_of_ble_eq_true rfl) (Nat.le_of_ble_eq_true rfl) (by omega) (by omega) (fun _ q => s_X11_needTeller q) q (fun _ _ q => Or.inl ⟨rfl, q⟩) (fun h37 q => ?_)
    refine r_aload_n eX11_say_40 rfl ?_
    refine t_gfR eX11_say_41 f_11_26 q (fun v41 q => ?_)
    refine r_aload_n eX11_say_44 rfl ?_
    refine t_gfR eX11_say_45 f_11_73 q (fun v45 q => ?_)
    refine r_iload_n eX11_say_48 rfl ?_
    refine t_gaR eX11_say_49 (by decide) q (fun v49 q => ?_)
    refine r_iload_n eX11_say_50 rfl ?_
    refine r_iload_n eX11_say_51 rfl ?_
    refine t_virtI (As := [_, _, _]) (rest := []) (d' := d + 0 + 2) (ci := 0) eX11_say_52 k_11_407 rfl rfl rfl (by omega) (Nat.le_of_ble_eq_true rfl) (Nat.le_of_ble_eq_true rfl) (fun _ q => s_X0_addListed q) q (fun v52 h52 q => ?_)
    exact t_rtI eX11_say_55 rfl q
  exact r_throw th_X11_say_27 (Nat.le_of_ble_eq_true rfl) (by omega) (by omega) q
theorem s_X11_needImage {E : Ev} {d : Nat} {a0 : Nat} {x1 : Int32} {h : Hp} {Φ : Ou → Hp → Prop} (q : OK (F_X11_needImage E a0 x1 h) Φ) : CE E mX11_needImage (d + 0) [.ref a0, .int x1] h 1 6 Φ := by
  show WE E mX11_needImage (d + 0) 0 [some (.ref a0), some (.int x1)] [] h 1 6 Φ
  refine r_iload_n eX11_needImage_0 rfl ?_
  refine t_if_lt eX11_needImage_1 (t := 9) (by decide) q (fun q => ?_) (fun q => ?_)
  · exact r_throw th_X11_needImage_9 (Nat.le_of_ble_eq_true rfl) (by omega) (by omega) q
  refine r_iload_n eX11_needImage_4 rfl ?_
  refine r_iconst (v := (3)) eX11_needImage_5 (by decide) ?_
  refine t_icmp_lt eX11_needImage_6 (t := 17) (by decide) q (fun q => ?_) (fun q => ?_)
  · exact t_rtV eX11_needImage_17 rfl q
  exact r_throw th_X11_needImage_9 (Nat.le_of_ble_eq_true rfl) (by omega) (by omega) q
theorem s_X11_restore {E : Ev} {d : Nat} {a0 : Nat} {x1 : Int32} {h : Hp} {Φ : Ou → Hp → Prop} (q : OK (F_X11_restore E a0 x1 h) Φ) : CE E mX11_restore (d + 1) [.ref a0, .int x1] h 2 12 Φ := by
  show WE E mX11_restore (d + 1) 0 [some (.ref a0), some (.int x1)] [] h 2 12 Φ
  refine r_aload_n eX11_restore_0 rfl ?_
  refine r_iload_n eX11_restore_1 rfl ?_
  refine t_virtVx (As := [_]) (rest := []) (d' := d + 0 + 0) (ci := 11) (mc := 1) (ms := 6) eX11_restore_2 k_11_411 l_11_411 rfl rfl rfl (by omega) (Nat.le_of_ble_eq_true rfl) (Nat.le_of_ble_eq_true rfl) (by omega) (by omega) (fun _ q => s_X11_needImage q) q (fun _ _ q => Or.inl ⟨rfl, q⟩) (fun h2 q => ?_)
  refine r_aload_n eX11_restore_5 rfl ?_
  refine t_gfR eX11_restore_6 f_11_77 q (fun v6 q => ?_)
  refine r_iload_n eX11_restore_9 rfl ?_
  refine t_gaN eX11_restore_10 eX11_restore_11 (t1 := 32) (by decide) (by decide) q (fun q => ?_) (fun q => ?_)
  · exact r_throw th_X11_restore_32 (Nat.le_of_ble_eq_true rfl) (by omega) (by omega) q
  refine r_aload_n eX11_restore_14 rfl ?_
  refine t_gfR eX11_restore_15 f_11_81 q (fun v15 q => ?_)
  refine r_iload_n eX11_restore_18 rfl ?_
  refine t_gaN eX11_restore_19 eX11_restore_20 (t1 := 32) (by decide) (by decide) q (fun q => ?_) (fun q => ?_)
  · exact r_throw th_X11_restore_32 (Nat.le_of_ble_eq_true rfl) (by omega) (by omega) q
  refine r_aload_n eX11_restore_23 rfl ?_
  refine t_gfR eX11_restore_24 f_11_85 q (fun v24 q => ?_)
  refine r_iload_n eX11_restore_27 rfl ?_
  refine t_gaM eX11_restore_28 eX11_restore_29 (t1 := 40) (by decide) (by decide) q (fun q => ?_) (fun q => ?_)
  · exact r_throw th_X11_restore_32 (Nat.le_of_ble_eq_true rfl) (by omega) (by omega) q
  refine r_aload_n eX11_restore_40 rfl ?_
  refine t_gfR eX11_restore_41 f_11_12 q (fun v41 q => ?_)
  refine r_aload_n eX11_restore_44 rfl ?_
  refine t_gfR eX11_restore_45 f_11_77 q (fun v45 q => ?_)
  refine r_iload_n eX11_restore_48 rfl ?_
  refine t_gaR eX11_restore_49 (by decide) q (fun v49 q => ?_)
  refine t_virtV (As := [_]) (rest := []) (d' := d + 0 + 0) (ci := 3) eX11_restore_50 k_11_414 rfl rfl rfl (by omega) (Nat.le_of_ble_eq_true rfl) (Nat.le_of_ble_eq_true rfl) (fun _ q => s_X3_take q) q (fun h50 q => ?_)
  refine r_aload_n eX11_restore_53 rfl ?_
  refine t_gfR eX11_restore_54 f_11_19 q (fun v54 q => ?_)
  refine r_aload_n eX11_restore_57 rfl ?_
  refine t_gfR eX11_restore_58 f_11_81 q (fun v58 q => ?_)
  refine r_iload_n eX11_restore_61 rfl ?_
  refine t_gaR eX11_restore_62 (by decide) q (fun v62 q => ?_)
  refine t_virtV (As := [_]) (rest := []) (d' := d + 0 + 0) (ci := 2) eX11_restore_63 k_11_417 rfl rfl rfl (by omega) (Nat.le_of_ble_eq_true rfl) (Nat.le_of_ble_eq_true rfl) (fun _ q => s_X2_take q) q (fun h63 q => ?_)
  refine r_aload_n eX11_restore_66 rfl ?_
  refine t_gfR eX11_restore_67 f_11_26 q (fun v67 q => ?_)
  refine r_aload_n eX11_restore_70 rfl ?_
  refine t_gfR eX11_restore_71 f_11_85 q (fun v71 q => ?_)
  refine r_iload_n eX11_restore_74 rfl ?_
  refine t_gaR eX11_restore_75 (by decide) q (fun v75 q => ?_)
  refine t_virtV (As := [_]) (rest := []) (d' := d + 0 + 0) (ci := 0) eX11_restore_76 k_11_420 rfl rfl rfl (by omega) (Nat.le_of_ble_eq_true rfl) (Nat.le_of_ble_eq_true rfl) (fun _ q => s_X0_take q) q (fun h76 q => ?_)
  refine r_aload_n eX11_restore_79 rfl ?_
  refine t_gfR eX11_restore_80 f_11_35 q (fun v80 q => ?_)
  refine t_virtV (As := []) (rest := []) (d' := d + 0 + 0) (ci := 10) eX11_restore_83 k_11_113 rfl rfl rfl (by omega) (Nat.le_of_ble_eq_true rfl) (Nat.le_of_ble_eq_true rfl) (fun _ q => s_X10_forget q) q (fun h83 q => ?_)
  exact t_rtV eX11_restore_86 rfl q
theorem s_X11_count {E : Ev} {d : Nat} {a0 : Nat} {x1 : Int32} {h : Hp} {Φ : Ou → Hp → Prop} (q : OK (F_X11_count E a0 x1 h) Φ) : CE E mX11_count (d + 0) [.ref a0, .int x1] h 0 0 Φ := by
  show WE E mX11_count (d + 0) 0 [some (.ref a0), some (.int x1)] [] h 0 0 Φ
  refine r_iload_n eX11_count_0 rfl ?_
  refine OK_ite q (fun c0 q => ?_) (fun n0 q => ?_)
  · refine r_tsw 48 eX11_count_1 (by rw [c0]; decide) ?_
    refine r_aload_n eX11_count_48 rfl ?_
    refine t_gfR eX11_count_49 f_11_12 q (fun v49 q => ?_)
    refine t_gfI eX11_count_52 f_11_426 q (fun v52 q => ?_)
    exact t_rtI eX11_count_55 rfl q
  refine OK_ite q (fun c1 q => ?_) (fun n1 q => ?_)
  · refine r_tsw 56 eX11_count_1 (by rw [c1]; decide) ?_
    refine r_aload_n eX11_count_56 rfl ?_
    refine t_gfR eX11_count_57 f_11_12 q (fun v57 q => ?_)
    refine t_gfI eX11_count_60 f_11_124 q (fun v60 q => ?_)
    exact t_rtI eX11_count_63 rfl q
  refine OK_ite q (fun c2 q => ?_) (fun n2 q => ?_)
  · refine r_tsw 64 eX11_count_1 (by rw [c2]; decide) ?_
    refine r_aload_n eX11_count_64 rfl ?_
    refine t_gfR eX11_count_65 f_11_12 q (fun v65 q => ?_)
    refine t_gfI eX11_count_68 f_11_128 q (fun v68 q => ?_)
    exact t_rtI eX11_count_71 rfl q
  refine OK_ite q (fun c3 q => ?_) (fun n3 q => ?_)
  · refine r_tsw 72 eX11_count_1 (by rw [c3]; decide) ?_
    refine r_aload_n eX11_count_72 rfl ?_
    refine t_gfR eX11_count_73 f_11_19 q (fun v73 q => ?_)
    refine t_gfI eX11_count_76 f_11_429 q (fun v76 q => ?_)
    exact t_rtI eX11_count_79 rfl q
  refine OK_ite q (fun c4 q => ?_) (fun n4 q => ?_)
  · refine r_tsw 80 eX11_count_1 (by rw [c4]; decide) ?_
    refine r_aload_n eX11_count_80 rfl ?_
    refine t_gfR eX11_count_81 f_11_19 q (fun v81 q => ?_)
    refine t_gfI eX11_count_84 f_11_336 q (fun v84 q => ?_)
    exact t_rtI eX11_count_87 rfl q
  refine OK_ite q (fun c5 q => ?_) (fun n5 q => ?_)
  · refine r_tsw 88 eX11_count_1 (by rw [c5]; decide) ?_
    refine r_aload_n eX11_count_88 rfl ?_
    refine t_gfR eX11_count_89 f_11_26 q (fun v89 q => ?_)
    refine t_gfI eX11_count_92 f_11_250 q (fun v92 q => ?_)
    exact t_rtI eX11_count_95 rfl q
  refine OK_ite q (fun c6 q => ?_) (fun n6 q => ?_)
  · refine r_tsw 96 eX11_count_1 (by rw [c6]; decide) ?_
    refine r_aload_n eX11_count_96 rfl ?_
    refine t_gfR eX11_count_97 f_11_26 q (fun v97 q => ?_)
    refine t_gfI eX11_count_100 f_11_352 q (fun v100 q => ?_)
    exact t_rtI eX11_count_103 rfl q
  refine OK_ite q (fun c7 q => ?_) (fun n7 q => ?_)
  · refine r_tsw 104 eX11_count_1 (by rw [c7]; decide) ?_
    refine r_aload_n eX11_count_104 rfl ?_
    refine t_gfR eX11_count_105 f_11_67 q (fun v105 q => ?_)
    refine t_gfI eX11_count_108 f_11_241 q (fun v108 q => ?_)
    exact t_rtI eX11_count_111 rfl q
  refine r_tsw 112 eX11_count_1 (tsw_d (by have z0 := ne_i n0; have z1 := ne_i n1; have z2 := ne_i n2; have z3 := ne_i n3; have z4 := ne_i n4; have z5 := ne_i n5; have z6 := ne_i n6; have z7 := ne_i n7; rw [show (0 : Int32).toInt = 0 from by decide] at z0; rw [show (1 : Int32).toInt = 1 from by decide] at z1; rw [show (2 : Int32).toInt = 2 from by decide] at z2; rw [show (3 : Int32).toInt = 3 from by decide] at z3; rw [show (4 : Int32).toInt = 4 from by decide] at z4; rw [show (5 : Int32).toInt = 5 from by decide] at z5; rw [show (6 : Int32).toInt = 6 from by decide] at z6; rw [show (7 : Int32).toInt = 7 from by decide] at z7; omega) (by decide) (by decide)) ?_
  refine r_iconst (v := (-1)) eX11_count_112 (by decide) ?_
  exact t_rtI eX11_count_113 rfl q
theorem s_X12_thrown {E : Ev} {d : Nat} {a0 : Nat} {h : Hp} {Φ : Ou → Hp → Prop} (q : OK (F_X12_thrown E a0 h) Φ) : CE E mX12_thrown (d + 0) [.ref a0] h 0 0 Φ := by
  show WE E mX12_thrown (d + 0) 0 [some (.ref a0)] [] h 0 0 Φ
  refine r_aload_n eX12_thrown_0 rfl ?_
  refine t_gfI eX12_thrown_1 f_12_97 q (fun v1 q => ?_)
  exact t_rtI eX12_thrown_4 rfl q
theorem s_X12_fails {E : Ev} {d : Nat} {a0 : Nat} {x1 : Int32} {h : Hp} {Φ : Ou → Hp → Prop} (q : OK (F_X12_fails E a0 x1 h) Φ) : CE E mX12_fails (d + 0) [.ref a0, .int x1] h 0 0 Φ := by
  show WE E mX12_fails (d + 0) 0 [some (.ref a0), some (.int x1)] [] h 0 0 Φ
  refine r_aload_n eX12_fails_0 rfl ?_
  refine r_iload_n eX12_fails_1 rfl ?_
  refine t_pf eX12_fails_2 p_12_97 rfl rfl (fun q => by cases q) q (fun h2 q => ?_)
  refine r_iconst (v := (0)) eX12_fails_5 (by decide) ?_
  exact t_rtI eX12_fails_6 rfl q
theorem s_X12_fell {E : Ev} {d : Nat} {a0 : Nat} {x1 : Int32} {h : Hp} {Φ : Ou → Hp → Prop} (q : OK (F_X12_fell E a0 x1 h) Φ) : CE E mX12_fell (d + 0) [.ref a0, .int x1] h 0 0 Φ := by
  show WE E mX12_fell (d + 0) 0 [some (.ref a0), some (.int x1)] [] h 0 0 Φ
  refine r_aload_n eX12_fell_0 rfl ?_
  refine r_iload_n eX12_fell_1 rfl ?_
  refine t_pf eX12_fell_2 p_12_97 rfl rfl (fun q => by cases q) q (fun h2 q => ?_)
  refine r_iconst (v := (0)) eX12_fell_5 (by decide) ?_
  exact t_rtZ eX12_fell_6 rfl q
theorem s_X12_within {E : Ev} {d : Nat} {x0 : Int64} {x2 : Int64} {x4 : Int64} {h : Hp} {Φ : Ou → Hp → Prop} (q : OK (F_X12_within E x0 x2 x4 h) Φ) : CE E mX12_within (d + 0) [.long x0, .long x2, .long x4] h 0 0 Φ := by
  show WE E mX12_within (d + 0) 0 [some (.long x0), none, some (.long x2), none, some (.long x4), none] [] h 0 0 Φ
  refine r_lload_n eX12_within_0 rfl ?_
  refine r_lload_n eX12_within_1 rfl ?_
  refine t_lc_lt eX12_within_2 eX12_within_3 (t := 17) (by decide) q (fun q => ?_) (fun q => ?_)
  · refine r_iconst (v := (0)) eX12_within_17 (by decide) ?_
    exact t_rtZ eX12_within_18 rfl q
  refine r_lload_n eX12_within_6 rfl ?_
  refine r_lload eX12_within_7 rfl ?_
  refine t_lc_gt eX12_within_9 eX12_within_10 (t := 17) (by decide) q (fun q => ?_) (fun q => ?_)
  · refine r_iconst (v := (0)) eX12_within_17 (by decide) ?_
    exact t_rtZ eX12_within_18 rfl q
  refine r_iconst (v := (1)) eX12_within_13 (by decide) ?_
  refine r_goto (t := 18) eX12_within_14 (by decide) ?_
  exact t_rtZ eX12_within_18 rfl q
theorem s_X12_isYear {E : Ev} {d : Nat} {x0 : Int32} {h : Hp} {Φ : Ou → Hp → Prop} (q : OK (F_X12_isYear E x0 h) Φ) : CE E mX12_isYear (d + 1) [.int x0] h 0 0 Φ := by
  show WE E mX12_isYear (d + 1) 0 [some (.int x0)] [] h 0 0 Φ
  refine r_iload_n eX12_isYear_0 rfl ?_
  refine r_i2l eX12_isYear_1 ?_
  refine r_lconst (v := 0) eX12_isYear_2 rfl ?_
  refine r_ldc2 eX12_isYear_3 g_12_100 ?_
  refine t_statI (As := [_, _, _]) (rest := []) (d' := d + 0 + 0) eX12_isYear_6 k_12_102 rfl (by omega) (Nat.le_of_ble_eq_true rfl) (Nat.le_of_ble_eq_true rfl) (fun _ q => s_X12_within q) q (fun v6 h6 q => ?_)
  exact t_rtZ eX12_isYear_9 rfl q
theorem s_X12_is {E : Ev} {d : Nat} {a0 : Nat} {x1 : Int32} {x2 : Int32} {h : Hp} {Φ : Ou → Hp → Prop} (q : OK (F_X12_is E a0 x1 x2 h) Φ) : CE E mX12_is (d + 1) [.ref a0, .int x1, .int x2] h 0 0 Φ := by
  show WE E mX12_is (d + 1) 0 [some (.ref a0), some (.int x1), some (.int x2)] [] h 0 0 Φ
  refine r_iload_n eX12_is_0 rfl ?_
  refine r_i2l eX12_is_1 ?_
  refine r_lconst (v := 0) eX12_is_2 rfl ?_
  refine r_aload_n eX12_is_3 rfl ?_
  refine t_gfR eX12_is_4 f_12_9 q (fun v4 q => ?_)
  refine r_iload_n eX12_is_7 rfl ?_
  refine t_gaI eX12_is_8 q (fun v8 q => ?_)
  refine r_iconst (v := (1)) eX12_is_9 (by decide) ?_
  refine r_isub eX12_is_10 ?_
  refine r_i2l eX12_is_11 ?_
  refine t_statI (As := [_, _, _]) (rest := []) (d' := d + 0 + 0) eX12_is_12 k_12_102 rfl (by omega) (Nat.le_of_ble_eq_true rfl) (Nat.le_of_ble_eq_true rfl) (fun _ q => s_X12_within q) q (fun v12 h12 q => ?_)
  exact t_rtZ eX12_is_15 rfl q
theorem s_X12_isPlace {E : Ev} {d : Nat} {a0 : Nat} {x1 : Int32} {h : Hp} {Φ : Ou → Hp → Prop} (q : OK (F_X12_isPlace E a0 x1 h) Φ) : CE E mX12_isPlace (d + 2) [.ref a0, .int x1] h 0 0 Φ := by
  show WE E mX12_isPlace (d + 2) 0 [some (.ref a0), some (.int x1)] [] h 0 0 Φ
  refine r_aload_n eX12_isPlace_0 rfl ?_
  refine r_iconst (v := (0)) eX12_isPlace_1 (by decide) ?_
  refine r_iload_n eX12_isPlace_2 rfl ?_
  refine t_virtI (As := [_, _]) (rest := []) (d' := d + 0 + 1) (ci := 12) eX12_isPlace_3 k_12_106 rfl rfl rfl (by omega) (Nat.le_of_ble_eq_true rfl) (Nat.le_of_ble_eq_true rfl) (fun _ q => s_X12_is q) q (fun v3 h3 q => ?_)
  exact t_rtZ eX12_isPlace_6 rfl q
theorem s_X12_isWalker {E : Ev} {d : Nat} {a0 : Nat} {x1 : Int32} {h : Hp} {Φ : Ou → Hp → Prop} (q : OK (F_X12_isWalker E a0 x1 h) Φ) : CE E mX12_isWalker (d + 2) [.ref a0, .int x1] h 0 0 Φ := by
  show WE E mX12_isWalker (d + 2) 0 [some (.ref a0), some (.int x1)] [] h 0 0 Φ
  refine r_aload_n eX12_isWalker_0 rfl ?_
  refine r_iconst (v := (4)) eX12_isWalker_1 (by decide) ?_
  refine r_iload_n eX12_isWalker_2 rfl ?_
  refine t_virtI (As := [_, _]) (rest := []) (d' := d + 0 + 1) (ci := 12) eX12_isWalker_3 k_12_106 rfl rfl rfl (by omega) (Nat.le_of_ble_eq_true rfl) (Nat.le_of_ble_eq_true rfl) (fun _ q => s_X12_is q) q (fun v3 h3 q => ?_)
  exact t_rtZ eX12_isWalker_6 rfl q
theorem s_X12_isTelling {E : Ev} {d : Nat} {a0 : Nat} {x1 : Int32} {h : Hp} {Φ : Ou → Hp → Prop} (q : OK (F_X12_isTelling E a0 x1 h) Φ) : CE E mX12_isTelling (d + 2) [.ref a0, .int x1] h 0 0 Φ := by
  show WE E mX12_isTelling (d + 2) 0 [some (.ref a0), some (.int x1)] [] h 0 0 Φ
  refine r_aload_n eX12_isTelling_0 rfl ?_
  refine r_iconst (v := (5)) eX12_isTelling_1 (by decide) ?_
  refine r_iload_n eX12_isTelling_2 rfl ?_
  refine t_virtI (As := [_, _]) (rest := []) (d' := d + 0 + 1) (ci := 12) eX12_isTelling_3 k_12_106 rfl rfl rfl (by omega) (Nat.le_of_ble_eq_true rfl) (Nat.le_of_ble_eq_true rfl) (fun _ q => s_X12_is q) q (fun v3 h3 q => ?_)
  exact t_rtZ eX12_isTelling_6 rfl q
theorem s_X12_isState {E : Ev} {d : Nat} {a0 : Nat} {x1 : Int32} {h : Hp} {Φ : Ou → Hp → Prop} (q : OK (F_X12_isState E a0 x1 h) Φ) : CE E mX12_isState (d + 1) [.ref a0, .int x1] h 0 0 Φ := by
  show WE E mX12_isState (d + 1) 0 [some (.ref a0), some (.int x1)] [] h 0 0 Φ
  refine r_iload_n eX12_isState_0 rfl ?_
  refine r_i2l eX12_isState_1 ?_
  refine r_lconst (v := 0) eX12_isState_2 rfl ?_
  refine r_iconst (v := (4)) eX12_isState_3 (by decide) ?_
  refine r_aload_n eX12_isState_4 rfl ?_
  refine t_gfR eX12_isState_5 f_12_9 q (fun v5 q => ?_)
  refine r_iconst (v := (1)) eX12_isState_8 (by decide) ?_
  refine t_gaI eX12_isState_9 q (fun v9 q => ?_)
  refine r_imul eX12_isState_10 ?_
  refine r_iconst (v := (1)) eX12_isState_11 (by decide) ?_
  refine r_isub eX12_isState_12 ?_
  refine r_i2l eX12_isState_13 ?_
  refine t_statI (As := [_, _, _]) (rest := []) (d' := d + 0 + 0) eX12_isState_14 k_12_102 rfl (by omega) (Nat.le_of_ble_eq_true rfl) (Nat.le_of_ble_eq_true rfl) (fun _ q => s_X12_within q) q (fun v14 h14 q => ?_)
  exact t_rtZ eX12_isState_17 rfl q
theorem s_X12_isName {E : Ev} {d : Nat} {x0 : Int32} {h : Hp} {Φ : Ou → Hp → Prop} (q : OK (F_X12_isName E x0 h) Φ) : CE E mX12_isName (d + 1) [.int x0] h 0 0 Φ := by
  show WE E mX12_isName (d + 1) 0 [some (.int x0)] [] h 0 0 Φ
  refine r_iload_n eX12_isName_0 rfl ?_
  refine r_i2l eX12_isName_1 ?_
  refine r_lconst (v := 0) eX12_isName_2 rfl ?_
  refine r_ldc2 eX12_isName_3 g_12_110 ?_
  refine t_statI (As := [_, _, _]) (rest := []) (d' := d + 0 + 0) eX12_isName_6 k_12_102 rfl (by omega) (Nat.le_of_ble_eq_true rfl) (Nat.le_of_ble_eq_true rfl) (fun _ q => s_X12_within q) q (fun v6 h6 q => ?_)
  exact t_rtZ eX12_isName_9 rfl q
theorem s_X12_more {E : Ev} {d : Nat} {a0 : Nat} {x1 : Int32} {h : Hp} {Φ : Ou → Hp → Prop} (q : OK (F_X12_more E a0 x1 h) Φ) : CE E mX12_more (d + 0) [.ref a0, .int x1] h 0 0 Φ := by
  show WE E mX12_more (d + 0) 0 [some (.ref a0), some (.int x1)] [] h 0 0 Φ
  refine r_aload_n eX12_more_0 rfl ?_
  refine r_iconst (v := (-1)) eX12_more_1 (by decide) ?_
  refine t_pf eX12_more_2 p_12_20 rfl rfl (fun q => by cases q) q (fun h2 q => ?_)
  refine r_aload_n eX12_more_5 rfl ?_
  refine t_gfR eX12_more_6 f_12_9 q (fun v6 q => ?_)
  refine r_iload_n eX12_more_9 rfl ?_
  refine r_dup2 eX12_more_10 rfl rfl ?_
  refine t_gaI eX12_more_11 q (fun v11 q => ?_)
  refine r_iconst (v := (1)) eX12_more_12 (by decide) ?_
  refine r_iadd eX12_more_13 ?_
  refine t_paI eX12_more_14 q (fun h14 q => ?_)
  refine r_aload_n eX12_more_15 rfl ?_
  refine t_gfR eX12_more_16 f_12_9 q (fun v16 q => ?_)
  refine r_iload_n eX12_more_19 rfl ?_
  refine t_gaI eX12_more_20 q (fun v20 q => ?_)
  refine r_iconst (v := (1)) eX12_more_21 (by decide) ?_
  refine r_isub eX12_more_22 ?_
  exact t_rtI eX12_more_23 rfl q
theorem sL_X12_place_37 {E : Ev} {d kc ks : Nat} {Φ : Ou → Hp → Prop} {y0 : Nat} {y1 : Int32} {y2 : Int32} {K91 : Hp → Rs} (hK91 : ∀ (w3 : Int32) (h : Hp), OK (K91 h) Φ → WE E mX12_place (d + 1) 91 [some (.ref y0), some (.int y1), some (.int y2), some (.int w3)] [] h kc ks Φ) : ∀ (g : Nat) (y3 : Int32) (h : Hp), OK (L_X12_place_37 E K91 y0 y1 y2 g y3 h) Φ → WE E mX12_place (d + 1) 37 [some (.ref y0), some (.int y1), some (.int y2), some (.int y3)] [] h kc ks Φ := by
  intro g
  induction g with
  | zero => intro y3 h q; exact q.elim
  | succ g ih =>
    intro y3 h q
    refine r_iload_n eX12_place_37 rfl ?_
    refine r_aload_n eX12_place_38 rfl ?_
    refine t_gfR eX12_place_39 f_12_9 q (fun v39 q => ?_)
    refine r_iconst (v := (0)) eX12_place_42 (by decide) ?_
    refine t_gaI eX12_place_43 q (fun v43 q => ?_)
    refine t_icmp_ge eX12_place_44 (t := 91) (by decide) q (fun q => ?_) (fun q => ?_)
    · exact hK91 _ _ q
    refine r_aload_n eX12_place_47 rfl ?_
    refine t_gfR eX12_place_48 f_12_9 q (fun v48 q => ?_)
    refine r_bipush (v := (10)) eX12_place_51 (by decide) ?_
    refine r_iconst (v := (2)) eX12_place_53 (by decide) ?_
    refine r_iload_n eX12_place_54 rfl ?_
    refine r_imul eX12_place_55 ?_
    refine r_iadd eX12_place_56 ?_
    refine t_gaI eX12_place_57 q (fun v57 q => ?_)
    refine r_iload_n eX12_place_58 rfl ?_
    refine t_icmp_ne eX12_place_59 (t := 85) (by decide) q (fun q => ?_) (fun q => ?_)
    · refine r_iinc (v := (1)) (lv' := [_, _, _, _]) eX12_place_85 rfl (by decide) rfl ?_
      refine r_goto (t := 37) eX12_place_88 (by decide) ?_
      exact ih _ _ q
    refine r_aload_n eX12_place_62 rfl ?_
    refine t_gfR eX12_place_63 f_12_9 q (fun v63 q => ?_)
    refine r_bipush (v := (10)) eX12_place_66 (by decide) ?_
    refine r_iconst (v := (2)) eX12_place_68 (by decide) ?_
    refine r_iload_n eX12_place_69 rfl ?_
    refine r_imul eX12_place_70 ?_
    refine r_iadd eX12_place_71 ?_
    refine r_iconst (v := (1)) eX12_place_72 (by decide) ?_
    refine r_iadd eX12_place_73 ?_
    refine t_gaI eX12_place_74 q (fun v74 q => ?_)
    refine r_iload_n eX12_place_75 rfl ?_
    refine t_icmp_ne eX12_place_76 (t := 85) (by decide) q (fun q => ?_) (fun q => ?_)
    · refine r_iinc (v := (1)) (lv' := [_, _, _, _]) eX12_place_85 rfl (by decide) rfl ?_
      refine r_goto (t := 37) eX12_place_88 (by decide) ?_
      exact ih _ _ q
    refine r_aload_n eX12_place_79 rfl ?_
    refine r_iconst (v := (1)) eX12_place_80 (by decide) ?_
    refine t_virtI (As := [_]) (rest := []) (d' := d + 0 + 0) (ci := 12) eX12_place_81 k_12_114 rfl rfl rfl (by omega) (Nat.le_of_ble_eq_true rfl) (Nat.le_of_ble_eq_true rfl) (fun _ q => s_X12_fails q) q (fun v81 h81 q => ?_)
    exact t_rtI eX12_place_84 rfl q
theorem s_X12_place {E : Ev} {d : Nat} {a0 : Nat} {x1 : Int32} {x2 : Int32} {h : Hp} {Φ : Ou → Hp → Prop} (q : OK (F_X12_place E a0 x1 x2 h) Φ) : CE E mX12_place (d + 1) [.ref a0, .int x1, .int x2] h 0 0 Φ := by
  show WE E mX12_place (d + 1) 0 [some (.ref a0), some (.int x1), some (.int x2), none] [] h 0 0 Φ
  refine r_aload_n eX12_place_0 rfl ?_
  refine r_iconst (v := (0)) eX12_place_1 (by decide) ?_
  refine t_pf eX12_place_2 p_12_97 rfl rfl (fun q => by cases q) q (fun h2 q => ?_)
  refine r_iload_n eX12_place_5 rfl ?_
  refine r_i2l eX12_place_6 ?_
  refine r_lconst (v := 0) eX12_place_7 rfl ?_
  refine r_ldc2 eX12_place_8 g_12_112 ?_
  refine t_statI (As := [_, _, _]) (rest := []) (d' := d + 0 + 0) eX12_place_11 k_12_102 rfl (by omega) (Nat.le_of_ble_eq_true rfl) (Nat.le_of_ble_eq_true rfl) (fun _ q => s_X12_within q) q (fun v11 h11 q => ?_)
  refine t_if_eq eX12_place_14 (t := 29) (by decide) q (fun q => ?_) (fun q => ?_)
  · refine r_aload_n eX12_place_29 rfl ?_
    refine r_iconst (v := (1)) eX12_place_30 (by decide) ?_
    refine t_virtI (As := [_]) (rest := []) (d' := d + 0 + 0) (ci := 12) eX12_place_31 k_12_114 rfl rfl rfl (by omega) (Nat.le_of_ble_eq_true rfl) (Nat.le_of_ble_eq_true rfl) (fun _ q => s_X12_fails q) q (fun v31 h31 q => ?_)
    exact t_rtI eX12_place_34 rfl q
  refine r_iload_n eX12_place_17 rfl ?_
  refine r_i2l eX12_place_18 ?_
  refine r_lconst (v := 0) eX12_place_19 rfl ?_
  refine r_ldc2 eX12_place_20 g_12_112 ?_
  refine t_statI (As := [_, _, _]) (rest := []) (d' := d + 0 + 0) eX12_place_23 k_12_102 rfl (by omega) (Nat.le_of_ble_eq_true rfl) (Nat.le_of_ble_eq_true rfl) (fun _ q => s_X12_within q) q (fun v23 h23 q => ?_)
  refine t_if_ne eX12_place_26 (t := 35) (by decide) q (fun q => ?_) (fun q => ?_)
  · refine r_iconst (v := (0)) eX12_place_35 (by decide) ?_
    refine r_istore_n (lv' := [_, _, _, _]) eX12_place_36 (Nat.le_of_ble_eq_true rfl) rfl ?_
    refine sL_X12_place_37 (fun w1 h2 q => ?_) _ _ _ q
    refine r_aload_n eX12_place_91 rfl ?_
    refine t_gfR eX12_place_92 f_12_9 q (fun v92 q => ?_)
    refine r_iconst (v := (0)) eX12_place_95 (by decide) ?_
    refine t_gaI eX12_place_96 q (fun v96 q => ?_)
    refine r_bipush (v := (40)) eX12_place_97 (by decide) ?_
    refine t_icmp_ne eX12_place_99 (t := 104) (by decide) q (fun q => ?_) (fun q => ?_)
    · refine r_aload_n eX12_place_104 rfl ?_
      refine r_iconst (v := (0)) eX12_place_105 (by decide) ?_
      refine t_virtI (As := [_]) (rest := []) (d' := d + 0 + 0) (ci := 12) eX12_place_106 k_12_118 rfl rfl rfl (by omega) (Nat.le_of_ble_eq_true rfl) (Nat.le_of_ble_eq_true rfl) (fun _ q => s_X12_more q) q (fun v106 h106 q => ?_)
      refine r_istore_n (lv' := [_, _, _, _]) eX12_place_109 (Nat.le_of_ble_eq_true rfl) rfl ?_
      refine r_aload_n eX12_place_110 rfl ?_
      refine t_gfR eX12_place_111 f_12_9 q (fun v111 q => ?_)
      refine r_bipush (v := (10)) eX12_place_114 (by decide) ?_
      refine r_iconst (v := (2)) eX12_place_116 (by decide) ?_
      refine r_iload_n eX12_place_117 rfl ?_
      refine r_imul eX12_place_118 ?_
      refine r_iadd eX12_place_119 ?_
      refine r_iload_n eX12_place_120 rfl ?_
      refine t_paI eX12_place_121 q (fun h121 q => ?_)
      refine r_aload_n eX12_place_122 rfl ?_
      refine t_gfR eX12_place_123 f_12_9 q (fun v123 q => ?_)
      refine r_bipush (v := (10)) eX12_place_126 (by decide) ?_
      refine r_iconst (v := (2)) eX12_place_128 (by decide) ?_
      refine r_iload_n eX12_place_129 rfl ?_
      refine r_imul eX12_place_130 ?_
      refine r_iadd eX12_place_131 ?_
      refine r_iconst (v := (1)) eX12_place_132 (by decide) ?_
      refine r_iadd eX12_place_133 ?_
      refine r_iload_n eX12_place_134 rfl ?_
      refine t_paI eX12_place_135 q (fun h135 q => ?_)
      refine r_iload_n eX12_place_136 rfl ?_
      exact t_rtI eX12_place_137 rfl q
    refine r_iconst (v := (-1)) eX12_place_102 (by decide) ?_
    exact t_rtI eX12_place_103 rfl q
  refine r_aload_n eX12_place_29 rfl ?_
  refine r_iconst (v := (1)) eX12_place_30 (by decide) ?_
  refine t_virtI (As := [_]) (rest := []) (d' := d + 0 + 0) (ci := 12) eX12_place_31 k_12_114 rfl rfl rfl (by omega) (Nat.le_of_ble_eq_true rfl) (Nat.le_of_ble_eq_true rfl) (fun _ q => s_X12_fails q) q (fun v31 h31 q => ?_)
  exact t_rtI eX12_place_34 rfl q
theorem s_X12_wayOf {E : Ev} {d : Nat} {a0 : Nat} {x1 : Int32} {x2 : Int32} {h : Hp} {Φ : Ou → Hp → Prop} (q : OK (F_X12_wayOf E a0 x1 x2 h) Φ) : CE E mX12_wayOf (d + 0) [.ref a0, .int x1, .int x2] h 0 0 Φ := by
  show WE E mX12_wayOf (d + 0) 0 [some (.ref a0), some (.int x1), some (.int x2)] [] h 0 0 Φ
  refine r_aload_n eX12_wayOf_0 rfl ?_
  refine t_gfR eX12_wayOf_1 f_12_9 q (fun v1 q => ?_)
  refine r_bipush (v := (90)) eX12_wayOf_4 (by decide) ?_
  refine r_bipush (v := (6)) eX12_wayOf_6 (by decide) ?_
  refine r_iload_n eX12_wayOf_8 rfl ?_
  refine r_imul eX12_wayOf_9 ?_
  refine r_iadd eX12_wayOf_10 ?_
  refine r_iload_n eX12_wayOf_11 rfl ?_
  refine r_iadd eX12_wayOf_12 ?_
  refine t_gaI eX12_wayOf_13 q (fun v13 q => ?_)
  exact t_rtI eX12_wayOf_14 rfl q
theorem sJ_X12_way_149 {E : Ev} {d kc ks : Nat} {Φ : Ou → Hp → Prop} {y0 : Nat} {y1 : Int32} {y2 : Int32} {y3 : Int32} {y4 : Int32} {y5 : Int32} {y6 : Int32} {y7 : Int32} {y8 : Option Value} {t0 : Int32} {h : Hp} {K89 : Int32 → Hp → Rs} (hK89 : ∀ (w7 : Int32) (w8 : Option Value) (h : Hp), OK (K89 w7 h) Φ → WE E mX12_way (d + 3) 89 [some (.ref y0), some (.int y1), some (.int y2), some (.int y3), some (.int y4), some (.int y5), some (.int y6), some (.int w7), w8] [] h kc ks Φ) (q : OK (J_X12_way_149 E K89 y0 y1 y2 y5 y6 y7 t0 h) Φ) : WE E mX12_way (d + 3) 149 [some (.ref y0), some (.int y1), some (.int y2), some (.int y3), some (.int y4), some (.int y5), some (.int y6), some (.int y7), y8] [.int t0] h kc ks Φ := by
  refine r_istore (lv' := [_, _, _, _, _, _, _, _, _]) eX12_way_149 (Nat.le_of_ble_eq_true rfl) rfl ?_
  refine r_iload eX12_way_151 rfl ?_
  refine t_if_eq eX12_way_153 (t := 186) (by decide) q (fun q => ?_) (fun q => ?_)
  · refine r_iinc (v := (1)) (lv' := [_, _, _, _, _, _, _, _, _]) eX12_way_186 rfl (by decide) rfl ?_
    refine r_goto (t := 89) eX12_way_189 (by decide) ?_
    exact hK89 _ _ _ q
  refine r_iload eX12_way_156 rfl ?_
  refine r_aload_n eX12_way_158 rfl ?_
  refine r_iload eX12_way_159 rfl ?_
  refine r_iconst (v := (5)) eX12_way_161 (by decide) ?_
  refine t_virtI (As := [_, _]) (rest := [_]) (d' := d + 2 + 0) (ci := 12) eX12_way_162 k_12_130 rfl rfl rfl (by omega) (Nat.le_of_ble_eq_true rfl) (Nat.le_of_ble_eq_true rfl) (fun _ q => s_X12_wayOf q) q (fun v162 h162 q => ?_)
  refine t_icmp_gt eX12_way_165 (t := 186) (by decide) q (fun q => ?_) (fun q => ?_)
  · refine r_iinc (v := (1)) (lv' := [_, _, _, _, _, _, _, _, _]) eX12_way_186 rfl (by decide) rfl ?_
    refine r_goto (t := 89) eX12_way_189 (by decide) ?_
    exact hK89 _ _ _ q
  refine r_iload eX12_way_168 rfl ?_
  refine r_aload_n eX12_way_170 rfl ?_
  refine r_iload eX12_way_171 rfl ?_
  refine r_iconst (v := (4)) eX12_way_173 (by decide) ?_
  refine t_virtI (As := [_, _]) (rest := [_]) (d' := d + 2 + 0) (ci := 12) eX12_way_174 k_12_130 rfl rfl rfl (by omega) (Nat.le_of_ble_eq_true rfl) (Nat.le_of_ble_eq_true rfl) (fun _ q => s_X12_wayOf q) q (fun v174 h174 q => ?_)
  refine t_icmp_lt eX12_way_177 (t := 186) (by decide) q (fun q => ?_) (fun q => ?_)
  · refine r_iinc (v := (1)) (lv' := [_, _, _, _, _, _, _, _, _]) eX12_way_186 rfl (by decide) rfl ?_
    refine r_goto (t := 89) eX12_way_189 (by decide) ?_
    exact hK89 _ _ _ q
  refine r_aload_n eX12_way_180 rfl ?_
  refine r_iconst (v := (2)) eX12_way_181 (by decide) ?_
  refine t_virtI (As := [_]) (rest := []) (d' := d + 2 + 0) (ci := 12) eX12_way_182 k_12_114 rfl rfl rfl (by omega) (Nat.le_of_ble_eq_true rfl) (Nat.le_of_ble_eq_true rfl) (fun _ q => s_X12_fails q) q (fun v182 h182 q => ?_)
  exact t_rtI eX12_way_185 rfl q
theorem sJ_X12_way_122 {E : Ev} {d kc ks : Nat} {Φ : Ou → Hp → Prop} {y0 : Nat} {y1 : Int32} {y2 : Int32} {y3 : Int32} {y4 : Int32} {y5 : Int32} {y6 : Int32} {y7 : Int32} {y8 : Option Value} {h : Hp} {K89 : Int32 → Hp → Rs} (hK89 : ∀ (w7 : Int32) (w8 : Option Value) (h : Hp), OK (K89 w7 h) Φ → WE E mX12_way (d + 3) 89 [some (.ref y0), some (.int y1), some (.int y2), some (.int y3), some (.int y4), some (.int y5), some (.int y6), some (.int w7), w8] [] h kc ks Φ) (q : OK (J_X12_way_122 E K89 y0 y1 y2 y5 y6 y7 h) Φ) : WE E mX12_way (d + 3) 122 [some (.ref y0), some (.int y1), some (.int y2), some (.int y3), some (.int y4), some (.int y5), some (.int y6), some (.int y7), y8] [] h kc ks Φ := by
  refine r_aload_n eX12_way_122 rfl ?_
  refine r_iload eX12_way_123 rfl ?_
  refine r_iconst (v := (0)) eX12_way_125 (by decide) ?_
  refine t_virtI (As := [_, _]) (rest := []) (d' := d + 2 + 0) (ci := 12) eX12_way_126 k_12_130 rfl rfl rfl (by omega) (Nat.le_of_ble_eq_true rfl) (Nat.le_of_ble_eq_true rfl) (fun _ q => s_X12_wayOf q) q (fun v126 h126 q => ?_)
  refine r_iload_n eX12_way_129 rfl ?_
  refine t_icmp_ne eX12_way_130 (t := 148) (by decide) q (fun q => ?_) (fun q => ?_)
  · refine r_iconst (v := (0)) eX12_way_148 (by decide) ?_
    refine sJ_X12_way_149 (fun w1 w2 h3 q => ?_) q
    exact hK89 _ _ _ q
  refine r_aload_n eX12_way_133 rfl ?_
  refine r_iload eX12_way_134 rfl ?_
  refine r_iconst (v := (1)) eX12_way_136 (by decide) ?_
  refine t_virtI (As := [_, _]) (rest := []) (d' := d + 2 + 0) (ci := 12) eX12_way_137 k_12_130 rfl rfl rfl (by omega) (Nat.le_of_ble_eq_true rfl) (Nat.le_of_ble_eq_true rfl) (fun _ q => s_X12_wayOf q) q (fun v137 h137 q => ?_)
  refine r_iload_n eX12_way_140 rfl ?_
  refine t_icmp_ne eX12_way_141 (t := 148) (by decide) q (fun q => ?_) (fun q => ?_)
  · refine r_iconst (v := (0)) eX12_way_148 (by decide) ?_
    refine sJ_X12_way_149 (fun w4 w5 h6 q => ?_) q
    exact hK89 _ _ _ q
  refine r_iconst (v := (1)) eX12_way_144 (by decide) ?_
  refine r_goto (t := 149) eX12_way_145 (by decide) ?_
  refine sJ_X12_way_149 (fun w7 w8 h9 q => ?_) q
  exact hK89 _ _ _ q
theorem sL_X12_way_89 {E : Ev} {d kc ks : Nat} {Φ : Ou → Hp → Prop} {y0 : Nat} {y1 : Int32} {y2 : Int32} {y3 : Int32} {y4 : Int32} {y5 : Int32} {y6 : Int32} {K192 : Hp → Rs} (hK192 : ∀ (w7 : Int32) (w8 : Option Value) (h : Hp), OK (K192 h) Φ → WE E mX12_way (d + 3) 192 [some (.ref y0), some (.int y1), some (.int y2), some (.int y3), some (.int y4), some (.int y5), some (.int y6), some (.int w7), w8] [] h kc ks Φ) : ∀ (g : Nat) (y7 : Int32) (y8 : Option Value) (h : Hp), OK (L_X12_way_89 E K192 y0 y1 y2 y5 y6 g y7 h) Φ → WE E mX12_way (d + 3) 89 [some (.ref y0), some (.int y1), some (.int y2), some (.int y3), some (.int y4), some (.int y5), some (.int y6), some (.int y7), y8] [] h kc ks Φ := by
  intro g
  induction g with
  | zero => intro y7 y8 h q; exact q.elim
  | succ g ih =>
    intro y7 y8 h q
    refine r_iload eX12_way_89 rfl ?_
    refine r_aload_n eX12_way_91 rfl ?_
    refine t_gfR eX12_way_92 f_12_9 q (fun v92 q => ?_)
    refine r_iconst (v := (1)) eX12_way_95 (by decide) ?_
    refine t_gaI eX12_way_96 q (fun v96 q => ?_)
    refine t_icmp_ge eX12_way_97 (t := 192) (by decide) q (fun q => ?_) (fun q => ?_)
    · exact hK192 _ _ _ q
    refine r_aload_n eX12_way_100 rfl ?_
    refine r_iload eX12_way_101 rfl ?_
    refine r_iconst (v := (0)) eX12_way_103 (by decide) ?_
    refine t_virtI (As := [_, _]) (rest := []) (d' := d + 2 + 0) (ci := 12) eX12_way_104 k_12_130 rfl rfl rfl (by omega) (Nat.le_of_ble_eq_true rfl) (Nat.le_of_ble_eq_true rfl) (fun _ q => s_X12_wayOf q) q (fun v104 h104 q => ?_)
    refine r_iload_n eX12_way_107 rfl ?_
    refine t_icmp_ne eX12_way_108 (t := 122) (by decide) q (fun q => ?_) (fun q => ?_)
    · refine sJ_X12_way_122 (fun w1 w2 h3 q => ?_) q
      exact ih _ _ _ q
    refine r_aload_n eX12_way_111 rfl ?_
    refine r_iload eX12_way_112 rfl ?_
    refine r_iconst (v := (1)) eX12_way_114 (by decide) ?_
    refine t_virtI (As := [_, _]) (rest := []) (d' := d + 2 + 0) (ci := 12) eX12_way_115 k_12_130 rfl rfl rfl (by omega) (Nat.le_of_ble_eq_true rfl) (Nat.le_of_ble_eq_true rfl) (fun _ q => s_X12_wayOf q) q (fun v115 h115 q => ?_)
    refine r_iload_n eX12_way_118 rfl ?_
    refine t_icmp_eq eX12_way_119 (t := 144) (by decide) q (fun q => ?_) (fun q => ?_)
    · refine r_iconst (v := (1)) eX12_way_144 (by decide) ?_
      refine r_goto (t := 149) eX12_way_145 (by decide) ?_
      refine sJ_X12_way_149 (fun w4 w5 h6 q => ?_) q
      exact ih _ _ _ q
    refine sJ_X12_way_122 (fun w7 w8 h9 q => ?_) q
    exact ih _ _ _ q
theorem s_X12_way {E : Ev} {d : Nat} {a0 : Nat} {x1 : Int32} {x2 : Int32} {x3 : Int32} {x4 : Int32} {x5 : Int32} {x6 : Int32} {h : Hp} {Φ : Ou → Hp → Prop} (q : OK (F_X12_way E a0 x1 x2 x3 x4 x5 x6 h) Φ) : CE E mX12_way (d + 3) [.ref a0, .int x1, .int x2, .int x3, .int x4, .int x5, .int x6] h 0 0 Φ := by
  show WE E mX12_way (d + 3) 0 [some (.ref a0), some (.int x1), some (.int x2), some (.int x3), some (.int x4), some (.int x5), some (.int x6), none, none] [] h 0 0 Φ
  refine r_aload_n eX12_way_0 rfl ?_
  refine r_iconst (v := (0)) eX12_way_1 (by decide) ?_
  refine t_pf eX12_way_2 p_12_97 rfl rfl (fun q => by cases q) q (fun h2 q => ?_)
  refine r_aload_n eX12_way_5 rfl ?_
  refine r_iload_n eX12_way_6 rfl ?_
  refine t_virtI (As := [_]) (rest := []) (d' := d + 0 + 2) (ci := 12) eX12_way_7 k_12_121 rfl rfl rfl (by omega) (Nat.le_of_ble_eq_true rfl) (Nat.le_of_ble_eq_true rfl) (fun _ q => s_X12_isPlace q) q (fun v7 h7 q => ?_)
  refine t_if_eq eX12_way_10 (t := 21) (by decide) q (fun q => ?_) (fun q => ?_)
  · refine r_aload_n eX12_way_21 rfl ?_
    refine r_iconst (v := (1)) eX12_way_22 (by decide) ?_
    refine t_virtI (As := [_]) (rest := []) (d' := d + 2 + 0) (ci := 12) eX12_way_23 k_12_114 rfl rfl rfl (by omega) (Nat.le_of_ble_eq_true rfl) (Nat.le_of_ble_eq_true rfl) (fun _ q => s_X12_fails q) q (fun v23 h23 q => ?_)
    exact t_rtI eX12_way_26 rfl q
  refine r_aload_n eX12_way_13 rfl ?_
  refine r_iload_n eX12_way_14 rfl ?_
  refine t_virtI (As := [_]) (rest := []) (d' := d + 0 + 2) (ci := 12) eX12_way_15 k_12_121 rfl rfl rfl (by omega) (Nat.le_of_ble_eq_true rfl) (Nat.le_of_ble_eq_true rfl) (fun _ q => s_X12_isPlace q) q (fun v15 h15 q => ?_)
  refine t_if_ne eX12_way_18 (t := 27) (by decide) q (fun q => ?_) (fun q => ?_)
  · refine r_iload_n eX12_way_27 rfl ?_
    refine r_iload_n eX12_way_28 rfl ?_
    refine t_icmp_eq eX12_way_29 (t := 80) (by decide) q (fun q => ?_) (fun q => ?_)
    · refine r_aload_n eX12_way_80 rfl ?_
      refine r_iconst (v := (2)) eX12_way_81 (by decide) ?_
      refine t_virtI (As := [_]) (rest := []) (d' := d + 2 + 0) (ci := 12) eX12_way_82 k_12_114 rfl rfl rfl (by omega) (Nat.le_of_ble_eq_true rfl) (Nat.le_of_ble_eq_true rfl) (fun _ q => s_X12_fails q) q (fun v82 h82 q => ?_)
      exact t_rtI eX12_way_85 rfl q
    refine r_iload_n eX12_way_32 rfl ?_
    refine r_i2l eX12_way_33 ?_
    refine r_lconst (v := 0) eX12_way_34 rfl ?_
    refine r_ldc2 eX12_way_35 g_12_125 ?_
    refine t_statI (As := [_, _, _]) (rest := []) (d' := d + 2 + 0) eX12_way_38 k_12_102 rfl (by omega) (Nat.le_of_ble_eq_true rfl) (Nat.le_of_ble_eq_true rfl) (fun _ q => s_X12_within q) q (fun v38 h38 q => ?_)
    refine t_if_eq eX12_way_41 (t := 80) (by decide) q (fun q => ?_) (fun q => ?_)
    · refine r_aload_n eX12_way_80 rfl ?_
      refine r_iconst (v := (2)) eX12_way_81 (by decide) ?_
      refine t_virtI (As := [_]) (rest := []) (d' := d + 2 + 0) (ci := 12) eX12_way_82 k_12_114 rfl rfl rfl (by omega) (Nat.le_of_ble_eq_true rfl) (Nat.le_of_ble_eq_true rfl) (fun _ q => s_X12_fails q) q (fun v82 h82 q => ?_)
      exact t_rtI eX12_way_85 rfl q
    refine r_iload eX12_way_44 rfl ?_
    refine r_i2l eX12_way_46 ?_
    refine r_lconst (v := 1) eX12_way_47 rfl ?_
    refine r_ldc2 eX12_way_48 g_12_112 ?_
    refine t_statI (As := [_, _, _]) (rest := []) (d' := d + 2 + 0) eX12_way_51 k_12_102 rfl (by omega) (Nat.le_of_ble_eq_true rfl) (Nat.le_of_ble_eq_true rfl) (fun _ q => s_X12_within q) q (fun v51 h51 q => ?_)
    refine t_if_eq eX12_way_54 (t := 80) (by decide) q (fun q => ?_) (fun q => ?_)
    · refine r_aload_n eX12_way_80 rfl ?_
      refine r_iconst (v := (2)) eX12_way_81 (by decide) ?_
      refine t_virtI (As := [_]) (rest := []) (d' := d + 2 + 0) (ci := 12) eX12_way_82 k_12_114 rfl rfl rfl (by omega) (Nat.le_of_ble_eq_true rfl) (Nat.le_of_ble_eq_true rfl) (fun _ q => s_X12_fails q) q (fun v82 h82 q => ?_)
      exact t_rtI eX12_way_85 rfl q
    refine r_iload eX12_way_57 rfl ?_
    refine t_statI (As := [_]) (rest := []) (d' := d + 1 + 1) eX12_way_59 k_12_127 rfl (by omega) (Nat.le_of_ble_eq_true rfl) (Nat.le_of_ble_eq_true rfl) (fun _ q => s_X12_isYear q) q (fun v59 h59 q => ?_)
    refine t_if_eq eX12_way_62 (t := 80) (by decide) q (fun q => ?_) (fun q => ?_)
    · refine r_aload_n eX12_way_80 rfl ?_
      refine r_iconst (v := (2)) eX12_way_81 (by decide) ?_
      refine t_virtI (As := [_]) (rest := []) (d' := d + 2 + 0) (ci := 12) eX12_way_82 k_12_114 rfl rfl rfl (by omega) (Nat.le_of_ble_eq_true rfl) (Nat.le_of_ble_eq_true rfl) (fun _ q => s_X12_fails q) q (fun v82 h82 q => ?_)
      exact t_rtI eX12_way_85 rfl q
    refine r_iload eX12_way_65 rfl ?_
    refine r_i2l eX12_way_67 ?_
    refine r_iload eX12_way_68 rfl ?_
    refine r_i2l eX12_way_70 ?_
    refine r_ldc2 eX12_way_71 g_12_100 ?_
    refine t_statI (As := [_, _, _]) (rest := []) (d' := d + 2 + 0) eX12_way_74 k_12_102 rfl (by omega) (Nat.le_of_ble_eq_true rfl) (Nat.le_of_ble_eq_true rfl) (fun _ q => s_X12_within q) q (fun v74 h74 q => ?_)
    refine t_if_ne eX12_way_77 (t := 86) (by decide) q (fun q => ?_) (fun q => ?_)
    · refine r_iconst (v := (0)) eX12_way_86 (by decide) ?_
      refine r_istore (lv' := [_, _, _, _, _, _, _, _, _]) eX12_way_87 (Nat.le_of_ble_eq_true rfl) rfl ?_
      refine sL_X12_way_89 (fun w1 w2 h3 q => ?_) _ _ _ _ q
      refine r_aload_n eX12_way_192 rfl ?_
      refine t_gfR eX12_way_193 f_12_9 q (fun v193 q => ?_)
      refine r_iconst (v := (1)) eX12_way_196 (by decide) ?_
      refine t_gaI eX12_way_197 q (fun v197 q => ?_)
      refine r_bipush (v := (60)) eX12_way_198 (by decide) ?_
      refine t_icmp_ne eX12_way_200 (t := 205) (by decide) q (fun q => ?_) (fun q => ?_)
      · refine r_aload_n eX12_way_205 rfl ?_
        refine r_iconst (v := (1)) eX12_way_206 (by decide) ?_
        refine t_virtI (As := [_]) (rest := []) (d' := d + 2 + 0) (ci := 12) eX12_way_207 k_12_118 rfl rfl rfl (by omega) (Nat.le_of_ble_eq_true rfl) (Nat.le_of_ble_eq_true rfl) (fun _ q => s_X12_more q) q (fun v207 h207 q => ?_)
        refine r_istore (lv' := [_, _, _, _, _, _, _, _, _]) eX12_way_210 (Nat.le_of_ble_eq_true rfl) rfl ?_
        refine r_aload_n eX12_way_212 rfl ?_
        refine t_gfR eX12_way_213 f_12_9 q (fun v213 q => ?_)
        refine r_bipush (v := (90)) eX12_way_216 (by decide) ?_
        refine r_bipush (v := (6)) eX12_way_218 (by decide) ?_
        refine r_iload eX12_way_220 rfl ?_
        refine r_imul eX12_way_222 ?_
        refine r_iadd eX12_way_223 ?_
        refine r_iload_n eX12_way_224 rfl ?_
        refine t_paI eX12_way_225 q (fun h225 q => ?_)
        refine r_aload_n eX12_way_226 rfl ?_
        refine t_gfR eX12_way_227 f_12_9 q (fun v227 q => ?_)
        refine r_bipush (v := (90)) eX12_way_230 (by decide) ?_
        refine r_bipush (v := (6)) eX12_way_232 (by decide) ?_
        refine r_iload eX12_way_234 rfl ?_
        refine r_imul eX12_way_236 ?_
        refine r_iadd eX12_way_237 ?_
        refine r_iconst (v := (1)) eX12_way_238 (by decide) ?_
        refine r_iadd eX12_way_239 ?_
        refine r_iload_n eX12_way_240 rfl ?_
        refine t_paI eX12_way_241 q (fun h241 q => ?_)
        refine r_aload_n eX12_way_242 rfl ?_
        refine t_gfR eX12_way_243 f_12_9 q (fun v243 q => ?_)
        refine r_bipush (v := (90)) eX12_way_246 (by decide) ?_
        refine r_bipush (v := (6)) eX12_way_248 (by decide) ?_
        refine r_iload eX12_way_250 rfl ?_
        refine r_imul eX12_way_252 ?_
        refine r_iadd eX12_way_253 ?_
        refine r_iconst (v := (2)) eX12_way_254 (by decide) ?_
        refine r_iadd eX12_way_255 ?_
        refine r_iload_n eX12_way_256 rfl ?_
        refine t_paI eX12_way_257 q (fun h257 q => ?_)
        refine r_aload_n eX12_way_258 rfl ?_
        refine t_gfR eX12_way_259 f_12_9 q (fun v259 q => ?_)
        refine r_bipush (v := (90)) eX12_way_262 (by decide) ?_
        refine r_bipush (v := (6)) eX12_way_264 (by decide) ?_
        refine r_iload eX12_way_266 rfl ?_
        refine r_imul eX12_way_268 ?_
        refine r_iadd eX12_way_269 ?_
        refine r_iconst (v := (3)) eX12_way_270 (by decide) ?_
        refine r_iadd eX12_way_271 ?_
        refine r_iload eX12_way_272 rfl ?_
        refine t_paI eX12_way_274 q (fun h274 q => ?_)
        refine r_aload_n eX12_way_275 rfl ?_
        refine t_gfR eX12_way_276 f_12_9 q (fun v276 q => ?_)
        refine r_bipush (v := (90)) eX12_way_279 (by decide) ?_
        refine r_bipush (v := (6)) eX12_way_281 (by decide) ?_
        refine r_iload eX12_way_283 rfl ?_
        refine r_imul eX12_way_285 ?_
        refine r_iadd eX12_way_286 ?_
        refine r_iconst (v := (4)) eX12_way_287 (by decide) ?_
        refine r_iadd eX12_way_288 ?_
        refine r_iload eX12_way_289 rfl ?_
        refine t_paI eX12_way_291 q (fun h291 q => ?_)
        refine r_aload_n eX12_way_292 rfl ?_
        refine t_gfR eX12_way_293 f_12_9 q (fun v293 q => ?_)
        refine r_bipush (v := (90)) eX12_way_296 (by decide) ?_
        refine r_bipush (v := (6)) eX12_way_298 (by decide) ?_
        refine r_iload eX12_way_300 rfl ?_
        refine r_imul eX12_way_302 ?_
        refine r_iadd eX12_way_303 ?_
        refine r_iconst (v := (5)) eX12_way_304 (by decide) ?_
        refine r_iadd eX12_way_305 ?_
        refine r_iload eX12_way_306 rfl ?_
        refine t_paI eX12_way_308 q (fun h308 q => ?_)
        refine r_iload eX12_way_309 rfl ?_
        exact t_rtI eX12_way_311 rfl q
      refine r_iconst (v := (-1)) eX12_way_203 (by decide) ?_
      exact t_rtI eX12_way_204 rfl q
    refine r_aload_n eX12_way_80 rfl ?_
    refine r_iconst (v := (2)) eX12_way_81 (by decide) ?_
    refine t_virtI (As := [_]) (rest := []) (d' := d + 2 + 0) (ci := 12) eX12_way_82 k_12_114 rfl rfl rfl (by omega) (Nat.le_of_ble_eq_true rfl) (Nat.le_of_ble_eq_true rfl) (fun _ q => s_X12_fails q) q (fun v82 h82 q => ?_)
    exact t_rtI eX12_way_85 rfl q
  refine r_aload_n eX12_way_21 rfl ?_
  refine r_iconst (v := (1)) eX12_way_22 (by decide) ?_
  refine t_virtI (As := [_]) (rest := []) (d' := d + 2 + 0) (ci := 12) eX12_way_23 k_12_114 rfl rfl rfl (by omega) (Nat.le_of_ble_eq_true rfl) (Nat.le_of_ble_eq_true rfl) (fun _ q => s_X12_fails q) q (fun v23 h23 q => ?_)
  exact t_rtI eX12_way_26 rfl q
theorem sJ_X12_mark_128 {E : Ev} {d kc ks : Nat} {Φ : Ou → Hp → Prop} {y0 : Nat} {y1 : Int32} {y2 : Int32} {y3 : Int32} {y4 : Int32} {y5 : Int32} {y6 : Int32} {t0 : Nat} {t1 : Int32} {t2 : Int32} {h : Hp}  (q : OK (J_X12_mark_128 E y0 y4 y5 y6 t0 t1 t2 h) Φ) : WE E mX12_mark (d + 3) 128 [some (.ref y0), some (.int y1), some (.int y2), some (.int y3), some (.int y4), some (.int y5), some (.int y6)] [.int t2, .int t1, .ref t0] h kc ks Φ := by
  refine t_paI eX12_mark_128 q (fun h128 q => ?_)
  refine r_aload_n eX12_mark_129 rfl ?_
  refine t_gfR eX12_mark_130 f_12_9 q (fun v130 q => ?_)
  refine r_sipush (v := (450)) eX12_mark_133 (by decide) ?_
  refine r_iconst (v := (5)) eX12_mark_136 (by decide) ?_
  refine r_iload eX12_mark_137 rfl ?_
  refine r_imul eX12_mark_139 ?_
  refine r_iadd eX12_mark_140 ?_
  refine r_iconst (v := (3)) eX12_mark_141 (by decide) ?_
  refine r_iadd eX12_mark_142 ?_
  refine r_iload eX12_mark_143 rfl ?_
  refine t_paI eX12_mark_145 q (fun h145 q => ?_)
  refine r_aload_n eX12_mark_146 rfl ?_
  refine t_gfR eX12_mark_147 f_12_9 q (fun v147 q => ?_)
  refine r_sipush (v := (450)) eX12_mark_150 (by decide) ?_
  refine r_iconst (v := (5)) eX12_mark_153 (by decide) ?_
  refine r_iload eX12_mark_154 rfl ?_
  refine r_imul eX12_mark_156 ?_
  refine r_iadd eX12_mark_157 ?_
  refine r_iconst (v := (4)) eX12_mark_158 (by decide) ?_
  refine r_iadd eX12_mark_159 ?_
  refine r_iload eX12_mark_160 rfl ?_
  refine t_paI eX12_mark_162 q (fun h162 q => ?_)
  refine r_iload eX12_mark_163 rfl ?_
  exact t_rtI eX12_mark_165 rfl q
theorem s_X12_mark {E : Ev} {d : Nat} {a0 : Nat} {x1 : Int32} {x2 : Int32} {x3 : Int32} {x4 : Int32} {x5 : Int32} {h : Hp} {Φ : Ou → Hp → Prop} (q : OK (F_X12_mark E a0 x1 x2 x3 x4 x5 h) Φ) : CE E mX12_mark (d + 3) [.ref a0, .int x1, .int x2, .int x3, .int x4, .int x5] h 0 0 Φ := by
  show WE E mX12_mark (d + 3) 0 [some (.ref a0), some (.int x1), some (.int x2), some (.int x3), some (.int x4), some (.int x5), none] [] h 0 0 Φ
  refine r_aload_n eX12_mark_0 rfl ?_
  refine r_iconst (v := (0)) eX12_mark_1 (by decide) ?_
  refine t_pf eX12_mark_2 p_12_97 rfl rfl (fun q => by cases q) q (fun h2 q => ?_)
  refine r_aload_n eX12_mark_5 rfl ?_
  refine r_iload_n eX12_mark_6 rfl ?_
  refine t_virtI (As := [_]) (rest := []) (d' := d + 0 + 2) (ci := 12) eX12_mark_7 k_12_121 rfl rfl rfl (by omega) (Nat.le_of_ble_eq_true rfl) (Nat.le_of_ble_eq_true rfl) (fun _ q => s_X12_isPlace q) q (fun v7 h7 q => ?_)
  refine t_if_ne eX12_mark_10 (t := 19) (by decide) q (fun q => ?_) (fun q => ?_)
  · refine r_iload_n eX12_mark_19 rfl ?_
    refine t_statI (As := [_]) (rest := []) (d' := d + 1 + 1) eX12_mark_20 k_12_134 rfl (by omega) (Nat.le_of_ble_eq_true rfl) (Nat.le_of_ble_eq_true rfl) (fun _ q => s_X12_isName q) q (fun v20 h20 q => ?_)
    refine t_if_eq eX12_mark_23 (t := 49) (by decide) q (fun q => ?_) (fun q => ?_)
    · refine r_aload_n eX12_mark_49 rfl ?_
      refine r_iconst (v := (2)) eX12_mark_50 (by decide) ?_
      refine t_virtI (As := [_]) (rest := []) (d' := d + 2 + 0) (ci := 12) eX12_mark_51 k_12_114 rfl rfl rfl (by omega) (Nat.le_of_ble_eq_true rfl) (Nat.le_of_ble_eq_true rfl) (fun _ q => s_X12_fails q) q (fun v51 h51 q => ?_)
      exact t_rtI eX12_mark_54 rfl q
    refine r_iload eX12_mark_26 rfl ?_
    refine t_statI (As := [_]) (rest := []) (d' := d + 1 + 1) eX12_mark_28 k_12_127 rfl (by omega) (Nat.le_of_ble_eq_true rfl) (Nat.le_of_ble_eq_true rfl) (fun _ q => s_X12_isYear q) q (fun v28 h28 q => ?_)
    refine t_if_eq eX12_mark_31 (t := 49) (by decide) q (fun q => ?_) (fun q => ?_)
    · refine r_aload_n eX12_mark_49 rfl ?_
      refine r_iconst (v := (2)) eX12_mark_50 (by decide) ?_
      refine t_virtI (As := [_]) (rest := []) (d' := d + 2 + 0) (ci := 12) eX12_mark_51 k_12_114 rfl rfl rfl (by omega) (Nat.le_of_ble_eq_true rfl) (Nat.le_of_ble_eq_true rfl) (fun _ q => s_X12_fails q) q (fun v51 h51 q => ?_)
      exact t_rtI eX12_mark_54 rfl q
    refine r_iload eX12_mark_34 rfl ?_
    refine r_i2l eX12_mark_36 ?_
    refine r_iload eX12_mark_37 rfl ?_
    refine r_i2l eX12_mark_39 ?_
    refine r_ldc2 eX12_mark_40 g_12_100 ?_
    refine t_statI (As := [_, _, _]) (rest := []) (d' := d + 2 + 0) eX12_mark_43 k_12_102 rfl (by omega) (Nat.le_of_ble_eq_true rfl) (Nat.le_of_ble_eq_true rfl) (fun _ q => s_X12_within q) q (fun v43 h43 q => ?_)
    refine t_if_ne eX12_mark_46 (t := 55) (by decide) q (fun q => ?_) (fun q => ?_)
    · refine r_aload_n eX12_mark_55 rfl ?_
      refine t_gfR eX12_mark_56 f_12_9 q (fun v56 q => ?_)
      refine r_iconst (v := (2)) eX12_mark_59 (by decide) ?_
      refine t_gaI eX12_mark_60 q (fun v60 q => ?_)
      refine r_bipush (v := (40)) eX12_mark_61 (by decide) ?_
      refine t_icmp_ne eX12_mark_63 (t := 68) (by decide) q (fun q => ?_) (fun q => ?_)
      · refine r_aload_n eX12_mark_68 rfl ?_
        refine r_iconst (v := (2)) eX12_mark_69 (by decide) ?_
        refine t_virtI (As := [_]) (rest := []) (d' := d + 2 + 0) (ci := 12) eX12_mark_70 k_12_118 rfl rfl rfl (by omega) (Nat.le_of_ble_eq_true rfl) (Nat.le_of_ble_eq_true rfl) (fun _ q => s_X12_more q) q (fun v70 h70 q => ?_)
        refine r_istore (lv' := [_, _, _, _, _, _, _]) eX12_mark_73 (Nat.le_of_ble_eq_true rfl) rfl ?_
        refine r_aload_n eX12_mark_75 rfl ?_
        refine t_gfR eX12_mark_76 f_12_9 q (fun v76 q => ?_)
        refine r_sipush (v := (450)) eX12_mark_79 (by decide) ?_
        refine r_iconst (v := (5)) eX12_mark_82 (by decide) ?_
        refine r_iload eX12_mark_83 rfl ?_
        refine r_imul eX12_mark_85 ?_
        refine r_iadd eX12_mark_86 ?_
        refine r_iload_n eX12_mark_87 rfl ?_
        refine t_paI eX12_mark_88 q (fun h88 q => ?_)
        refine r_aload_n eX12_mark_89 rfl ?_
        refine t_gfR eX12_mark_90 f_12_9 q (fun v90 q => ?_)
        refine r_sipush (v := (450)) eX12_mark_93 (by decide) ?_
        refine r_iconst (v := (5)) eX12_mark_96 (by decide) ?_
        refine r_iload eX12_mark_97 rfl ?_
        refine r_imul eX12_mark_99 ?_
        refine r_iadd eX12_mark_100 ?_
        refine r_iconst (v := (1)) eX12_mark_101 (by decide) ?_
        refine r_iadd eX12_mark_102 ?_
        refine r_iload_n eX12_mark_103 rfl ?_
        refine t_paI eX12_mark_104 q (fun h104 q => ?_)
        refine r_aload_n eX12_mark_105 rfl ?_
        refine t_gfR eX12_mark_106 f_12_9 q (fun v106 q => ?_)
        refine r_sipush (v := (450)) eX12_mark_109 (by decide) ?_
        refine r_iconst (v := (5)) eX12_mark_112 (by decide) ?_
        refine r_iload eX12_mark_113 rfl ?_
        refine r_imul eX12_mark_115 ?_
        refine r_iadd eX12_mark_116 ?_
        refine r_iconst (v := (2)) eX12_mark_117 (by decide) ?_
        refine r_iadd eX12_mark_118 ?_
        refine r_iload_n eX12_mark_119 rfl ?_
        refine t_if_eq eX12_mark_120 (t := 127) (by decide) q (fun q => ?_) (fun q => ?_)
        · refine r_iconst (v := (0)) eX12_mark_127 (by decide) ?_
          exact sJ_X12_mark_128  q
        refine r_iconst (v := (1)) eX12_mark_123 (by decide) ?_
        refine r_goto (t := 128) eX12_mark_124 (by decide) ?_
        exact sJ_X12_mark_128  q
      refine r_iconst (v := (-1)) eX12_mark_66 (by decide) ?_
      exact t_rtI eX12_mark_67 rfl q
    refine r_aload_n eX12_mark_49 rfl ?_
    refine r_iconst (v := (2)) eX12_mark_50 (by decide) ?_
    refine t_virtI (As := [_]) (rest := []) (d' := d + 2 + 0) (ci := 12) eX12_mark_51 k_12_114 rfl rfl rfl (by omega) (Nat.le_of_ble_eq_true rfl) (Nat.le_of_ble_eq_true rfl) (fun _ q => s_X12_fails q) q (fun v51 h51 q => ?_)
    exact t_rtI eX12_mark_54 rfl q
  refine r_aload_n eX12_mark_13 rfl ?_
  refine r_iconst (v := (1)) eX12_mark_14 (by decide) ?_
  refine t_virtI (As := [_]) (rest := []) (d' := d + 2 + 0) (ci := 12) eX12_mark_15 k_12_114 rfl rfl rfl (by omega) (Nat.le_of_ble_eq_true rfl) (Nat.le_of_ble_eq_true rfl) (fun _ q => s_X12_fails q) q (fun v15 h15 q => ?_)
  exact t_rtI eX12_mark_18 rfl q
theorem sJ_X12_ends_53 {E : Ev} {d kc ks : Nat} {Φ : Ou → Hp → Prop} {y0 : Nat} {y1 : Int32} {y2 : Int32} {y3 : Int32} {t0 : Int32} {h : Hp}  (q : OK (J_X12_ends_53 E y0 y3 t0 h) Φ) : WE E mX12_ends (d + 2) 53 [some (.ref y0), some (.int y1), some (.int y2), some (.int y3), none, none] [.int t0] h kc ks Φ := by
  refine r_istore (lv' := [_, _, _, _, _, _]) eX12_ends_53 (Nat.le_of_ble_eq_true rfl) rfl ?_
  refine r_iload_n eX12_ends_55 rfl ?_
  refine r_i2l eX12_ends_56 ?_
  refine r_aload_n eX12_ends_57 rfl ?_
  refine t_gfR eX12_ends_58 f_12_9 q (fun v58 q => ?_)
  refine r_iload eX12_ends_61 rfl ?_
  refine t_gaI eX12_ends_63 q (fun v63 q => ?_)
  refine r_i2l eX12_ends_64 ?_
  refine r_aload_n eX12_ends_65 rfl ?_
  refine t_gfR eX12_ends_66 f_12_9 q (fun v66 q => ?_)
  refine r_iload eX12_ends_69 rfl ?_
  refine r_iconst (v := (1)) eX12_ends_71 (by decide) ?_
  refine r_iadd eX12_ends_72 ?_
  refine t_gaI eX12_ends_73 q (fun v73 q => ?_)
  refine r_i2l eX12_ends_74 ?_
  refine t_statI (As := [_, _, _]) (rest := []) (d' := d + 1 + 0) eX12_ends_75 k_12_102 rfl (by omega) (Nat.le_of_ble_eq_true rfl) (Nat.le_of_ble_eq_true rfl) (fun _ q => s_X12_within q) q (fun v75 h75 q => ?_)
  refine t_if_ne eX12_ends_78 (t := 87) (by decide) q (fun q => ?_) (fun q => ?_)
  · refine r_aload_n eX12_ends_87 rfl ?_
    refine t_gfR eX12_ends_88 f_12_9 q (fun v88 q => ?_)
    refine r_iload eX12_ends_91 rfl ?_
    refine r_iconst (v := (1)) eX12_ends_93 (by decide) ?_
    refine r_iadd eX12_ends_94 ?_
    refine t_gaI eX12_ends_95 q (fun v95 q => ?_)
    refine r_istore (lv' := [_, _, _, _, _, _]) eX12_ends_96 (Nat.le_of_ble_eq_true rfl) rfl ?_
    refine r_aload_n eX12_ends_98 rfl ?_
    refine t_gfR eX12_ends_99 f_12_9 q (fun v99 q => ?_)
    refine r_iload eX12_ends_102 rfl ?_
    refine r_iconst (v := (1)) eX12_ends_104 (by decide) ?_
    refine r_iadd eX12_ends_105 ?_
    refine r_iload_n eX12_ends_106 rfl ?_
    refine t_paI eX12_ends_107 q (fun h107 q => ?_)
    refine r_aload_n eX12_ends_108 rfl ?_
    refine r_iconst (v := (-1)) eX12_ends_109 (by decide) ?_
    refine t_pf eX12_ends_110 p_12_20 rfl rfl (fun q => by cases q) q (fun h110 q => ?_)
    refine r_iload eX12_ends_113 rfl ?_
    exact t_rtI eX12_ends_115 rfl q
  refine r_aload_n eX12_ends_81 rfl ?_
  refine r_iconst (v := (2)) eX12_ends_82 (by decide) ?_
  refine t_virtI (As := [_]) (rest := []) (d' := d + 1 + 0) (ci := 12) eX12_ends_83 k_12_114 rfl rfl rfl (by omega) (Nat.le_of_ble_eq_true rfl) (Nat.le_of_ble_eq_true rfl) (fun _ q => s_X12_fails q) q (fun v83 h83 q => ?_)
  exact t_rtI eX12_ends_86 rfl q
theorem sJ_X12_ends_15 {E : Ev} {d kc ks : Nat} {Φ : Ou → Hp → Prop} {y0 : Nat} {y1 : Int32} {y2 : Int32} {y3 : Int32} {t0 : Nat} {t1 : Int32} {h : Hp}  (q : OK (J_X12_ends_15 E y0 y1 y2 y3 t0 t1 h) Φ) : WE E mX12_ends (d + 2) 15 [some (.ref y0), some (.int y1), some (.int y2), some (.int y3), none, none] [.int t1, .ref t0] h kc ks Φ := by
  refine r_iload_n eX12_ends_15 rfl ?_
  refine t_virtI (As := [_, _]) (rest := []) (d' := d + 0 + 1) (ci := 12) eX12_ends_16 k_12_106 rfl rfl rfl (by omega) (Nat.le_of_ble_eq_true rfl) (Nat.le_of_ble_eq_true rfl) (fun _ q => s_X12_is q) q (fun v16 h16 q => ?_)
  refine t_if_ne eX12_ends_19 (t := 28) (by decide) q (fun q => ?_) (fun q => ?_)
  · refine r_iload_n eX12_ends_28 rfl ?_
    refine t_if_eq eX12_ends_29 (t := 44) (by decide) q (fun q => ?_) (fun q => ?_)
    · refine r_sipush (v := (450)) eX12_ends_44 (by decide) ?_
      refine r_iconst (v := (5)) eX12_ends_47 (by decide) ?_
      refine r_iload_n eX12_ends_48 rfl ?_
      refine r_imul eX12_ends_49 ?_
      refine r_iadd eX12_ends_50 ?_
      refine r_iconst (v := (3)) eX12_ends_51 (by decide) ?_
      refine r_iadd eX12_ends_52 ?_
      exact sJ_X12_ends_53  q
    refine r_bipush (v := (90)) eX12_ends_32 (by decide) ?_
    refine r_bipush (v := (6)) eX12_ends_34 (by decide) ?_
    refine r_iload_n eX12_ends_36 rfl ?_
    refine r_imul eX12_ends_37 ?_
    refine r_iadd eX12_ends_38 ?_
    refine r_iconst (v := (4)) eX12_ends_39 (by decide) ?_
    refine r_iadd eX12_ends_40 ?_
    refine r_goto (t := 53) eX12_ends_41 (by decide) ?_
    exact sJ_X12_ends_53  q
  refine r_aload_n eX12_ends_22 rfl ?_
  refine r_iconst (v := (1)) eX12_ends_23 (by decide) ?_
  refine t_virtI (As := [_]) (rest := []) (d' := d + 1 + 0) (ci := 12) eX12_ends_24 k_12_114 rfl rfl rfl (by omega) (Nat.le_of_ble_eq_true rfl) (Nat.le_of_ble_eq_true rfl) (fun _ q => s_X12_fails q) q (fun v24 h24 q => ?_)
  exact t_rtI eX12_ends_27 rfl q
theorem s_X12_ends {E : Ev} {d : Nat} {a0 : Nat} {x1 : Int32} {x2 : Int32} {x3 : Int32} {h : Hp} {Φ : Ou → Hp → Prop} (q : OK (F_X12_ends E a0 x1 x2 x3 h) Φ) : CE E mX12_ends (d + 2) [.ref a0, .int x1, .int x2, .int x3] h 0 0 Φ := by
  show WE E mX12_ends (d + 2) 0 [some (.ref a0), some (.int x1), some (.int x2), some (.int x3), none, none] [] h 0 0 Φ
  refine r_aload_n eX12_ends_0 rfl ?_
  refine r_iconst (v := (0)) eX12_ends_1 (by decide) ?_
  refine t_pf eX12_ends_2 p_12_97 rfl rfl (fun q => by cases q) q (fun h2 q => ?_)
  refine r_aload_n eX12_ends_5 rfl ?_
  refine r_iload_n eX12_ends_6 rfl ?_
  refine t_if_eq eX12_ends_7 (t := 14) (by decide) q (fun q => ?_) (fun q => ?_)
  · refine r_iconst (v := (2)) eX12_ends_14 (by decide) ?_
    exact sJ_X12_ends_15  q
  refine r_iconst (v := (1)) eX12_ends_10 (by decide) ?_
  refine r_goto (t := 15) eX12_ends_11 (by decide) ?_
  exact sJ_X12_ends_15  q
theorem s_X12_isThere {E : Ev} {d : Nat} {a0 : Nat} {x1 : Int32} {x2 : Int32} {h : Hp} {Φ : Ou → Hp → Prop} (q : OK (F_X12_isThere E a0 x1 x2 h) Φ) : CE E mX12_isThere (d + 1) [.ref a0, .int x1, .int x2] h 0 0 Φ := by
  show WE E mX12_isThere (d + 1) 0 [some (.ref a0), some (.int x1), some (.int x2)] [] h 0 0 Φ
  refine r_iload_n eX12_isThere_0 rfl ?_
  refine r_i2l eX12_isThere_1 ?_
  refine r_aload_n eX12_isThere_2 rfl ?_
  refine r_iload_n eX12_isThere_3 rfl ?_
  refine r_iconst (v := (4)) eX12_isThere_4 (by decide) ?_
  refine t_virtI (As := [_, _]) (rest := [_]) (d' := d + 0 + 0) (ci := 12) eX12_isThere_5 k_12_130 rfl rfl rfl (by omega) (Nat.le_of_ble_eq_true rfl) (Nat.le_of_ble_eq_true rfl) (fun _ q => s_X12_wayOf q) q (fun v5 h5 q => ?_)
  refine r_i2l eX12_isThere_8 ?_
  refine r_aload_n eX12_isThere_9 rfl ?_
  refine r_iload_n eX12_isThere_10 rfl ?_
  refine r_iconst (v := (5)) eX12_isThere_11 (by decide) ?_
  refine t_virtI (As := [_, _]) (rest := [_, _]) (d' := d + 0 + 0) (ci := 12) eX12_isThere_12 k_12_130 rfl rfl rfl (by omega) (Nat.le_of_ble_eq_true rfl) (Nat.le_of_ble_eq_true rfl) (fun _ q => s_X12_wayOf q) q (fun v12 h12 q => ?_)
  refine r_i2l eX12_isThere_15 ?_
  refine t_statI (As := [_, _, _]) (rest := []) (d' := d + 0 + 0) eX12_isThere_16 k_12_102 rfl (by omega) (Nat.le_of_ble_eq_true rfl) (Nat.le_of_ble_eq_true rfl) (fun _ q => s_X12_within q) q (fun v16 h16 q => ?_)
  exact t_rtZ eX12_isThere_19 rfl q
theorem s_X12_endOf {E : Ev} {d : Nat} {a0 : Nat} {x1 : Int32} {x2 : Int32} {h : Hp} {Φ : Ou → Hp → Prop} (q : OK (F_X12_endOf E a0 x1 x2 h) Φ) : CE E mX12_endOf (d + 1) [.ref a0, .int x1, .int x2] h 0 0 Φ := by
  show WE E mX12_endOf (d + 1) 0 [some (.ref a0), some (.int x1), some (.int x2)] [] h 0 0 Φ
  refine r_aload_n eX12_endOf_0 rfl ?_
  refine r_iload_n eX12_endOf_1 rfl ?_
  refine r_iconst (v := (2)) eX12_endOf_2 (by decide) ?_
  refine t_dvI eX12_endOf_3 q (fun v3 q => ?_)
  refine r_iload_n eX12_endOf_4 rfl ?_
  refine r_iconst (v := (2)) eX12_endOf_5 (by decide) ?_
  refine t_rmI eX12_endOf_6 q (fun v6 q => ?_)
  refine t_if_ne eX12_endOf_7 (t := 14) (by decide) q (fun q => ?_) (fun q => ?_)
  · refine r_iconst (v := (1)) eX12_endOf_14 (by decide) ?_
    refine r_iload_n eX12_endOf_15 rfl ?_
    refine r_isub eX12_endOf_16 ?_
    refine t_virtI (As := [_, _]) (rest := []) (d' := d + 0 + 0) (ci := 12) eX12_endOf_17 k_12_130 rfl rfl rfl (by omega) (Nat.le_of_ble_eq_true rfl) (Nat.le_of_ble_eq_true rfl) (fun _ q => s_X12_wayOf q) q (fun v17 h17 q => ?_)
    exact t_rtI eX12_endOf_20 rfl q
  refine r_iload_n eX12_endOf_10 rfl ?_
  refine r_goto (t := 17) eX12_endOf_11 (by decide) ?_
  refine t_virtI (As := [_, _]) (rest := []) (d' := d + 0 + 0) (ci := 12) eX12_endOf_17 k_12_130 rfl rfl rfl (by omega) (Nat.le_of_ble_eq_true rfl) (Nat.le_of_ble_eq_true rfl) (fun _ q => s_X12_wayOf q) q (fun v17 h17 q => ?_)
  exact t_rtI eX12_endOf_20 rfl q
theorem s_X12_placeOf {E : Ev} {d : Nat} {a0 : Nat} {x1 : Int32} {h : Hp} {Φ : Ou → Hp → Prop} (q : OK (F_X12_placeOf E a0 x1 h) Φ) : CE E mX12_placeOf (d + 2) [.ref a0, .int x1] h 0 0 Φ := by
  show WE E mX12_placeOf (d + 2) 0 [some (.ref a0), some (.int x1)] [] h 0 0 Φ
  refine r_aload_n eX12_placeOf_0 rfl ?_
  refine r_iload_n eX12_placeOf_1 rfl ?_
  refine r_iconst (v := (2)) eX12_placeOf_2 (by decide) ?_
  refine t_dvI eX12_placeOf_3 q (fun v3 q => ?_)
  refine r_iload_n eX12_placeOf_4 rfl ?_
  refine r_iconst (v := (2)) eX12_placeOf_5 (by decide) ?_
  refine t_rmI eX12_placeOf_6 q (fun v6 q => ?_)
  refine t_if_ne eX12_placeOf_7 (t := 14) (by decide) q (fun q => ?_) (fun q => ?_)
  · refine r_iconst (v := (0)) eX12_placeOf_14 (by decide) ?_
    refine t_virtI (As := [_, _]) (rest := []) (d' := d + 0 + 1) (ci := 12) eX12_placeOf_15 k_12_137 rfl rfl rfl (by omega) (Nat.le_of_ble_eq_true rfl) (Nat.le_of_ble_eq_true rfl) (fun _ q => s_X12_endOf q) q (fun v15 h15 q => ?_)
    exact t_rtI eX12_placeOf_18 rfl q
  refine r_iconst (v := (1)) eX12_placeOf_10 (by decide) ?_
  refine r_goto (t := 15) eX12_placeOf_11 (by decide) ?_
  refine t_virtI (As := [_, _]) (rest := []) (d' := d + 0 + 1) (ci := 12) eX12_placeOf_15 k_12_137 rfl rfl rfl (by omega) (Nat.le_of_ble_eq_true rfl) (Nat.le_of_ble_eq_true rfl) (fun _ q => s_X12_endOf q) q (fun v15 h15 q => ?_)
  exact t_rtI eX12_placeOf_18 rfl q
theorem s_X12_alongX {E : Ev} {d : Nat} {a0 : Nat} {x1 : Int32} {h : Hp} {Φ : Ou → Hp → Prop} (q : OK (F_X12_alongX E a0 x1 h) Φ) : CE E mX12_alongX (d + 2) [.ref a0, .int x1] h 0 0 Φ := by
  show WE E mX12_alongX (d + 2) 0 [some (.ref a0), some (.int x1)] [] h 0 0 Φ
  refine r_aload_n eX12_alongX_0 rfl ?_
  refine t_gfR eX12_alongX_1 f_12_9 q (fun v1 q => ?_)
  refine r_bipush (v := (10)) eX12_alongX_4 (by decide) ?_
  refine r_iconst (v := (2)) eX12_alongX_6 (by decide) ?_
  refine r_aload_n eX12_alongX_7 rfl ?_
  refine r_iload_n eX12_alongX_8 rfl ?_
  refine r_iconst (v := (1)) eX12_alongX_9 (by decide) ?_
  refine t_virtI (As := [_, _]) (rest := [_, _, _]) (d' := d + 0 + 1) (ci := 12) eX12_alongX_10 k_12_137 rfl rfl rfl (by omega) (Nat.le_of_ble_eq_true rfl) (Nat.le_of_ble_eq_true rfl) (fun _ q => s_X12_endOf q) q (fun v10 h10 q => ?_)
  refine r_imul eX12_alongX_13 ?_
  refine r_iadd eX12_alongX_14 ?_
  refine t_gaI eX12_alongX_15 q (fun v15 q => ?_)
  refine r_aload_n eX12_alongX_16 rfl ?_
  refine t_gfR eX12_alongX_17 f_12_9 q (fun v17 q => ?_)
  refine r_bipush (v := (10)) eX12_alongX_20 (by decide) ?_
  refine r_iconst (v := (2)) eX12_alongX_22 (by decide) ?_
  refine r_aload_n eX12_alongX_23 rfl ?_
  refine r_iload_n eX12_alongX_24 rfl ?_
  refine r_iconst (v := (0)) eX12_alongX_25 (by decide) ?_
  refine t_virtI (As := [_, _]) (rest := [_, _, _, _]) (d' := d + 0 + 1) (ci := 12) eX12_alongX_26 k_12_137 rfl rfl rfl (by omega) (Nat.le_of_ble_eq_true rfl) (Nat.le_of_ble_eq_true rfl) (fun _ q => s_X12_endOf q) q (fun v26 h26 q => ?_)
  refine r_imul eX12_alongX_29 ?_
  refine r_iadd eX12_alongX_30 ?_
  refine t_gaI eX12_alongX_31 q (fun v31 q => ?_)
  refine r_isub eX12_alongX_32 ?_
  exact t_rtI eX12_alongX_33 rfl q
theorem s_X12_alongY {E : Ev} {d : Nat} {a0 : Nat} {x1 : Int32} {h : Hp} {Φ : Ou → Hp → Prop} (q : OK (F_X12_alongY E a0 x1 h) Φ) : CE E mX12_alongY (d + 2) [.ref a0, .int x1] h 0 0 Φ := by
  show WE E mX12_alongY (d + 2) 0 [some (.ref a0), some (.int x1)] [] h 0 0 Φ
  refine r_aload_n eX12_alongY_0 rfl ?_
  refine t_gfR eX12_alongY_1 f_12_9 q (fun v1 q => ?_)
  refine r_bipush (v := (10)) eX12_alongY_4 (by decide) ?_
  refine r_iconst (v := (2)) eX12_alongY_6 (by decide) ?_
  refine r_aload_n eX12_alongY_7 rfl ?_
  refine r_iload_n eX12_alongY_8 rfl ?_
  refine r_iconst (v := (1)) eX12_alongY_9 (by decide) ?_
  refine t_virtI (As := [_, _]) (rest := [_, _, _]) (d' := d + 0 + 1) (ci := 12) eX12_alongY_10 k_12_137 rfl rfl rfl (by omega) (Nat.le_of_ble_eq_true rfl) (Nat.le_of_ble_eq_true rfl) (fun _ q => s_X12_endOf q) q (fun v10 h10 q => ?_)
  refine r_imul eX12_alongY_13 ?_
  refine r_iadd eX12_alongY_14 ?_
  refine r_iconst (v := (1)) eX12_alongY_15 (by decide) ?_
  refine r_iadd eX12_alongY_16 ?_
  refine t_gaI eX12_alongY_17 q (fun v17 q => ?_)
  refine r_aload_n eX12_alongY_18 rfl ?_
  refine t_gfR eX12_alongY_19 f_12_9 q (fun v19 q => ?_)
  refine r_bipush (v := (10)) eX12_alongY_22 (by decide) ?_
  refine r_iconst (v := (2)) eX12_alongY_24 (by decide) ?_
  refine r_aload_n eX12_alongY_25 rfl ?_
  refine r_iload_n eX12_alongY_26 rfl ?_
  refine r_iconst (v := (0)) eX12_alongY_27 (by decide) ?_
  refine t_virtI (As := [_, _]) (rest := [_, _, _, _]) (d' := d + 0 + 1) (ci := 12) eX12_alongY_28 k_12_137 rfl rfl rfl (by omega) (Nat.le_of_ble_eq_true rfl) (Nat.le_of_ble_eq_true rfl) (fun _ q => s_X12_endOf q) q (fun v28 h28 q => ?_)
  refine r_imul eX12_alongY_31 ?_
  refine r_iadd eX12_alongY_32 ?_
  refine r_iconst (v := (1)) eX12_alongY_33 (by decide) ?_
  refine r_iadd eX12_alongY_34 ?_
  refine t_gaI eX12_alongY_35 q (fun v35 q => ?_)
  refine r_isub eX12_alongY_36 ?_
  exact t_rtI eX12_alongY_37 rfl q
theorem s_X12_state {E : Ev} {d : Nat} {a0 : Nat} {x1 : Int32} {x2 : Int32} {h : Hp} {Φ : Ou → Hp → Prop} (q : OK (F_X12_state E a0 x1 x2 h) Φ) : CE E mX12_state (d + 3) [.ref a0, .int x1, .int x2] h 0 0 Φ := by
  show WE E mX12_state (d + 3) 0 [some (.ref a0), some (.int x1), some (.int x2)] [] h 0 0 Φ
  refine r_aload_n eX12_state_0 rfl ?_
  refine r_iconst (v := (0)) eX12_state_1 (by decide) ?_
  refine t_pf eX12_state_2 p_12_97 rfl rfl (fun q => by cases q) q (fun h2 q => ?_)
  refine r_aload_n eX12_state_5 rfl ?_
  refine r_iload_n eX12_state_6 rfl ?_
  refine t_virtI (As := [_]) (rest := []) (d' := d + 1 + 1) (ci := 12) eX12_state_7 k_12_140 rfl rfl rfl (by omega) (Nat.le_of_ble_eq_true rfl) (Nat.le_of_ble_eq_true rfl) (fun _ q => s_X12_isState q) q (fun v7 h7 q => ?_)
  refine t_if_ne eX12_state_10 (t := 19) (by decide) q (fun q => ?_) (fun q => ?_)
  · refine r_iload_n eX12_state_19 rfl ?_
    refine r_i2l eX12_state_20 ?_
    refine r_lconst (v := 0) eX12_state_21 rfl ?_
    refine r_ldc2 eX12_state_22 g_12_125 ?_
    refine t_statI (As := [_, _, _]) (rest := []) (d' := d + 2 + 0) eX12_state_25 k_12_102 rfl (by omega) (Nat.le_of_ble_eq_true rfl) (Nat.le_of_ble_eq_true rfl) (fun _ q => s_X12_within q) q (fun v25 h25 q => ?_)
    refine t_if_ne eX12_state_28 (t := 37) (by decide) q (fun q => ?_) (fun q => ?_)
    · refine r_iload_n eX12_state_37 rfl ?_
      refine t_if_ne eX12_state_38 (t := 49) (by decide) q (fun q => ?_) (fun q => ?_)
      · refine r_iload_n eX12_state_49 rfl ?_
        refine r_iconst (v := (1)) eX12_state_50 (by decide) ?_
        refine t_icmp_ne eX12_state_51 (t := 62) (by decide) q (fun q => ?_) (fun q => ?_)
        · refine r_iload_n eX12_state_62 rfl ?_
          refine r_iconst (v := (4)) eX12_state_63 (by decide) ?_
          refine t_dvI eX12_state_64 q (fun v64 q => ?_)
          exact t_rtI eX12_state_65 rfl q
        refine r_iconst (v := (1)) eX12_state_54 (by decide) ?_
        refine r_iload_n eX12_state_55 rfl ?_
        refine r_iconst (v := (2)) eX12_state_56 (by decide) ?_
        refine t_rmI eX12_state_57 q (fun v57 q => ?_)
        refine r_isub eX12_state_58 ?_
        refine r_goto (t := 65) eX12_state_59 (by decide) ?_
        exact t_rtI eX12_state_65 rfl q
      refine r_aload_n eX12_state_41 rfl ?_
      refine r_iload_n eX12_state_42 rfl ?_
      refine t_virtI (As := [_]) (rest := []) (d' := d + 0 + 2) (ci := 12) eX12_state_43 k_12_143 rfl rfl rfl (by omega) (Nat.le_of_ble_eq_true rfl) (Nat.le_of_ble_eq_true rfl) (fun _ q => s_X12_placeOf q) q (fun v43 h43 q => ?_)
      refine r_goto (t := 65) eX12_state_46 (by decide) ?_
      exact t_rtI eX12_state_65 rfl q
    refine r_aload_n eX12_state_31 rfl ?_
    refine r_iconst (v := (2)) eX12_state_32 (by decide) ?_
    refine t_virtI (As := [_]) (rest := []) (d' := d + 2 + 0) (ci := 12) eX12_state_33 k_12_114 rfl rfl rfl (by omega) (Nat.le_of_ble_eq_true rfl) (Nat.le_of_ble_eq_true rfl) (fun _ q => s_X12_fails q) q (fun v33 h33 q => ?_)
    exact t_rtI eX12_state_36 rfl q
  refine r_aload_n eX12_state_13 rfl ?_
  refine r_iconst (v := (1)) eX12_state_14 (by decide) ?_
  refine t_virtI (As := [_]) (rest := []) (d' := d + 2 + 0) (ci := 12) eX12_state_15 k_12_114 rfl rfl rfl (by omega) (Nat.le_of_ble_eq_true rfl) (Nat.le_of_ble_eq_true rfl) (fun _ q => s_X12_fails q) q (fun v15 h15 q => ?_)
  exact t_rtI eX12_state_18 rfl q
theorem s_X12_isOut {E : Ev} {d : Nat} {a0 : Nat} {x1 : Int32} {x2 : Int32} {x3 : Int32} {h : Hp} {Φ : Ou → Hp → Prop} (q : OK (F_X12_isOut E a0 x1 x2 x3 h) Φ) : CE E mX12_isOut (d + 3) [.ref a0, .int x1, .int x2, .int x3] h 0 0 Φ := by
  show WE E mX12_isOut (d + 3) 0 [some (.ref a0), some (.int x1), some (.int x2), some (.int x3)] [] h 0 0 Φ
  refine r_aload_n eX12_isOut_0 rfl ?_
  refine r_iload_n eX12_isOut_1 rfl ?_
  refine r_iconst (v := (0)) eX12_isOut_2 (by decide) ?_
  refine t_virtI (As := [_, _]) (rest := []) (d' := d + 1 + 1) (ci := 12) eX12_isOut_3 k_12_137 rfl rfl rfl (by omega) (Nat.le_of_ble_eq_true rfl) (Nat.le_of_ble_eq_true rfl) (fun _ q => s_X12_endOf q) q (fun v3 h3 q => ?_)
  refine r_aload_n eX12_isOut_6 rfl ?_
  refine r_iload_n eX12_isOut_7 rfl ?_
  refine t_virtI (As := [_]) (rest := [_]) (d' := d + 0 + 2) (ci := 12) eX12_isOut_8 k_12_143 rfl rfl rfl (by omega) (Nat.le_of_ble_eq_true rfl) (Nat.le_of_ble_eq_true rfl) (fun _ q => s_X12_placeOf q) q (fun v8 h8 q => ?_)
  refine t_icmp_ne eX12_isOut_11 (t := 45) (by decide) q (fun q => ?_) (fun q => ?_)
  · refine r_iconst (v := (0)) eX12_isOut_45 (by decide) ?_
    exact t_rtZ eX12_isOut_46 rfl q
  refine r_aload_n eX12_isOut_14 rfl ?_
  refine r_iload_n eX12_isOut_15 rfl ?_
  refine r_iconst (v := (2)) eX12_isOut_16 (by decide) ?_
  refine t_dvI eX12_isOut_17 q (fun v17 q => ?_)
  refine r_iload_n eX12_isOut_18 rfl ?_
  refine t_virtI (As := [_, _]) (rest := []) (d' := d + 1 + 1) (ci := 12) eX12_isOut_19 k_12_146 rfl rfl rfl (by omega) (Nat.le_of_ble_eq_true rfl) (Nat.le_of_ble_eq_true rfl) (fun _ q => s_X12_isThere q) q (fun v19 h19 q => ?_)
  refine t_if_eq eX12_isOut_22 (t := 45) (by decide) q (fun q => ?_) (fun q => ?_)
  · refine r_iconst (v := (0)) eX12_isOut_45 (by decide) ?_
    exact t_rtZ eX12_isOut_46 rfl q
  refine r_iload_n eX12_isOut_25 rfl ?_
  refine r_iconst (v := (2)) eX12_isOut_26 (by decide) ?_
  refine t_rmI eX12_isOut_27 q (fun v27 q => ?_)
  refine r_iconst (v := (1)) eX12_isOut_28 (by decide) ?_
  refine t_icmp_eq eX12_isOut_29 (t := 41) (by decide) q (fun q => ?_) (fun q => ?_)
  · refine r_iconst (v := (1)) eX12_isOut_41 (by decide) ?_
    refine r_goto (t := 46) eX12_isOut_42 (by decide) ?_
    exact t_rtZ eX12_isOut_46 rfl q
  refine r_iload_n eX12_isOut_32 rfl ?_
  refine r_iload_n eX12_isOut_33 rfl ?_
  refine r_iconst (v := (2)) eX12_isOut_34 (by decide) ?_
  refine t_dvI eX12_isOut_35 q (fun v35 q => ?_)
  refine r_iconst (v := (1)) eX12_isOut_36 (by decide) ?_
  refine r_ixor eX12_isOut_37 ?_
  refine t_icmp_eq eX12_isOut_38 (t := 45) (by decide) q (fun q => ?_) (fun q => ?_)
  · refine r_iconst (v := (0)) eX12_isOut_45 (by decide) ?_
    exact t_rtZ eX12_isOut_46 rfl q
  refine r_iconst (v := (1)) eX12_isOut_41 (by decide) ?_
  refine r_goto (t := 46) eX12_isOut_42 (by decide) ?_
  exact t_rtZ eX12_isOut_46 rfl q
theorem s_X12_cross {E : Ev} {d : Nat} {a0 : Nat} {x1 : Int32} {x2 : Int32} {h : Hp} {Φ : Ou → Hp → Prop} (q : OK (F_X12_cross E a0 x1 x2 h) Φ) : CE E mX12_cross (d + 3) [.ref a0, .int x1, .int x2] h 0 0 Φ := by
  show WE E mX12_cross (d + 3) 0 [some (.ref a0), some (.int x1), some (.int x2)] [] h 0 0 Φ
  refine r_aload_n eX12_cross_0 rfl ?_
  refine r_iload_n eX12_cross_1 rfl ?_
  refine r_iconst (v := (2)) eX12_cross_2 (by decide) ?_
  refine t_dvI eX12_cross_3 q (fun v3 q => ?_)
  refine t_virtI (As := [_]) (rest := []) (d' := d + 0 + 2) (ci := 12) eX12_cross_4 k_12_149 rfl rfl rfl (by omega) (Nat.le_of_ble_eq_true rfl) (Nat.le_of_ble_eq_true rfl) (fun _ q => s_X12_alongX q) q (fun v4 h4 q => ?_)
  refine r_aload_n eX12_cross_7 rfl ?_
  refine r_iload_n eX12_cross_8 rfl ?_
  refine t_virtI (As := [_]) (rest := [_]) (d' := d + 0 + 2) (ci := 12) eX12_cross_9 k_12_152 rfl rfl rfl (by omega) (Nat.le_of_ble_eq_true rfl) (Nat.le_of_ble_eq_true rfl) (fun _ q => s_X12_alongY q) q (fun v9 h9 q => ?_)
  refine r_imul eX12_cross_12 ?_
  refine r_aload_n eX12_cross_13 rfl ?_
  refine r_iload_n eX12_cross_14 rfl ?_
  refine r_iconst (v := (2)) eX12_cross_15 (by decide) ?_
  refine t_dvI eX12_cross_16 q (fun v16 q => ?_)
  refine t_virtI (As := [_]) (rest := [_]) (d' := d + 0 + 2) (ci := 12) eX12_cross_17 k_12_152 rfl rfl rfl (by omega) (Nat.le_of_ble_eq_true rfl) (Nat.le_of_ble_eq_true rfl) (fun _ q => s_X12_alongY q) q (fun v17 h17 q => ?_)
  refine r_aload_n eX12_cross_20 rfl ?_
  refine r_iload_n eX12_cross_21 rfl ?_
  refine t_virtI (As := [_]) (rest := [_, _]) (d' := d + 0 + 2) (ci := 12) eX12_cross_22 k_12_149 rfl rfl rfl (by omega) (Nat.le_of_ble_eq_true rfl) (Nat.le_of_ble_eq_true rfl) (fun _ q => s_X12_alongX q) q (fun v22 h22 q => ?_)
  refine r_imul eX12_cross_25 ?_
  refine r_isub eX12_cross_26 ?_
  exact t_rtI eX12_cross_27 rfl q
theorem s_X12_dots {E : Ev} {d : Nat} {a0 : Nat} {x1 : Int32} {x2 : Int32} {h : Hp} {Φ : Ou → Hp → Prop} (q : OK (F_X12_dots E a0 x1 x2 h) Φ) : CE E mX12_dots (d + 3) [.ref a0, .int x1, .int x2] h 0 0 Φ := by
  show WE E mX12_dots (d + 3) 0 [some (.ref a0), some (.int x1), some (.int x2), none, none] [] h 0 0 Φ
  refine r_aload_n eX12_dots_0 rfl ?_
  refine r_iload_n eX12_dots_1 rfl ?_
  refine r_iconst (v := (2)) eX12_dots_2 (by decide) ?_
  refine t_dvI eX12_dots_3 q (fun v3 q => ?_)
  refine t_virtI (As := [_]) (rest := []) (d' := d + 0 + 2) (ci := 12) eX12_dots_4 k_12_149 rfl rfl rfl (by omega) (Nat.le_of_ble_eq_true rfl) (Nat.le_of_ble_eq_true rfl) (fun _ q => s_X12_alongX q) q (fun v4 h4 q => ?_)
  refine r_aload_n eX12_dots_7 rfl ?_
  refine r_iload_n eX12_dots_8 rfl ?_
  refine t_virtI (As := [_]) (rest := [_]) (d' := d + 0 + 2) (ci := 12) eX12_dots_9 k_12_149 rfl rfl rfl (by omega) (Nat.le_of_ble_eq_true rfl) (Nat.le_of_ble_eq_true rfl) (fun _ q => s_X12_alongX q) q (fun v9 h9 q => ?_)
  refine r_imul eX12_dots_12 ?_
  refine r_aload_n eX12_dots_13 rfl ?_
  refine r_iload_n eX12_dots_14 rfl ?_
  refine r_iconst (v := (2)) eX12_dots_15 (by decide) ?_
  refine t_dvI eX12_dots_16 q (fun v16 q => ?_)
  refine t_virtI (As := [_]) (rest := [_]) (d' := d + 0 + 2) (ci := 12) eX12_dots_17 k_12_152 rfl rfl rfl (by omega) (Nat.le_of_ble_eq_true rfl) (Nat.le_of_ble_eq_true rfl) (fun _ q => s_X12_alongY q) q (fun v17 h17 q => ?_)
  refine r_aload_n eX12_dots_20 rfl ?_
  refine r_iload_n eX12_dots_21 rfl ?_
  refine t_virtI (As := [_]) (rest := [_, _]) (d' := d + 0 + 2) (ci := 12) eX12_dots_22 k_12_152 rfl rfl rfl (by omega) (Nat.le_of_ble_eq_true rfl) (Nat.le_of_ble_eq_true rfl) (fun _ q => s_X12_alongY q) q (fun v22 h22 q => ?_)
  refine r_imul eX12_dots_25 ?_
  refine r_iadd eX12_dots_26 ?_
  refine r_i2l eX12_dots_27 ?_
  replace q := OK_lt q
  refine r_lstore_n (lv' := [_, _, _, _, _]) eX12_dots_28 (Nat.le_of_ble_eq_true rfl) rfl ?_
  refine r_lload_n eX12_dots_29 rfl ?_
  refine r_lconst (v := 0) eX12_dots_30 rfl ?_
  refine t_lc_ge eX12_dots_31 eX12_dots_32 (t := 42) (by decide) q (fun q => ?_) (fun q => ?_)
  · refine r_lload_n eX12_dots_42 rfl ?_
    refine r_lload_n eX12_dots_43 rfl ?_
    refine r_lmul eX12_dots_44 ?_
    exact t_rtL eX12_dots_45 rfl q
  refine r_lload_n eX12_dots_35 rfl ?_
  refine r_lneg eX12_dots_36 ?_
  refine r_lload_n eX12_dots_37 rfl ?_
  refine r_lmul eX12_dots_38 ?_
  refine r_goto (t := 45) eX12_dots_39 (by decide) ?_
  exact t_rtL eX12_dots_45 rfl q
theorem s_X12_sizes {E : Ev} {d : Nat} {a0 : Nat} {x1 : Int32} {h : Hp} {Φ : Ou → Hp → Prop} (q : OK (F_X12_sizes E a0 x1 h) Φ) : CE E mX12_sizes (d + 3) [.ref a0, .int x1] h 0 0 Φ := by
  show WE E mX12_sizes (d + 3) 0 [some (.ref a0), some (.int x1)] [] h 0 0 Φ
  refine r_aload_n eX12_sizes_0 rfl ?_
  refine r_iload_n eX12_sizes_1 rfl ?_
  refine t_virtI (As := [_]) (rest := []) (d' := d + 0 + 2) (ci := 12) eX12_sizes_2 k_12_149 rfl rfl rfl (by omega) (Nat.le_of_ble_eq_true rfl) (Nat.le_of_ble_eq_true rfl) (fun _ q => s_X12_alongX q) q (fun v2 h2 q => ?_)
  refine r_aload_n eX12_sizes_5 rfl ?_
  refine r_iload_n eX12_sizes_6 rfl ?_
  refine t_virtI (As := [_]) (rest := [_]) (d' := d + 0 + 2) (ci := 12) eX12_sizes_7 k_12_149 rfl rfl rfl (by omega) (Nat.le_of_ble_eq_true rfl) (Nat.le_of_ble_eq_true rfl) (fun _ q => s_X12_alongX q) q (fun v7 h7 q => ?_)
  refine r_imul eX12_sizes_10 ?_
  refine r_aload_n eX12_sizes_11 rfl ?_
  refine r_iload_n eX12_sizes_12 rfl ?_
  refine t_virtI (As := [_]) (rest := [_]) (d' := d + 0 + 2) (ci := 12) eX12_sizes_13 k_12_152 rfl rfl rfl (by omega) (Nat.le_of_ble_eq_true rfl) (Nat.le_of_ble_eq_true rfl) (fun _ q => s_X12_alongY q) q (fun v13 h13 q => ?_)
  refine r_aload_n eX12_sizes_16 rfl ?_
  refine r_iload_n eX12_sizes_17 rfl ?_
  refine t_virtI (As := [_]) (rest := [_, _]) (d' := d + 0 + 2) (ci := 12) eX12_sizes_18 k_12_152 rfl rfl rfl (by omega) (Nat.le_of_ble_eq_true rfl) (Nat.le_of_ble_eq_true rfl) (fun _ q => s_X12_alongY q) q (fun v18 h18 q => ?_)
  refine r_imul eX12_sizes_21 ?_
  refine r_iadd eX12_sizes_22 ?_
  refine r_i2l eX12_sizes_23 ?_
  exact t_rtL eX12_sizes_24 rfl q
theorem s_X12_isLessTurned {E : Ev} {d : Nat} {a0 : Nat} {x1 : Int32} {x2 : Int32} {x3 : Int32} {h : Hp} {Φ : Ou → Hp → Prop} (q : OK (F_X12_isLessTurned E a0 x1 x2 x3 h) Φ) : CE E mX12_isLessTurned (d + 4) [.ref a0, .int x1, .int x2, .int x3] h 0 0 Φ := by
  show WE E mX12_isLessTurned (d + 4) 0 [some (.ref a0), some (.int x1), some (.int x2), some (.int x3)] [] h 0 0 Φ
  refine r_aload_n eX12_isLessTurned_0 rfl ?_
  refine r_iload_n eX12_isLessTurned_1 rfl ?_
  refine r_iload_n eX12_isLessTurned_2 rfl ?_
  refine t_virtL (As := [_, _]) (rest := []) (d' := d + 0 + 3) (ci := 12) eX12_isLessTurned_3 k_12_155 rfl rfl rfl (by omega) (Nat.le_of_ble_eq_true rfl) (Nat.le_of_ble_eq_true rfl) (fun _ q => s_X12_dots q) q (fun v3 h3 q => ?_)
  refine r_aload_n eX12_isLessTurned_6 rfl ?_
  refine r_iload_n eX12_isLessTurned_7 rfl ?_
  refine t_virtL (As := [_]) (rest := [_]) (d' := d + 0 + 3) (ci := 12) eX12_isLessTurned_8 k_12_159 rfl rfl rfl (by omega) (Nat.le_of_ble_eq_true rfl) (Nat.le_of_ble_eq_true rfl) (fun _ q => s_X12_sizes q) q (fun v8 h8 q => ?_)
  refine r_lmul eX12_isLessTurned_11 ?_
  refine r_aload_n eX12_isLessTurned_12 rfl ?_
  refine r_iload_n eX12_isLessTurned_13 rfl ?_
  refine r_iload_n eX12_isLessTurned_14 rfl ?_
  refine t_virtL (As := [_, _]) (rest := [_]) (d' := d + 0 + 3) (ci := 12) eX12_isLessTurned_15 k_12_155 rfl rfl rfl (by omega) (Nat.le_of_ble_eq_true rfl) (Nat.le_of_ble_eq_true rfl) (fun _ q => s_X12_dots q) q (fun v15 h15 q => ?_)
  refine r_aload_n eX12_isLessTurned_18 rfl ?_
  refine r_iload_n eX12_isLessTurned_19 rfl ?_
  refine t_virtL (As := [_]) (rest := [_, _]) (d' := d + 0 + 3) (ci := 12) eX12_isLessTurned_20 k_12_159 rfl rfl rfl (by omega) (Nat.le_of_ble_eq_true rfl) (Nat.le_of_ble_eq_true rfl) (fun _ q => s_X12_sizes q) q (fun v20 h20 q => ?_)
  refine r_lmul eX12_isLessTurned_23 ?_
  refine t_lc_le eX12_isLessTurned_24 eX12_isLessTurned_25 (t := 32) (by decide) q (fun q => ?_) (fun q => ?_)
  · refine r_iconst (v := (0)) eX12_isLessTurned_32 (by decide) ?_
    exact t_rtZ eX12_isLessTurned_33 rfl q
  refine r_iconst (v := (1)) eX12_isLessTurned_28 (by decide) ?_
  refine r_goto (t := 33) eX12_isLessTurned_29 (by decide) ?_
  exact t_rtZ eX12_isLessTurned_33 rfl q
theorem sJ_X12_out_108 {E : Ev} {d kc ks : Nat} {Φ : Ou → Hp → Prop} {y0 : Nat} {y1 : Int32} {y2 : Int32} {y3 : Int32} {y4 : Int32} {y5 : Int32} {y6 : Int32} {t0 : Int32} {t1 : Int32} {t2 : Int32} {h : Hp} {K50 : Int32 → Int32 → Hp → Rs} (hK50 : ∀ (w4 : Int32) (w5 : Int32) (w6 : Option Value) (h : Hp), OK (K50 w4 w5 h) Φ → WE E mX12_out (d + 4) 50 [some (.ref y0), some (.int y1), some (.int y2), some (.int y3), some (.int w4), some (.int w5), w6] [] h kc ks Φ) (q : OK (J_X12_out_108 E K50 y0 y1 y2 y3 y5 t0 t1 t2 h) Φ) : WE E mX12_out (d + 4) 108 [some (.ref y0), some (.int y1), some (.int y2), some (.int y3), some (.int y4), some (.int y5), some (.int y6)] [.int t2, .int t1, .int t0] h kc ks Φ := by
  refine t_icmp_ne eX12_out_108 (t := 115) (by decide) q (fun q => ?_) (fun q => ?_)
  · refine r_iconst (v := (0)) eX12_out_115 (by decide) ?_
    refine r_iadd eX12_out_116 ?_
    refine r_istore (lv' := [_, _, _, _, _, _, _]) eX12_out_117 (Nat.le_of_ble_eq_true rfl) rfl ?_
    refine r_iinc (v := (1)) (lv' := [_, _, _, _, _, _, _]) eX12_out_119 rfl (by decide) rfl ?_
    refine r_goto (t := 50) eX12_out_122 (by decide) ?_
    exact hK50 _ _ _ _ q
  refine r_iconst (v := (1)) eX12_out_111 (by decide) ?_
  refine r_goto (t := 116) eX12_out_112 (by decide) ?_
  refine r_iadd eX12_out_116 ?_
  refine r_istore (lv' := [_, _, _, _, _, _, _]) eX12_out_117 (Nat.le_of_ble_eq_true rfl) rfl ?_
  refine r_iinc (v := (1)) (lv' := [_, _, _, _, _, _, _]) eX12_out_119 rfl (by decide) rfl ?_
  refine r_goto (t := 50) eX12_out_122 (by decide) ?_
  exact hK50 _ _ _ _ q
theorem sL_X12_out_50 {E : Ev} {d kc ks : Nat} {Φ : Ou → Hp → Prop} {y0 : Nat} {y1 : Int32} {y2 : Int32} {y3 : Int32}  : ∀ (g : Nat) (y4 : Int32) (y5 : Int32) (y6 : Option Value) (h : Hp), OK (L_X12_out_50 E y0 y1 y2 y3 g y4 y5 h) Φ → WE E mX12_out (d + 4) 50 [some (.ref y0), some (.int y1), some (.int y2), some (.int y3), some (.int y4), some (.int y5), y6] [] h kc ks Φ := by
  intro g
  induction g with
  | zero => intro y4 y5 y6 h q; exact q.elim
  | succ g ih =>
    intro y4 y5 y6 h q
    refine r_iload eX12_out_50 rfl ?_
    refine r_iconst (v := (2)) eX12_out_52 (by decide) ?_
    refine r_aload_n eX12_out_53 rfl ?_
    refine t_gfR eX12_out_54 f_12_9 q (fun v54 q => ?_)
    refine r_iconst (v := (1)) eX12_out_57 (by decide) ?_
    refine t_gaI eX12_out_58 q (fun v58 q => ?_)
    refine r_imul eX12_out_59 ?_
    refine t_icmp_ge eX12_out_60 (t := 125) (by decide) q (fun q => ?_) (fun q => ?_)
    · refine r_iload eX12_out_125 rfl ?_
      exact t_rtI eX12_out_127 rfl q
    refine r_aload_n eX12_out_63 rfl ?_
    refine r_iload_n eX12_out_64 rfl ?_
    refine r_iload eX12_out_65 rfl ?_
    refine r_iload_n eX12_out_67 rfl ?_
    refine t_virtI (As := [_, _, _]) (rest := []) (d' := d + 0 + 3) (ci := 12) eX12_out_68 k_12_163 rfl rfl rfl (by omega) (Nat.le_of_ble_eq_true rfl) (Nat.le_of_ble_eq_true rfl) (fun _ q => s_X12_isOut q) q (fun v68 h68 q => ?_)
    refine t_if_ne eX12_out_71 (t := 77) (by decide) q (fun q => ?_) (fun q => ?_)
    · refine r_aload_n eX12_out_77 rfl ?_
      refine r_iload_n eX12_out_78 rfl ?_
      refine r_iload eX12_out_79 rfl ?_
      refine t_virtI (As := [_, _]) (rest := []) (d' := d + 0 + 3) (ci := 12) eX12_out_81 k_12_167 rfl rfl rfl (by omega) (Nat.le_of_ble_eq_true rfl) (Nat.le_of_ble_eq_true rfl) (fun _ q => s_X12_cross q) q (fun v81 h81 q => ?_)
      refine r_istore (lv' := [_, _, _, _, _, _, _]) eX12_out_84 (Nat.le_of_ble_eq_true rfl) rfl ?_
      refine r_iload eX12_out_86 rfl ?_
      refine r_iload_n eX12_out_88 rfl ?_
      refine r_iload eX12_out_89 rfl ?_
      refine t_if_le eX12_out_91 (t := 98) (by decide) q (fun q => ?_) (fun q => ?_)
      · refine r_iload eX12_out_98 rfl ?_
        refine t_if_ge eX12_out_100 (t := 107) (by decide) q (fun q => ?_) (fun q => ?_)
        · refine r_iconst (v := (2)) eX12_out_107 (by decide) ?_
          refine sJ_X12_out_108 (fun w1 w2 w3 h4 q => ?_) q
          exact ih _ _ _ _ q
        refine r_iconst (v := (1)) eX12_out_103 (by decide) ?_
        refine r_goto (t := 108) eX12_out_104 (by decide) ?_
        refine sJ_X12_out_108 (fun w5 w6 w7 h8 q => ?_) q
        exact ih _ _ _ _ q
      refine r_iconst (v := (0)) eX12_out_94 (by decide) ?_
      refine r_goto (t := 108) eX12_out_95 (by decide) ?_
      refine sJ_X12_out_108 (fun w9 w10 w11 h12 q => ?_) q
      exact ih _ _ _ _ q
    refine r_goto (t := 119) eX12_out_74 (by decide) ?_
    refine r_iinc (v := (1)) (lv' := [_, _, _, _, _, _, _]) eX12_out_119 rfl (by decide) rfl ?_
    refine r_goto (t := 50) eX12_out_122 (by decide) ?_
    exact ih _ _ _ _ q
theorem s_X12_out {E : Ev} {d : Nat} {a0 : Nat} {x1 : Int32} {x2 : Int32} {x3 : Int32} {h : Hp} {Φ : Ou → Hp → Prop} (q : OK (F_X12_out E a0 x1 x2 x3 h) Φ) : CE E mX12_out (d + 4) [.ref a0, .int x1, .int x2, .int x3] h 0 0 Φ := by
  show WE E mX12_out (d + 4) 0 [some (.ref a0), some (.int x1), some (.int x2), some (.int x3), none, none, none] [] h 0 0 Φ
  refine r_aload_n eX12_out_0 rfl ?_
  refine r_iconst (v := (0)) eX12_out_1 (by decide) ?_
  refine t_pf eX12_out_2 p_12_97 rfl rfl (fun q => by cases q) q (fun h2 q => ?_)
  refine r_aload_n eX12_out_5 rfl ?_
  refine r_iload_n eX12_out_6 rfl ?_
  refine t_virtI (As := [_]) (rest := []) (d' := d + 2 + 1) (ci := 12) eX12_out_7 k_12_140 rfl rfl rfl (by omega) (Nat.le_of_ble_eq_true rfl) (Nat.le_of_ble_eq_true rfl) (fun _ q => s_X12_isState q) q (fun v7 h7 q => ?_)
  refine t_if_ne eX12_out_10 (t := 19) (by decide) q (fun q => ?_) (fun q => ?_)
  · refine r_iload_n eX12_out_19 rfl ?_
    refine r_i2l eX12_out_20 ?_
    refine r_lconst (v := 0) eX12_out_21 rfl ?_
    refine r_ldc2 eX12_out_22 g_12_125 ?_
    refine t_statI (As := [_, _, _]) (rest := []) (d' := d + 3 + 0) eX12_out_25 k_12_102 rfl (by omega) (Nat.le_of_ble_eq_true rfl) (Nat.le_of_ble_eq_true rfl) (fun _ q => s_X12_within q) q (fun v25 h25 q => ?_)
    refine t_if_eq eX12_out_28 (t := 38) (by decide) q (fun q => ?_) (fun q => ?_)
    · refine r_aload_n eX12_out_38 rfl ?_
      refine r_iconst (v := (2)) eX12_out_39 (by decide) ?_
      refine t_virtI (As := [_]) (rest := []) (d' := d + 3 + 0) (ci := 12) eX12_out_40 k_12_114 rfl rfl rfl (by omega) (Nat.le_of_ble_eq_true rfl) (Nat.le_of_ble_eq_true rfl) (fun _ q => s_X12_fails q) q (fun v40 h40 q => ?_)
      exact t_rtI eX12_out_43 rfl q
    refine r_iload_n eX12_out_31 rfl ?_
    refine t_statI (As := [_]) (rest := []) (d' := d + 2 + 1) eX12_out_32 k_12_127 rfl (by omega) (Nat.le_of_ble_eq_true rfl) (Nat.le_of_ble_eq_true rfl) (fun _ q => s_X12_isYear q) q (fun v32 h32 q => ?_)
    refine t_if_ne eX12_out_35 (t := 44) (by decide) q (fun q => ?_) (fun q => ?_)
    · refine r_iconst (v := (0)) eX12_out_44 (by decide) ?_
      refine r_istore (lv' := [_, _, _, _, _, _, _]) eX12_out_45 (Nat.le_of_ble_eq_true rfl) rfl ?_
      refine r_iconst (v := (0)) eX12_out_47 (by decide) ?_
      refine r_istore (lv' := [_, _, _, _, _, _, _]) eX12_out_48 (Nat.le_of_ble_eq_true rfl) rfl ?_
      exact sL_X12_out_50  _ _ _ _ _ q
    refine r_aload_n eX12_out_38 rfl ?_
    refine r_iconst (v := (2)) eX12_out_39 (by decide) ?_
    refine t_virtI (As := [_]) (rest := []) (d' := d + 3 + 0) (ci := 12) eX12_out_40 k_12_114 rfl rfl rfl (by omega) (Nat.le_of_ble_eq_true rfl) (Nat.le_of_ble_eq_true rfl) (fun _ q => s_X12_fails q) q (fun v40 h40 q => ?_)
    exact t_rtI eX12_out_43 rfl q
  refine r_aload_n eX12_out_13 rfl ?_
  refine r_iconst (v := (1)) eX12_out_14 (by decide) ?_
  refine t_virtI (As := [_]) (rest := []) (d' := d + 3 + 0) (ci := 12) eX12_out_15 k_12_114 rfl rfl rfl (by omega) (Nat.le_of_ble_eq_true rfl) (Nat.le_of_ble_eq_true rfl) (fun _ q => s_X12_fails q) q (fun v15 h15 q => ?_)
  exact t_rtI eX12_out_18 rfl q
theorem s_X12_has {E : Ev} {d : Nat} {a0 : Nat} {x1 : Int32} {x2 : Int32} {h : Hp} {Φ : Ou → Hp → Prop} (q : OK (F_X12_has E a0 x1 x2 h) Φ) : CE E mX12_has (d + 0) [.ref a0, .int x1, .int x2] h 0 0 Φ := by
  show WE E mX12_has (d + 0) 0 [some (.ref a0), some (.int x1), some (.int x2)] [] h 0 0 Φ
  refine r_aload_n eX12_has_0 rfl ?_
  refine r_iload_n eX12_has_1 rfl ?_
  refine r_iload_n eX12_has_2 rfl ?_
  refine r_bipush (v := (6)) eX12_has_3 (by decide) ?_
  refine r_ishr eX12_has_5 ?_
  refine r_iadd eX12_has_6 ?_
  refine t_gaL eX12_has_7 q (fun v7 q => ?_)
  refine r_iload_n eX12_has_8 rfl ?_
  refine r_bipush (v := (63)) eX12_has_9 (by decide) ?_
  refine r_iand eX12_has_11 ?_
  refine r_lshr eX12_has_12 ?_
  refine r_lconst (v := 1) eX12_has_13 rfl ?_
  refine r_land eX12_has_14 ?_
  refine r_lconst (v := 1) eX12_has_15 rfl ?_
  refine t_lc_ne eX12_has_16 eX12_has_17 (t := 24) (by decide) q (fun q => ?_) (fun q => ?_)
  · refine r_iconst (v := (0)) eX12_has_24 (by decide) ?_
    exact t_rtZ eX12_has_25 rfl q
  refine r_iconst (v := (1)) eX12_has_20 (by decide) ?_
  refine r_goto (t := 25) eX12_has_21 (by decide) ?_
  exact t_rtZ eX12_has_25 rfl q
theorem s_X12_put {E : Ev} {d : Nat} {a0 : Nat} {x1 : Int32} {x2 : Int32} {h : Hp} {Φ : Ou → Hp → Prop} (q : OK (F_X12_put E a0 x1 x2 h) Φ) : CE E mX12_put (d + 0) [.ref a0, .int x1, .int x2] h 0 0 Φ := by
  show WE E mX12_put (d + 0) 0 [some (.ref a0), some (.int x1), some (.int x2)] [] h 0 0 Φ
  refine r_aload_n eX12_put_0 rfl ?_
  refine r_iload_n eX12_put_1 rfl ?_
  refine r_iload_n eX12_put_2 rfl ?_
  refine r_bipush (v := (6)) eX12_put_3 (by decide) ?_
  refine r_ishr eX12_put_5 ?_
  refine r_iadd eX12_put_6 ?_
  refine r_dup2 eX12_put_7 rfl rfl ?_
  refine t_gaL eX12_put_8 q (fun v8 q => ?_)
  refine r_lconst (v := 1) eX12_put_9 rfl ?_
  refine r_iload_n eX12_put_10 rfl ?_
  refine r_bipush (v := (63)) eX12_put_11 (by decide) ?_
  refine r_iand eX12_put_13 ?_
  refine r_lshl eX12_put_14 ?_
  refine r_lor eX12_put_15 ?_
  refine t_paL eX12_put_16 q (fun h16 q => ?_)
  exact t_rtV eX12_put_17 rfl q
theorem sL_X12_join_3 {E : Ev} {d kc ks : Nat} {Φ : Ou → Hp → Prop} {y0 : Nat} {y1 : Int32} {y2 : Nat} {y3 : Int32}  : ∀ (g : Nat) (y4 : Int32) (h : Hp), OK (L_X12_join_3 E y0 y1 y2 y3 g y4 h) Φ → WE E mX12_join (d + 0) 3 [some (.ref y0), some (.int y1), some (.ref y2), some (.int y3), some (.int y4)] [] h kc ks Φ := by
  intro g
  induction g with
  | zero => intro y4 h q; exact q.elim
  | succ g ih =>
    intro y4 h q
    refine r_iload eX12_join_3 rfl ?_
    refine r_iconst (v := (4)) eX12_join_5 (by decide) ?_
    refine t_icmp_ge eX12_join_6 (t := 30) (by decide) q (fun q => ?_) (fun q => ?_)
    · exact t_rtV eX12_join_30 rfl q
    refine r_aload_n eX12_join_9 rfl ?_
    refine r_iload_n eX12_join_10 rfl ?_
    refine r_iload eX12_join_11 rfl ?_
    refine r_iadd eX12_join_13 ?_
    refine r_dup2 eX12_join_14 rfl rfl ?_
    refine t_gaL eX12_join_15 q (fun v15 q => ?_)
    refine r_aload_n eX12_join_16 rfl ?_
    refine r_iload_n eX12_join_17 rfl ?_
    refine r_iload eX12_join_18 rfl ?_
    refine r_iadd eX12_join_20 ?_
    refine t_gaL eX12_join_21 q (fun v21 q => ?_)
    refine r_lor eX12_join_22 ?_
    refine t_paL eX12_join_23 q (fun h23 q => ?_)
    refine r_iinc (v := (1)) (lv' := [_, _, _, _, _]) eX12_join_24 rfl (by decide) rfl ?_
    refine r_goto (t := 3) eX12_join_27 (by decide) ?_
    exact ih _ _ q
theorem s_X12_join {E : Ev} {d : Nat} {a0 : Nat} {x1 : Int32} {a2 : Nat} {x3 : Int32} {h : Hp} {Φ : Ou → Hp → Prop} (q : OK (F_X12_join E a0 x1 a2 x3 h) Φ) : CE E mX12_join (d + 0) [.ref a0, .int x1, .ref a2, .int x3] h 0 0 Φ := by
  show WE E mX12_join (d + 0) 0 [some (.ref a0), some (.int x1), some (.ref a2), some (.int x3), none] [] h 0 0 Φ
  refine r_iconst (v := (0)) eX12_join_0 (by decide) ?_
  refine r_istore (lv' := [_, _, _, _, _]) eX12_join_1 (Nat.le_of_ble_eq_true rfl) rfl ?_
  exact sL_X12_join_3  _ _ _ q
theorem sL_X12_empty_2 {E : Ev} {d kc ks : Nat} {Φ : Ou → Hp → Prop} {y0 : Nat} {y1 : Int32}  : ∀ (g : Nat) (y2 : Int32) (h : Hp), OK (L_X12_empty_2 E y0 y1 g y2 h) Φ → WE E mX12_empty (d + 0) 2 [some (.ref y0), some (.int y1), some (.int y2)] [] h kc ks Φ := by
  intro g
  induction g with
  | zero => intro y2 h q; exact q.elim
  | succ g ih =>
    intro y2 h q
    refine r_iload_n eX12_empty_2 rfl ?_
    refine r_iconst (v := (4)) eX12_empty_3 (by decide) ?_
    refine t_icmp_ge eX12_empty_4 (t := 19) (by decide) q (fun q => ?_) (fun q => ?_)
    · exact t_rtV eX12_empty_19 rfl q
    refine r_aload_n eX12_empty_7 rfl ?_
    refine r_iload_n eX12_empty_8 rfl ?_
    refine r_iload_n eX12_empty_9 rfl ?_
    refine r_iadd eX12_empty_10 ?_
    refine r_lconst (v := 0) eX12_empty_11 rfl ?_
    refine t_paL eX12_empty_12 q (fun h12 q => ?_)
    refine r_iinc (v := (1)) (lv' := [_, _, _]) eX12_empty_13 rfl (by decide) rfl ?_
    refine r_goto (t := 2) eX12_empty_16 (by decide) ?_
    exact ih _ _ q
theorem s_X12_empty {E : Ev} {d : Nat} {a0 : Nat} {x1 : Int32} {h : Hp} {Φ : Ou → Hp → Prop} (q : OK (F_X12_empty E a0 x1 h) Φ) : CE E mX12_empty (d + 0) [.ref a0, .int x1] h 0 0 Φ := by
  show WE E mX12_empty (d + 0) 0 [some (.ref a0), some (.int x1), none] [] h 0 0 Φ
  refine r_iconst (v := (0)) eX12_empty_0 (by decide) ?_
  refine r_istore_n (lv' := [_, _, _]) eX12_empty_1 (Nat.le_of_ble_eq_true rfl) rfl ?_
  exact sL_X12_empty_2  _ _ _ q
theorem sL_X12_copy_3 {E : Ev} {d kc ks : Nat} {Φ : Ou → Hp → Prop} {y0 : Nat} {y1 : Int32} {y2 : Nat} {y3 : Int32}  : ∀ (g : Nat) (y4 : Int32) (h : Hp), OK (L_X12_copy_3 E y0 y1 y2 y3 g y4 h) Φ → WE E mX12_copy (d + 0) 3 [some (.ref y0), some (.int y1), some (.ref y2), some (.int y3), some (.int y4)] [] h kc ks Φ := by
  intro g
  induction g with
  | zero => intro y4 h q; exact q.elim
  | succ g ih =>
    intro y4 h q
    refine r_iload eX12_copy_3 rfl ?_
    refine r_iconst (v := (4)) eX12_copy_5 (by decide) ?_
    refine t_icmp_ge eX12_copy_6 (t := 27) (by decide) q (fun q => ?_) (fun q => ?_)
    · exact t_rtV eX12_copy_27 rfl q
    refine r_aload_n eX12_copy_9 rfl ?_
    refine r_iload_n eX12_copy_10 rfl ?_
    refine r_iload eX12_copy_11 rfl ?_
    refine r_iadd eX12_copy_13 ?_
    refine r_aload_n eX12_copy_14 rfl ?_
    refine r_iload_n eX12_copy_15 rfl ?_
    refine r_iload eX12_copy_16 rfl ?_
    refine r_iadd eX12_copy_18 ?_
    refine t_gaL eX12_copy_19 q (fun v19 q => ?_)
    refine t_paL eX12_copy_20 q (fun h20 q => ?_)
    refine r_iinc (v := (1)) (lv' := [_, _, _, _, _]) eX12_copy_21 rfl (by decide) rfl ?_
    refine r_goto (t := 3) eX12_copy_24 (by decide) ?_
    exact ih _ _ q
theorem s_X12_copy {E : Ev} {d : Nat} {a0 : Nat} {x1 : Int32} {a2 : Nat} {x3 : Int32} {h : Hp} {Φ : Ou → Hp → Prop} (q : OK (F_X12_copy E a0 x1 a2 x3 h) Φ) : CE E mX12_copy (d + 0) [.ref a0, .int x1, .ref a2, .int x3] h 0 0 Φ := by
  show WE E mX12_copy (d + 0) 0 [some (.ref a0), some (.int x1), some (.ref a2), some (.int x3), none] [] h 0 0 Φ
  refine r_iconst (v := (0)) eX12_copy_0 (by decide) ?_
  refine r_istore (lv' := [_, _, _, _, _]) eX12_copy_1 (Nat.le_of_ble_eq_true rfl) rfl ?_
  exact sL_X12_copy_3  _ _ _ q
theorem s_X12_isNone {E : Ev} {d : Nat} {a0 : Nat} {x1 : Int32} {h : Hp} {Φ : Ou → Hp → Prop} (q : OK (F_X12_isNone E a0 x1 h) Φ) : CE E mX12_isNone (d + 0) [.ref a0, .int x1] h 0 0 Φ := by
  show WE E mX12_isNone (d + 0) 0 [some (.ref a0), some (.int x1)] [] h 0 0 Φ
  refine r_aload_n eX12_isNone_0 rfl ?_
  refine r_iload_n eX12_isNone_1 rfl ?_
  refine t_gaL eX12_isNone_2 q (fun v2 q => ?_)
  refine r_aload_n eX12_isNone_3 rfl ?_
  refine r_iload_n eX12_isNone_4 rfl ?_
  refine r_iconst (v := (1)) eX12_isNone_5 (by decide) ?_
  refine r_iadd eX12_isNone_6 ?_
  refine t_gaL eX12_isNone_7 q (fun v7 q => ?_)
  refine r_lor eX12_isNone_8 ?_
  refine r_aload_n eX12_isNone_9 rfl ?_
  refine r_iload_n eX12_isNone_10 rfl ?_
  refine r_iconst (v := (2)) eX12_isNone_11 (by decide) ?_
  refine r_iadd eX12_isNone_12 ?_
  refine t_gaL eX12_isNone_13 q (fun v13 q => ?_)
  refine r_lor eX12_isNone_14 ?_
  refine r_aload_n eX12_isNone_15 rfl ?_
  refine r_iload_n eX12_isNone_16 rfl ?_
  refine r_iconst (v := (3)) eX12_isNone_17 (by decide) ?_
  refine r_iadd eX12_isNone_18 ?_
  refine t_gaL eX12_isNone_19 q (fun v19 q => ?_)
  refine r_lor eX12_isNone_20 ?_
  refine r_lconst (v := 0) eX12_isNone_21 rfl ?_
  refine t_lc_ne eX12_isNone_22 eX12_isNone_23 (t := 30) (by decide) q (fun q => ?_) (fun q => ?_)
  · refine r_iconst (v := (0)) eX12_isNone_30 (by decide) ?_
    exact t_rtZ eX12_isNone_31 rfl q
  refine r_iconst (v := (1)) eX12_isNone_26 (by decide) ?_
  refine r_goto (t := 31) eX12_isNone_27 (by decide) ?_
  exact t_rtZ eX12_isNone_31 rfl q
