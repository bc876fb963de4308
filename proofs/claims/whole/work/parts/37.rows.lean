theorem sL_X12_hangs_55 {E : Ev} {d kc ks : Nat} {Φ : Ou → Hp → Prop} {y0 : Nat} {y1 : Int32} {y2 : Int32} {y3 : Int32} {y4 : Int32} {y5 : Int32}  : ∀ (g : Nat) (y6 : Int32) (y7 : Int32) (h : Hp), OK (L_X12_hangs_55 E y0 y1 y2 y3 y4 y5 g y6 y7 h) Φ → WE E mX12_hangs (d + 9) 55 [some (.ref y0), some (.int y1), some (.int y2), some (.int y3), some (.int y4), some (.int y5), some (.int y6), some (.int y7)] [] h kc ks Φ := by
  intro g
  induction g with
  | zero => intro y6 y7 h q; exact q.elim
  | succ g ih =>
    intro y6 y7 h q
    refine r_iload eX12_hangs_55 rfl ?_
    refine r_iconst (v := (4)) eX12_hangs_57 (by decide) ?_
    refine r_aload_n eX12_hangs_58 rfl ?_
    refine t_gfR eX12_hangs_59 f_12_9 q (fun v59 q => ?_)
    refine r_iconst (v := (1)) eX12_hangs_62 (by decide) ?_
    refine t_gaI eX12_hangs_63 q (fun v63 q => ?_)
    refine r_imul eX12_hangs_64 ?_
    refine t_icmp_ge eX12_hangs_65 (t := 122) (by decide) q (fun q => ?_) (fun q => ?_)
    · refine r_iload eX12_hangs_122 rfl ?_
      exact t_rtI eX12_hangs_124 rfl q
    refine r_iload eX12_hangs_68 rfl ?_
    refine r_aload_n eX12_hangs_70 rfl ?_
    refine r_iload eX12_hangs_71 rfl ?_
    refine t_virtI (As := [_]) (rest := [_]) (d' := d + 6 + 2) (ci := 12) eX12_hangs_73 k_12_143 rfl rfl rfl (by omega) (Nat.le_of_ble_eq_true rfl) (Nat.le_of_ble_eq_true rfl) (fun _ q => s_X12_placeOf q) q (fun v73 h73 q => ?_)
    refine r_iload_n eX12_hangs_76 rfl ?_
    refine t_icmp_ne eX12_hangs_77 (t := 112) (by decide) q (fun q => ?_) (fun q => ?_)
    · refine r_iconst (v := (0)) eX12_hangs_112 (by decide) ?_
      refine r_iadd eX12_hangs_113 ?_
      refine r_istore (lv' := [_, _, _, _, _, _, _, _]) eX12_hangs_114 (Nat.le_of_ble_eq_true rfl) rfl ?_
      refine r_iinc (v := (2)) (lv' := [_, _, _, _, _, _, _, _]) eX12_hangs_116 rfl (by decide) rfl ?_
      refine r_goto (t := 55) eX12_hangs_119 (by decide) ?_
      exact ih _ _ _ q
    refine r_aload_n eX12_hangs_80 rfl ?_
    refine r_iload eX12_hangs_81 rfl ?_
    refine r_iconst (v := (4)) eX12_hangs_83 (by decide) ?_
    refine t_dvI eX12_hangs_84 q (fun v84 q => ?_)
    refine r_iload eX12_hangs_85 rfl ?_
    refine t_virtI (As := [_, _]) (rest := [_]) (d' := d + 7 + 1) (ci := 12) eX12_hangs_87 k_12_146 rfl rfl rfl (by omega) (Nat.le_of_ble_eq_true rfl) (Nat.le_of_ble_eq_true rfl) (fun _ q => s_X12_isThere q) q (fun v87 h87 q => ?_)
    refine t_if_eq eX12_hangs_90 (t := 112) (by decide) q (fun q => ?_) (fun q => ?_)
    · refine r_iconst (v := (0)) eX12_hangs_112 (by decide) ?_
      refine r_iadd eX12_hangs_113 ?_
      refine r_istore (lv' := [_, _, _, _, _, _, _, _]) eX12_hangs_114 (Nat.le_of_ble_eq_true rfl) rfl ?_
      refine r_iinc (v := (2)) (lv' := [_, _, _, _, _, _, _, _]) eX12_hangs_116 rfl (by decide) rfl ?_
      refine r_goto (t := 55) eX12_hangs_119 (by decide) ?_
      exact ih _ _ _ q
    refine r_aload_n eX12_hangs_93 rfl ?_
    refine r_iload_n eX12_hangs_94 rfl ?_
    refine r_iload_n eX12_hangs_95 rfl ?_
    refine r_iload eX12_hangs_96 rfl ?_
    refine r_iload eX12_hangs_98 rfl ?_
    refine t_virtI (As := [_, _, _, _]) (rest := [_]) (d' := d + 0 + 8) (ci := 12) eX12_hangs_100 k_12_444 rfl rfl rfl (by omega) (Nat.le_of_ble_eq_true rfl) (Nat.le_of_ble_eq_true rfl) (fun _ q => s_X12_isRight q) q (fun v100 h100 q => ?_)
    refine r_iload eX12_hangs_103 rfl ?_
    refine t_icmp_ne eX12_hangs_105 (t := 112) (by decide) q (fun q => ?_) (fun q => ?_)
    · refine r_iconst (v := (0)) eX12_hangs_112 (by decide) ?_
      refine r_iadd eX12_hangs_113 ?_
      refine r_istore (lv' := [_, _, _, _, _, _, _, _]) eX12_hangs_114 (Nat.le_of_ble_eq_true rfl) rfl ?_
      refine r_iinc (v := (2)) (lv' := [_, _, _, _, _, _, _, _]) eX12_hangs_116 rfl (by decide) rfl ?_
      refine r_goto (t := 55) eX12_hangs_119 (by decide) ?_
      exact ih _ _ _ q
    refine r_iconst (v := (1)) eX12_hangs_108 (by decide) ?_
    refine r_goto (t := 113) eX12_hangs_109 (by decide) ?_
    refine r_iadd eX12_hangs_113 ?_
    refine r_istore (lv' := [_, _, _, _, _, _, _, _]) eX12_hangs_114 (Nat.le_of_ble_eq_true rfl) rfl ?_
    refine r_iinc (v := (2)) (lv' := [_, _, _, _, _, _, _, _]) eX12_hangs_116 rfl (by decide) rfl ?_
    refine r_goto (t := 55) eX12_hangs_119 (by decide) ?_
    exact ih _ _ _ q
theorem s_X12_hangs {E : Ev} {d : Nat} {a0 : Nat} {x1 : Int32} {x2 : Int32} {x3 : Int32} {x4 : Int32} {x5 : Int32} {h : Hp} {Φ : Ou → Hp → Prop} (q : OK (F_X12_hangs E a0 x1 x2 x3 x4 x5 h) Φ) : CE E mX12_hangs (d + 9) [.ref a0, .int x1, .int x2, .int x3, .int x4, .int x5] h 0 0 Φ := by
  show WE E mX12_hangs (d + 9) 0 [some (.ref a0), some (.int x1), some (.int x2), some (.int x3), some (.int x4), some (.int x5), none, none] [] h 0 0 Φ
  refine r_aload_n eX12_hangs_0 rfl ?_
  refine r_iconst (v := (0)) eX12_hangs_1 (by decide) ?_
  refine t_pf eX12_hangs_2 p_12_97 rfl rfl (fun q => by cases q) q (fun h2 q => ?_)
  refine r_aload_n eX12_hangs_5 rfl ?_
  refine r_iload_n eX12_hangs_6 rfl ?_
  refine t_virtI (As := [_]) (rest := []) (d' := d + 6 + 2) (ci := 12) eX12_hangs_7 k_12_371 rfl rfl rfl (by omega) (Nat.le_of_ble_eq_true rfl) (Nat.le_of_ble_eq_true rfl) (fun _ q => s_X12_isTelling q) q (fun v7 h7 q => ?_)
  refine t_if_eq eX12_hangs_10 (t := 29) (by decide) q (fun q => ?_) (fun q => ?_)
  · refine r_aload_n eX12_hangs_29 rfl ?_
    refine r_iconst (v := (1)) eX12_hangs_30 (by decide) ?_
    refine t_virtI (As := [_]) (rest := []) (d' := d + 8 + 0) (ci := 12) eX12_hangs_31 k_12_114 rfl rfl rfl (by omega) (Nat.le_of_ble_eq_true rfl) (Nat.le_of_ble_eq_true rfl) (fun _ q => s_X12_fails q) q (fun v31 h31 q => ?_)
    exact t_rtI eX12_hangs_34 rfl q
  refine r_aload_n eX12_hangs_13 rfl ?_
  refine r_iload_n eX12_hangs_14 rfl ?_
  refine t_virtI (As := [_]) (rest := []) (d' := d + 6 + 2) (ci := 12) eX12_hangs_15 k_12_222 rfl rfl rfl (by omega) (Nat.le_of_ble_eq_true rfl) (Nat.le_of_ble_eq_true rfl) (fun _ q => s_X12_isWalker q) q (fun v15 h15 q => ?_)
  refine t_if_eq eX12_hangs_18 (t := 29) (by decide) q (fun q => ?_) (fun q => ?_)
  · refine r_aload_n eX12_hangs_29 rfl ?_
    refine r_iconst (v := (1)) eX12_hangs_30 (by decide) ?_
    refine t_virtI (As := [_]) (rest := []) (d' := d + 8 + 0) (ci := 12) eX12_hangs_31 k_12_114 rfl rfl rfl (by omega) (Nat.le_of_ble_eq_true rfl) (Nat.le_of_ble_eq_true rfl) (fun _ q => s_X12_fails q) q (fun v31 h31 q => ?_)
    exact t_rtI eX12_hangs_34 rfl q
  refine r_aload_n eX12_hangs_21 rfl ?_
  refine r_iload_n eX12_hangs_22 rfl ?_
  refine t_virtI (As := [_]) (rest := []) (d' := d + 6 + 2) (ci := 12) eX12_hangs_23 k_12_121 rfl rfl rfl (by omega) (Nat.le_of_ble_eq_true rfl) (Nat.le_of_ble_eq_true rfl) (fun _ q => s_X12_isPlace q) q (fun v23 h23 q => ?_)
  refine t_if_ne eX12_hangs_26 (t := 35) (by decide) q (fun q => ?_) (fun q => ?_)
  · refine r_iload eX12_hangs_35 rfl ?_
    refine t_statI (As := [_]) (rest := []) (d' := d + 7 + 1) eX12_hangs_37 k_12_127 rfl (by omega) (Nat.le_of_ble_eq_true rfl) (Nat.le_of_ble_eq_true rfl) (fun _ q => s_X12_isYear q) q (fun v37 h37 q => ?_)
    refine t_if_ne eX12_hangs_40 (t := 49) (by decide) q (fun q => ?_) (fun q => ?_)
    · refine r_iconst (v := (0)) eX12_hangs_49 (by decide) ?_
      refine r_istore (lv' := [_, _, _, _, _, _, _, _]) eX12_hangs_50 (Nat.le_of_ble_eq_true rfl) rfl ?_
      refine r_iconst (v := (1)) eX12_hangs_52 (by decide) ?_
      refine r_istore (lv' := [_, _, _, _, _, _, _, _]) eX12_hangs_53 (Nat.le_of_ble_eq_true rfl) rfl ?_
      exact sL_X12_hangs_55  _ _ _ _ q
    refine r_aload_n eX12_hangs_43 rfl ?_
    refine r_iconst (v := (2)) eX12_hangs_44 (by decide) ?_
    refine t_virtI (As := [_]) (rest := []) (d' := d + 8 + 0) (ci := 12) eX12_hangs_45 k_12_114 rfl rfl rfl (by omega) (Nat.le_of_ble_eq_true rfl) (Nat.le_of_ble_eq_true rfl) (fun _ q => s_X12_fails q) q (fun v45 h45 q => ?_)
    exact t_rtI eX12_hangs_48 rfl q
  refine r_aload_n eX12_hangs_29 rfl ?_
  refine r_iconst (v := (1)) eX12_hangs_30 (by decide) ?_
  refine t_virtI (As := [_]) (rest := []) (d' := d + 8 + 0) (ci := 12) eX12_hangs_31 k_12_114 rfl rfl rfl (by omega) (Nat.le_of_ble_eq_true rfl) (Nat.le_of_ble_eq_true rfl) (fun _ q => s_X12_fails q) q (fun v31 h31 q => ?_)
  exact t_rtI eX12_hangs_34 rfl q
theorem sL_X12_years_52 {E : Ev} {d kc ks : Nat} {Φ : Ou → Hp → Prop} {y0 : Nat} {y1 : Int32} {y2 : Int32} {y3 : Int32} {y4 : Int32} {K103 : Int32 → Int32 → Int32 → Hp → Rs} (hK103 : ∀ (w5 : Int32) (w6 : Int32) (w7 : Int32) (w8 : Int32) (h : Hp), OK (K103 w5 w6 w7 h) Φ → WE E mX12_years (d + 9) 103 [some (.ref y0), some (.int y1), some (.int y2), some (.int y3), some (.int y4), some (.int w5), some (.int w6), some (.int w7), some (.int w8)] [] h kc ks Φ) : ∀ (g : Nat) (y5 : Int32) (y6 : Int32) (y7 : Int32) (y8 : Int32) (h : Hp), OK (L_X12_years_52 E K103 y0 y1 y2 y3 g y5 y6 y7 y8 h) Φ → WE E mX12_years (d + 9) 52 [some (.ref y0), some (.int y1), some (.int y2), some (.int y3), some (.int y4), some (.int y5), some (.int y6), some (.int y7), some (.int y8)] [] h kc ks Φ := by
  intro g
  induction g with
  | zero => intro y5 y6 y7 y8 h q; exact q.elim
  | succ g ih =>
    intro y5 y6 y7 y8 h q
    refine r_iload eX12_years_52 rfl ?_
    refine r_sipush (v := (200)) eX12_years_54 (by decide) ?_
    refine t_icmp_gt eX12_years_57 (t := 103) (by decide) q (fun q => ?_) (fun q => ?_)
    · exact hK103 _ _ _ _ _ q
    refine r_aload_n eX12_years_60 rfl ?_
    refine r_iload_n eX12_years_61 rfl ?_
    refine r_iload_n eX12_years_62 rfl ?_
    refine r_iload_n eX12_years_63 rfl ?_
    refine r_iload eX12_years_64 rfl ?_
    refine t_virtI (As := [_, _, _, _]) (rest := []) (d' := d + 0 + 8) (ci := 12) eX12_years_66 k_12_444 rfl rfl rfl (by omega) (Nat.le_of_ble_eq_true rfl) (Nat.le_of_ble_eq_true rfl) (fun _ q => s_X12_isRight q) q (fun v66 h66 q => ?_)
    refine t_if_ne eX12_years_69 (t := 75) (by decide) q (fun q => ?_) (fun q => ?_)
    · refine r_iinc (v := (1)) (lv' := [_, _, _, _, _, _, _, _, _]) eX12_years_75 rfl (by decide) rfl ?_
      refine r_iload eX12_years_78 rfl ?_
      refine r_iconst (v := (-1)) eX12_years_80 (by decide) ?_
      refine t_icmp_ne eX12_years_81 (t := 89) (by decide) q (fun q => ?_) (fun q => ?_)
      · refine r_iload eX12_years_89 rfl ?_
        refine r_istore (lv' := [_, _, _, _, _, _, _, _, _]) eX12_years_91 (Nat.le_of_ble_eq_true rfl) rfl ?_
        refine r_iload eX12_years_93 rfl ?_
        refine r_istore (lv' := [_, _, _, _, _, _, _, _, _]) eX12_years_95 (Nat.le_of_ble_eq_true rfl) rfl ?_
        refine r_iinc (v := (1)) (lv' := [_, _, _, _, _, _, _, _, _]) eX12_years_97 rfl (by decide) rfl ?_
        refine r_goto (t := 52) eX12_years_100 (by decide) ?_
        exact ih _ _ _ _ _ q
      refine r_iload eX12_years_84 rfl ?_
      refine r_goto (t := 91) eX12_years_86 (by decide) ?_
      refine r_istore (lv' := [_, _, _, _, _, _, _, _, _]) eX12_years_91 (Nat.le_of_ble_eq_true rfl) rfl ?_
      refine r_iload eX12_years_93 rfl ?_
      refine r_istore (lv' := [_, _, _, _, _, _, _, _, _]) eX12_years_95 (Nat.le_of_ble_eq_true rfl) rfl ?_
      refine r_iinc (v := (1)) (lv' := [_, _, _, _, _, _, _, _, _]) eX12_years_97 rfl (by decide) rfl ?_
      refine r_goto (t := 52) eX12_years_100 (by decide) ?_
      exact ih _ _ _ _ _ q
    refine r_goto (t := 97) eX12_years_72 (by decide) ?_
    refine r_iinc (v := (1)) (lv' := [_, _, _, _, _, _, _, _, _]) eX12_years_97 rfl (by decide) rfl ?_
    refine r_goto (t := 52) eX12_years_100 (by decide) ?_
    exact ih _ _ _ _ _ q
theorem s_X12_years {E : Ev} {d : Nat} {a0 : Nat} {x1 : Int32} {x2 : Int32} {x3 : Int32} {x4 : Int32} {h : Hp} {Φ : Ou → Hp → Prop} (q : OK (F_X12_years E a0 x1 x2 x3 x4 h) Φ) : CE E mX12_years (d + 9) [.ref a0, .int x1, .int x2, .int x3, .int x4] h 0 0 Φ := by
  show WE E mX12_years (d + 9) 0 [some (.ref a0), some (.int x1), some (.int x2), some (.int x3), some (.int x4), none, none, none, none] [] h 0 0 Φ
  refine r_aload_n eX12_years_0 rfl ?_
  refine r_iconst (v := (0)) eX12_years_1 (by decide) ?_
  refine t_pf eX12_years_2 p_12_97 rfl rfl (fun q => by cases q) q (fun h2 q => ?_)
  refine r_aload_n eX12_years_5 rfl ?_
  refine r_iload_n eX12_years_6 rfl ?_
  refine r_iload_n eX12_years_7 rfl ?_
  refine r_iload_n eX12_years_8 rfl ?_
  refine t_virtI (As := [_, _, _]) (rest := []) (d' := d + 5 + 3) (ci := 12) eX12_years_9 k_12_441 rfl rfl rfl (by omega) (Nat.le_of_ble_eq_true rfl) (Nat.le_of_ble_eq_true rfl) (fun _ q => s_X12_areThere q) q (fun v9 h9 q => ?_)
  refine t_if_ne eX12_years_12 (t := 21) (by decide) q (fun q => ?_) (fun q => ?_)
  · refine r_iload eX12_years_21 rfl ?_
    refine r_i2l eX12_years_23 ?_
    refine r_lconst (v := 0) eX12_years_24 rfl ?_
    refine r_ldc2 eX12_years_25 g_12_125 ?_
    refine t_statI (As := [_, _, _]) (rest := []) (d' := d + 8 + 0) eX12_years_28 k_12_102 rfl (by omega) (Nat.le_of_ble_eq_true rfl) (Nat.le_of_ble_eq_true rfl) (fun _ q => s_X12_within q) q (fun v28 h28 q => ?_)
    refine t_if_ne eX12_years_31 (t := 40) (by decide) q (fun q => ?_) (fun q => ?_)
    · refine r_iconst (v := (0)) eX12_years_40 (by decide) ?_
      refine r_istore (lv' := [_, _, _, _, _, _, _, _, _]) eX12_years_41 (Nat.le_of_ble_eq_true rfl) rfl ?_
      refine r_iconst (v := (-1)) eX12_years_43 (by decide) ?_
      refine r_istore (lv' := [_, _, _, _, _, _, _, _, _]) eX12_years_44 (Nat.le_of_ble_eq_true rfl) rfl ?_
      refine r_iconst (v := (-1)) eX12_years_46 (by decide) ?_
      refine r_istore (lv' := [_, _, _, _, _, _, _, _, _]) eX12_years_47 (Nat.le_of_ble_eq_true rfl) rfl ?_
      refine r_iconst (v := (0)) eX12_years_49 (by decide) ?_
      refine r_istore (lv' := [_, _, _, _, _, _, _, _, _]) eX12_years_50 (Nat.le_of_ble_eq_true rfl) rfl ?_
      refine sL_X12_years_52 (fun w1 w2 w3 w4 h5 q => ?_) _ _ _ _ _ _ q
      refine r_iload eX12_years_103 rfl ?_
      refine t_if_ne eX12_years_105 (t := 113) (by decide) q (fun q => ?_) (fun q => ?_)
      · refine r_iload eX12_years_113 rfl ?_
        refine r_iconst (v := (1)) eX12_years_115 (by decide) ?_
        refine t_icmp_ne eX12_years_116 (t := 124) (by decide) q (fun q => ?_) (fun q => ?_)
        · refine r_iload eX12_years_124 rfl ?_
          exact t_rtI eX12_years_126 rfl q
        refine r_iload eX12_years_119 rfl ?_
        refine r_goto (t := 126) eX12_years_121 (by decide) ?_
        exact t_rtI eX12_years_126 rfl q
      refine r_iload eX12_years_108 rfl ?_
      refine r_goto (t := 126) eX12_years_110 (by decide) ?_
      exact t_rtI eX12_years_126 rfl q
    refine r_aload_n eX12_years_34 rfl ?_
    refine r_iconst (v := (2)) eX12_years_35 (by decide) ?_
    refine t_virtI (As := [_]) (rest := []) (d' := d + 8 + 0) (ci := 12) eX12_years_36 k_12_114 rfl rfl rfl (by omega) (Nat.le_of_ble_eq_true rfl) (Nat.le_of_ble_eq_true rfl) (fun _ q => s_X12_fails q) q (fun v36 h36 q => ?_)
    exact t_rtI eX12_years_39 rfl q
  refine r_aload_n eX12_years_15 rfl ?_
  refine r_iconst (v := (1)) eX12_years_16 (by decide) ?_
  refine t_virtI (As := [_]) (rest := []) (d' := d + 8 + 0) (ci := 12) eX12_years_17 k_12_114 rfl rfl rfl (by omega) (Nat.le_of_ble_eq_true rfl) (Nat.le_of_ble_eq_true rfl) (fun _ q => s_X12_fails q) q (fun v17 h17 q => ?_)
  exact t_rtI eX12_years_20 rfl q
theorem sL_X12_two_125 {E : Ev} {d kc ks : Nat} {Φ : Ou → Hp → Prop} {y0 : Nat} {y1 : Int32} {y2 : Int32} {y3 : Int32} {y4 : Int32} {y5 : Int32} {y6 : Int32} {y7 : Int32} {y9 : Int32}  : ∀ (g : Nat) (y8 : Int32) (y10 : Int32) (h : Hp), OK (L_X12_two_125 E y0 g y8 y10 h) Φ → WE E mX12_two (d + 9) 125 [some (.ref y0), some (.int y1), some (.int y2), some (.int y3), some (.int y4), some (.int y5), some (.int y6), some (.int y7), some (.int y8), some (.int y9), some (.int y10)] [] h kc ks Φ := by
  intro g
  induction g with
  | zero => intro y8 y10 h q; exact q.elim
  | succ g ih =>
    intro y8 y10 h q
    refine r_iload eX12_two_125 rfl ?_
    refine r_bipush (v := (40)) eX12_two_127 (by decide) ?_
    refine t_icmp_ge eX12_two_129 (t := 168) (by decide) q (fun q => ?_) (fun q => ?_)
    · refine r_iload eX12_two_168 rfl ?_
      exact t_rtI eX12_two_170 rfl q
    refine r_iload eX12_two_132 rfl ?_
    refine r_aload_n eX12_two_134 rfl ?_
    refine t_gfR eX12_two_135 f_12_67 q (fun v135 q => ?_)
    refine r_iload eX12_two_138 rfl ?_
    refine t_gaZ eX12_two_140 q (fun v140 q => ?_)
    refine t_if_eq eX12_two_141 (t := 158) (by decide) q (fun q => ?_) (fun q => ?_)
    · refine r_iconst (v := (0)) eX12_two_158 (by decide) ?_
      refine r_iadd eX12_two_159 ?_
      refine r_istore (lv' := [_, _, _, _, _, _, _, _, _, _, _]) eX12_two_160 (Nat.le_of_ble_eq_true rfl) rfl ?_
      refine r_iinc (v := (1)) (lv' := [_, _, _, _, _, _, _, _, _, _, _]) eX12_two_162 rfl (by decide) rfl ?_
      refine r_goto (t := 125) eX12_two_165 (by decide) ?_
      exact ih _ _ _ q
    refine r_aload_n eX12_two_144 rfl ?_
    refine t_gfR eX12_two_145 f_12_70 q (fun v145 q => ?_)
    refine r_iload eX12_two_148 rfl ?_
    refine t_gaZ eX12_two_150 q (fun v150 q => ?_)
    refine t_if_eq eX12_two_151 (t := 158) (by decide) q (fun q => ?_) (fun q => ?_)
    · refine r_iconst (v := (0)) eX12_two_158 (by decide) ?_
      refine r_iadd eX12_two_159 ?_
      refine r_istore (lv' := [_, _, _, _, _, _, _, _, _, _, _]) eX12_two_160 (Nat.le_of_ble_eq_true rfl) rfl ?_
      refine r_iinc (v := (1)) (lv' := [_, _, _, _, _, _, _, _, _, _, _]) eX12_two_162 rfl (by decide) rfl ?_
      refine r_goto (t := 125) eX12_two_165 (by decide) ?_
      exact ih _ _ _ q
    refine r_iconst (v := (1)) eX12_two_154 (by decide) ?_
    refine r_goto (t := 159) eX12_two_155 (by decide) ?_
    refine r_iadd eX12_two_159 ?_
    refine r_istore (lv' := [_, _, _, _, _, _, _, _, _, _, _]) eX12_two_160 (Nat.le_of_ble_eq_true rfl) rfl ?_
    refine r_iinc (v := (1)) (lv' := [_, _, _, _, _, _, _, _, _, _, _]) eX12_two_162 rfl (by decide) rfl ?_
    refine r_goto (t := 125) eX12_two_165 (by decide) ?_
    exact ih _ _ _ q
theorem sL_X12_two_184 {E : Ev} {d kc ks : Nat} {Φ : Ou → Hp → Prop} {y0 : Nat} {y1 : Int32} {y2 : Int32} {y3 : Int32} {y4 : Int32} {y5 : Int32} {y6 : Int32} {y7 : Int32} {y8 : Int32} {K210 : Hp → Rs} (hK210 : ∀ (w9 : Int32) (h : Hp), OK (K210 h) Φ → WE E mX12_two (d + 9) 210 [some (.ref y0), some (.int y1), some (.int y2), some (.int y3), some (.int y4), some (.int y5), some (.int y6), some (.int y7), some (.int y8), some (.int w9), none] [] h kc ks Φ) : ∀ (g : Nat) (y9 : Int32) (h : Hp), OK (L_X12_two_184 E K210 y0 g y9 h) Φ → WE E mX12_two (d + 9) 184 [some (.ref y0), some (.int y1), some (.int y2), some (.int y3), some (.int y4), some (.int y5), some (.int y6), some (.int y7), some (.int y8), some (.int y9), none] [] h kc ks Φ := by
  intro g
  induction g with
  | zero => intro y9 h q; exact q.elim
  | succ g ih =>
    intro y9 h q
    refine r_iload eX12_two_184 rfl ?_
    refine r_bipush (v := (40)) eX12_two_186 (by decide) ?_
    refine t_icmp_ge eX12_two_188 (t := 210) (by decide) q (fun q => ?_) (fun q => ?_)
    · exact hK210 _ _ q
    refine r_aload_n eX12_two_191 rfl ?_
    refine t_gfR eX12_two_192 f_12_79 q (fun v192 q => ?_)
    refine r_iload eX12_two_195 rfl ?_
    refine r_aload_n eX12_two_197 rfl ?_
    refine r_iload eX12_two_198 rfl ?_
    refine t_virtI (As := [_]) (rest := [_, _]) (d' := d + 5 + 3) (ci := 12) eX12_two_200 k_12_458 rfl rfl rfl (by omega) (Nat.le_of_ble_eq_true rfl) (Nat.le_of_ble_eq_true rfl) (fun _ q => s_X12_shareAt q) q (fun v200 h200 q => ?_)
    refine t_paI eX12_two_203 q (fun h203 q => ?_)
    refine r_iinc (v := (1)) (lv' := [_, _, _, _, _, _, _, _, _, _, _]) eX12_two_204 rfl (by decide) rfl ?_
    refine r_goto (t := 184) eX12_two_207 (by decide) ?_
    exact ih _ _ q
theorem sL_X12_two_224 {E : Ev} {d kc ks : Nat} {Φ : Ou → Hp → Prop} {y0 : Nat} {y1 : Int32} {y2 : Int32} {y3 : Int32} {y4 : Int32} {y5 : Int32} {y6 : Int32} {y7 : Int32}  : ∀ (g : Nat) (y8 : Int32) (y9 : Int32) (h : Hp), OK (L_X12_two_224 E y0 g y8 y9 h) Φ → WE E mX12_two (d + 9) 224 [some (.ref y0), some (.int y1), some (.int y2), some (.int y3), some (.int y4), some (.int y5), some (.int y6), some (.int y7), some (.int y8), some (.int y9), none] [] h kc ks Φ := by
  intro g
  induction g with
  | zero => intro y8 y9 h q; exact q.elim
  | succ g ih =>
    intro y8 y9 h q
    refine r_iload eX12_two_224 rfl ?_
    refine r_bipush (v := (40)) eX12_two_226 (by decide) ?_
    refine t_icmp_ge eX12_two_228 (t := 263) (by decide) q (fun q => ?_) (fun q => ?_)
    · refine r_iload eX12_two_263 rfl ?_
      exact t_rtI eX12_two_265 rfl q
    refine r_iload eX12_two_231 rfl ?_
    refine r_aload_n eX12_two_233 rfl ?_
    refine t_gfR eX12_two_234 f_12_79 q (fun v234 q => ?_)
    refine r_iload eX12_two_237 rfl ?_
    refine t_gaI eX12_two_239 q (fun v239 q => ?_)
    refine r_i2l eX12_two_240 ?_
    refine r_aload_n eX12_two_241 rfl ?_
    refine r_iload eX12_two_242 rfl ?_
    refine t_virtI (As := [_]) (rest := [_, _]) (d' := d + 5 + 3) (ci := 12) eX12_two_244 k_12_458 rfl rfl rfl (by omega) (Nat.le_of_ble_eq_true rfl) (Nat.le_of_ble_eq_true rfl) (fun _ q => s_X12_shareAt q) q (fun v244 h244 q => ?_)
    refine r_i2l eX12_two_247 ?_
    refine r_lmul eX12_two_248 ?_
    refine r_ldc2 eX12_two_249 g_12_461 ?_
    refine t_dvL eX12_two_252 q (fun v252 q => ?_)
    refine r_l2i eX12_two_253 ?_
    refine r_iadd eX12_two_254 ?_
    refine r_istore (lv' := [_, _, _, _, _, _, _, _, _, _, _]) eX12_two_255 (Nat.le_of_ble_eq_true rfl) rfl ?_
    refine r_iinc (v := (1)) (lv' := [_, _, _, _, _, _, _, _, _, _, _]) eX12_two_257 rfl (by decide) rfl ?_
    refine r_goto (t := 224) eX12_two_260 (by decide) ?_
    exact ih _ _ _ q
theorem s_X12_two {E : Ev} {d : Nat} {a0 : Nat} {x1 : Int32} {x2 : Int32} {x3 : Int32} {x4 : Int32} {x5 : Int32} {x6 : Int32} {x7 : Int32} {h : Hp} {Φ : Ou → Hp → Prop} (q : OK (F_X12_two E a0 x1 x2 x3 x4 x5 x6 x7 h) Φ) : CE E mX12_two (d + 9) [.ref a0, .int x1, .int x2, .int x3, .int x4, .int x5, .int x6, .int x7] h 0 0 Φ := by
  show WE E mX12_two (d + 9) 0 [some (.ref a0), some (.int x1), some (.int x2), some (.int x3), some (.int x4), some (.int x5), some (.int x6), some (.int x7), none, none, none] [] h 0 0 Φ
  refine r_aload_n eX12_two_0 rfl ?_
  refine r_iconst (v := (0)) eX12_two_1 (by decide) ?_
  refine t_pf eX12_two_2 p_12_97 rfl rfl (fun q => by cases q) q (fun h2 q => ?_)
  refine r_aload_n eX12_two_5 rfl ?_
  refine r_iload_n eX12_two_6 rfl ?_
  refine r_iload eX12_two_7 rfl ?_
  refine r_iload_n eX12_two_9 rfl ?_
  refine t_virtI (As := [_, _, _]) (rest := []) (d' := d + 5 + 3) (ci := 12) eX12_two_10 k_12_441 rfl rfl rfl (by omega) (Nat.le_of_ble_eq_true rfl) (Nat.le_of_ble_eq_true rfl) (fun _ q => s_X12_areThere q) q (fun v10 h10 q => ?_)
  refine t_if_eq eX12_two_13 (t := 28) (by decide) q (fun q => ?_) (fun q => ?_)
  · refine r_aload_n eX12_two_28 rfl ?_
    refine r_iconst (v := (1)) eX12_two_29 (by decide) ?_
    refine t_virtI (As := [_]) (rest := []) (d' := d + 8 + 0) (ci := 12) eX12_two_30 k_12_114 rfl rfl rfl (by omega) (Nat.le_of_ble_eq_true rfl) (Nat.le_of_ble_eq_true rfl) (fun _ q => s_X12_fails q) q (fun v30 h30 q => ?_)
    exact t_rtI eX12_two_33 rfl q
  refine r_aload_n eX12_two_16 rfl ?_
  refine r_iload_n eX12_two_17 rfl ?_
  refine r_iload eX12_two_18 rfl ?_
  refine r_iload eX12_two_20 rfl ?_
  refine t_virtI (As := [_, _, _]) (rest := []) (d' := d + 5 + 3) (ci := 12) eX12_two_22 k_12_441 rfl rfl rfl (by omega) (Nat.le_of_ble_eq_true rfl) (Nat.le_of_ble_eq_true rfl) (fun _ q => s_X12_areThere q) q (fun v22 h22 q => ?_)
  refine t_if_ne eX12_two_25 (t := 34) (by decide) q (fun q => ?_) (fun q => ?_)
  · refine r_iload eX12_two_34 rfl ?_
    refine t_statI (As := [_]) (rest := []) (d' := d + 7 + 1) eX12_two_36 k_12_127 rfl (by omega) (Nat.le_of_ble_eq_true rfl) (Nat.le_of_ble_eq_true rfl) (fun _ q => s_X12_isYear q) q (fun v36 h36 q => ?_)
    refine t_if_eq eX12_two_39 (t := 53) (by decide) q (fun q => ?_) (fun q => ?_)
    · refine r_aload_n eX12_two_53 rfl ?_
      refine r_iconst (v := (2)) eX12_two_54 (by decide) ?_
      refine t_virtI (As := [_]) (rest := []) (d' := d + 8 + 0) (ci := 12) eX12_two_55 k_12_114 rfl rfl rfl (by omega) (Nat.le_of_ble_eq_true rfl) (Nat.le_of_ble_eq_true rfl) (fun _ q => s_X12_fails q) q (fun v55 h55 q => ?_)
      exact t_rtI eX12_two_58 rfl q
    refine r_iload eX12_two_42 rfl ?_
    refine r_i2l eX12_two_44 ?_
    refine r_lconst (v := 0) eX12_two_45 rfl ?_
    refine r_lconst (v := 1) eX12_two_46 rfl ?_
    refine t_statI (As := [_, _, _]) (rest := []) (d' := d + 8 + 0) eX12_two_47 k_12_102 rfl (by omega) (Nat.le_of_ble_eq_true rfl) (Nat.le_of_ble_eq_true rfl) (fun _ q => s_X12_within q) q (fun v47 h47 q => ?_)
    refine t_if_ne eX12_two_50 (t := 59) (by decide) q (fun q => ?_) (fun q => ?_)
    · refine r_iconst (v := (0)) eX12_two_59 (by decide) ?_
      refine r_istore (lv' := [_, _, _, _, _, _, _, _, _, _, _]) eX12_two_60 (Nat.le_of_ble_eq_true rfl) rfl ?_
      refine r_iload eX12_two_62 rfl ?_
      refine t_if_ne eX12_two_64 (t := 171) (by decide) q (fun q => ?_) (fun q => ?_)
      · refine r_aload_n eX12_two_171 rfl ?_
        refine r_iload_n eX12_two_172 rfl ?_
        refine r_iload eX12_two_173 rfl ?_
        refine r_iload_n eX12_two_175 rfl ?_
        refine r_iload eX12_two_176 rfl ?_
        refine t_virtV (As := [_, _, _, _]) (rest := []) (d' := d + 0 + 8) (ci := 12) eX12_two_178 k_12_455 rfl rfl rfl (by omega) (Nat.le_of_ble_eq_true rfl) (Nat.le_of_ble_eq_true rfl) (fun _ q => s_X12_oddsFrom q) q (fun h178 q => ?_)
        refine r_iconst (v := (0)) eX12_two_181 (by decide) ?_
        refine r_istore (lv' := [_, _, _, _, _, _, _, _, _, _, _]) eX12_two_182 (Nat.le_of_ble_eq_true rfl) rfl ?_
        refine sL_X12_two_184 (fun w1 h2 q => ?_) _ _ _ q
        refine r_aload_n eX12_two_210 rfl ?_
        refine r_iload_n eX12_two_211 rfl ?_
        refine r_iload eX12_two_212 rfl ?_
        refine r_iload eX12_two_214 rfl ?_
        refine r_iload eX12_two_216 rfl ?_
        refine t_virtV (As := [_, _, _, _]) (rest := []) (d' := d + 0 + 8) (ci := 12) eX12_two_218 k_12_455 rfl rfl rfl (by omega) (Nat.le_of_ble_eq_true rfl) (Nat.le_of_ble_eq_true rfl) (fun _ q => s_X12_oddsFrom q) q (fun h218 q => ?_)
        refine r_iconst (v := (0)) eX12_two_221 (by decide) ?_
        refine r_istore (lv' := [_, _, _, _, _, _, _, _, _, _, _]) eX12_two_222 (Nat.le_of_ble_eq_true rfl) rfl ?_
        exact sL_X12_two_224  _ _ _ _ q
      refine r_aload_n eX12_two_67 rfl ?_
      refine r_iload_n eX12_two_68 rfl ?_
      refine r_iload eX12_two_69 rfl ?_
      refine r_iload_n eX12_two_71 rfl ?_
      refine r_iload eX12_two_72 rfl ?_
      refine r_aload_n eX12_two_74 rfl ?_
      refine r_iload_n eX12_two_75 rfl ?_
      refine t_virtI (As := [_]) (rest := [_, _, _, _, _]) (d' := d + 8 + 0) (ci := 12) eX12_two_76 k_12_374 rfl rfl rfl (by omega) (Nat.le_of_ble_eq_true rfl) (Nat.le_of_ble_eq_true rfl) (fun _ q => s_X12_sayingsOf q) q (fun v76 h76 q => ?_)
      refine t_virtI (As := [_, _, _, _, _]) (rest := []) (d' := d + 1 + 7) (ci := 12) eX12_two_79 k_12_430 rfl rfl rfl (by omega) (Nat.le_of_ble_eq_true rfl) (Nat.le_of_ble_eq_true rfl) (fun _ q => s_X12_goes q) q (fun v79 h79 q => ?_)
      refine r_istore (lv' := [_, _, _, _, _, _, _, _, _, _, _]) eX12_two_82 (Nat.le_of_ble_eq_true rfl) rfl ?_
      refine r_aload_n eX12_two_84 rfl ?_
      refine r_aload_n eX12_two_85 rfl ?_
      refine t_gfR eX12_two_86 f_12_67 q (fun v86 q => ?_)
      refine t_virtI (As := [_]) (rest := []) (d' := d + 5 + 3) (ci := 12) eX12_two_89 k_12_434 rfl rfl rfl (by omega) (Nat.le_of_ble_eq_true rfl) (Nat.le_of_ble_eq_true rfl) (fun _ q => s_X12_placesOf q) q (fun v89 h89 q => ?_)
      refine r_istore (lv' := [_, _, _, _, _, _, _, _, _, _, _]) eX12_two_92 (Nat.le_of_ble_eq_true rfl) rfl ?_
      refine r_aload_n eX12_two_94 rfl ?_
      refine r_iload_n eX12_two_95 rfl ?_
      refine r_iload eX12_two_96 rfl ?_
      refine r_iload eX12_two_98 rfl ?_
      refine r_iload eX12_two_100 rfl ?_
      refine r_aload_n eX12_two_102 rfl ?_
      refine r_iload_n eX12_two_103 rfl ?_
      refine t_virtI (As := [_]) (rest := [_, _, _, _, _]) (d' := d + 8 + 0) (ci := 12) eX12_two_104 k_12_374 rfl rfl rfl (by omega) (Nat.le_of_ble_eq_true rfl) (Nat.le_of_ble_eq_true rfl) (fun _ q => s_X12_sayingsOf q) q (fun v104 h104 q => ?_)
      refine t_virtI (As := [_, _, _, _, _]) (rest := []) (d' := d + 1 + 7) (ci := 12) eX12_two_107 k_12_430 rfl rfl rfl (by omega) (Nat.le_of_ble_eq_true rfl) (Nat.le_of_ble_eq_true rfl) (fun _ q => s_X12_goes q) q (fun v107 h107 q => ?_)
      refine r_istore (lv' := [_, _, _, _, _, _, _, _, _, _, _]) eX12_two_110 (Nat.le_of_ble_eq_true rfl) rfl ?_
      refine r_aload_n eX12_two_112 rfl ?_
      refine r_aload_n eX12_two_113 rfl ?_
      refine t_gfR eX12_two_114 f_12_70 q (fun v114 q => ?_)
      refine t_virtI (As := [_]) (rest := []) (d' := d + 5 + 3) (ci := 12) eX12_two_117 k_12_434 rfl rfl rfl (by omega) (Nat.le_of_ble_eq_true rfl) (Nat.le_of_ble_eq_true rfl) (fun _ q => s_X12_placesOf q) q (fun v117 h117 q => ?_)
      refine r_istore (lv' := [_, _, _, _, _, _, _, _, _, _, _]) eX12_two_120 (Nat.le_of_ble_eq_true rfl) rfl ?_
      refine r_iconst (v := (0)) eX12_two_122 (by decide) ?_
      refine r_istore (lv' := [_, _, _, _, _, _, _, _, _, _, _]) eX12_two_123 (Nat.le_of_ble_eq_true rfl) rfl ?_
      exact sL_X12_two_125  _ _ _ _ q
    refine r_aload_n eX12_two_53 rfl ?_
    refine r_iconst (v := (2)) eX12_two_54 (by decide) ?_
    refine t_virtI (As := [_]) (rest := []) (d' := d + 8 + 0) (ci := 12) eX12_two_55 k_12_114 rfl rfl rfl (by omega) (Nat.le_of_ble_eq_true rfl) (Nat.le_of_ble_eq_true rfl) (fun _ q => s_X12_fails q) q (fun v55 h55 q => ?_)
    exact t_rtI eX12_two_58 rfl q
  refine r_aload_n eX12_two_28 rfl ?_
  refine r_iconst (v := (1)) eX12_two_29 (by decide) ?_
  refine t_virtI (As := [_]) (rest := []) (d' := d + 8 + 0) (ci := 12) eX12_two_30 k_12_114 rfl rfl rfl (by omega) (Nat.le_of_ble_eq_true rfl) (Nat.le_of_ble_eq_true rfl) (fun _ q => s_X12_fails q) q (fun v30 h30 q => ?_)
  exact t_rtI eX12_two_33 rfl q
theorem sL_X12_ask_121 {E : Ev} {d kc ks : Nat} {Φ : Ou → Hp → Prop} {y0 : Nat} {y1 : Int32} {y2 : Int32} {y3 : Int32} {y4 : Int32} {y5 : Int32} {y6 : Int32} {y7 : Int32} {y8 : Int32} {y9 : Int32} {y10 : Int32} {K143 : Hp → Rs} (hK143 : ∀ (w11 : Int32) (h : Hp), OK (K143 h) Φ → WE E mX12_ask (d + 9) 143 [some (.ref y0), some (.int y1), some (.int y2), some (.int y3), some (.int y4), some (.int y5), some (.int y6), some (.int y7), some (.int y8), some (.int y9), some (.int y10), some (.int w11)] [] h kc ks Φ) : ∀ (g : Nat) (y11 : Int32) (h : Hp), OK (L_X12_ask_121 E K143 y0 g y11 h) Φ → WE E mX12_ask (d + 9) 121 [some (.ref y0), some (.int y1), some (.int y2), some (.int y3), some (.int y4), some (.int y5), some (.int y6), some (.int y7), some (.int y8), some (.int y9), some (.int y10), some (.int y11)] [] h kc ks Φ := by
  intro g
  induction g with
  | zero => intro y11 h q; exact q.elim
  | succ g ih =>
    intro y11 h q
    refine r_iload eX12_ask_121 rfl ?_
    refine r_sipush (v := (240)) eX12_ask_123 (by decide) ?_
    refine t_icmp_ge eX12_ask_126 (t := 143) (by decide) q (fun q => ?_) (fun q => ?_)
    · exact hK143 _ _ q
    refine r_aload_n eX12_ask_129 rfl ?_
    refine t_gfR eX12_ask_130 f_12_73 q (fun v130 q => ?_)
    refine r_iload eX12_ask_133 rfl ?_
    refine r_iconst (v := (0)) eX12_ask_135 (by decide) ?_
    refine t_paI eX12_ask_136 q (fun h136 q => ?_)
    refine r_iinc (v := (1)) (lv' := [_, _, _, _, _, _, _, _, _, _, _, _]) eX12_ask_137 rfl (by decide) rfl ?_
    refine r_goto (t := 121) eX12_ask_140 (by decide) ?_
    exact ih _ _ q
theorem sL_X12_ask_88 {E : Ev} {d kc ks : Nat} {Φ : Ou → Hp → Prop} {y0 : Nat} {y1 : Int32} {y2 : Int32} {y3 : Int32} {y4 : Int32} {y5 : Int32} {y6 : Int32} {y7 : Int32}  : ∀ (g : Nat) (y8 : Int32) (y9 : Int32) (y10 : Int32) (y11 : Option Value) (h : Hp), OK (L_X12_ask_88 E y0 y1 y2 y3 y4 y5 y6 y7 g y8 y9 y10 h) Φ → WE E mX12_ask (d + 9) 88 [some (.ref y0), some (.int y1), some (.int y2), some (.int y3), some (.int y4), some (.int y5), some (.int y6), some (.int y7), some (.int y8), some (.int y9), some (.int y10), y11] [] h kc ks Φ := by
  intro g
  induction g with
  | zero => intro y8 y9 y10 y11 h q; exact q.elim
  | succ g ih =>
    intro y8 y9 y10 y11 h q
    refine r_iload eX12_ask_88 rfl ?_
    refine r_aload_n eX12_ask_90 rfl ?_
    refine r_iload_n eX12_ask_91 rfl ?_
    refine t_virtI (As := [_]) (rest := [_]) (d' := d + 8 + 0) (ci := 12) eX12_ask_92 k_12_374 rfl rfl rfl (by omega) (Nat.le_of_ble_eq_true rfl) (Nat.le_of_ble_eq_true rfl) (fun _ q => s_X12_sayingsOf q) q (fun v92 h92 q => ?_)
    refine t_icmp_ge eX12_ask_95 (t := 208) (by decide) q (fun q => ?_) (fun q => ?_)
    · refine r_iload eX12_ask_208 rfl ?_
      refine t_if_eq eX12_ask_210 (t := 218) (by decide) q (fun q => ?_) (fun q => ?_)
      · refine r_iload eX12_ask_218 rfl ?_
        exact t_rtI eX12_ask_220 rfl q
      refine r_iload eX12_ask_213 rfl ?_
      refine r_goto (t := 220) eX12_ask_215 (by decide) ?_
      exact t_rtI eX12_ask_220 rfl q
    refine r_aload_n eX12_ask_98 rfl ?_
    refine r_iload_n eX12_ask_99 rfl ?_
    refine r_iload_n eX12_ask_100 rfl ?_
    refine r_iload eX12_ask_101 rfl ?_
    refine r_iload eX12_ask_103 rfl ?_
    refine r_iload eX12_ask_105 rfl ?_
    refine t_virtI (As := [_, _, _, _, _]) (rest := []) (d' := d + 1 + 7) (ci := 12) eX12_ask_107 k_12_430 rfl rfl rfl (by omega) (Nat.le_of_ble_eq_true rfl) (Nat.le_of_ble_eq_true rfl) (fun _ q => s_X12_goes q) q (fun v107 h107 q => ?_)
    refine r_iload eX12_ask_110 rfl ?_
    refine t_icmp_ge eX12_ask_112 (t := 118) (by decide) q (fun q => ?_) (fun q => ?_)
    · refine r_iconst (v := (0)) eX12_ask_118 (by decide) ?_
      refine r_istore (lv' := [_, _, _, _, _, _, _, _, _, _, _, _]) eX12_ask_119 (Nat.le_of_ble_eq_true rfl) rfl ?_
      refine sL_X12_ask_121 (fun w1 h2 q => ?_) _ _ _ q
      refine r_aload_n eX12_ask_143 rfl ?_
      refine r_ldcw eX12_ask_144 g_12_451 ?_
      refine r_aload_n eX12_ask_147 rfl ?_
      refine t_gfR eX12_ask_148 f_12_61 q (fun v148 q => ?_)
      refine r_aload_n eX12_ask_151 rfl ?_
      refine t_gfR eX12_ask_152 f_12_73 q (fun v152 q => ?_)
      refine t_virtV (As := [_, _, _]) (rest := []) (d' := d + 6 + 2) (ci := 12) eX12_ask_155 k_12_447 rfl rfl rfl (by omega) (Nat.le_of_ble_eq_true rfl) (Nat.le_of_ble_eq_true rfl) (fun _ q => s_X12_parted q) q (fun h155 q => ?_)
      refine r_aload_n eX12_ask_158 rfl ?_
      refine r_iload_n eX12_ask_159 rfl ?_
      refine r_iload_n eX12_ask_160 rfl ?_
      refine r_iload eX12_ask_161 rfl ?_
      refine t_virtV (As := [_, _, _]) (rest := []) (d' := d + 1 + 7) (ci := 12) eX12_ask_163 k_12_452 rfl rfl rfl (by omega) (Nat.le_of_ble_eq_true rfl) (Nat.le_of_ble_eq_true rfl) (fun _ q => s_X12_oddsOn q) q (fun h163 q => ?_)
      refine r_ldcw eX12_ask_166 g_12_451 ?_
      refine r_aload_n eX12_ask_169 rfl ?_
      refine r_aload_n eX12_ask_170 rfl ?_
      refine r_iload_n eX12_ask_171 rfl ?_
      refine t_virtI (As := [_]) (rest := [_, _]) (d' := d + 8 + 0) (ci := 12) eX12_ask_172 k_12_438 rfl rfl rfl (by omega) (Nat.le_of_ble_eq_true rfl) (Nat.le_of_ble_eq_true rfl) (fun _ q => s_X12_goalOf q) q (fun v172 h172 q => ?_)
      refine t_virtI (As := [_]) (rest := [_]) (d' := d + 5 + 3) (ci := 12) eX12_ask_175 k_12_458 rfl rfl rfl (by omega) (Nat.le_of_ble_eq_true rfl) (Nat.le_of_ble_eq_true rfl) (fun _ q => s_X12_shareAt q) q (fun v175 h175 q => ?_)
      refine r_isub eX12_ask_178 ?_
      refine r_iload eX12_ask_179 rfl ?_
      refine r_iadd eX12_ask_181 ?_
      replace q := OK_lt q
      refine r_istore (lv' := [_, _, _, _, _, _, _, _, _, _, _, _]) eX12_ask_182 (Nat.le_of_ble_eq_true rfl) rfl ?_
      refine r_iload eX12_ask_184 rfl ?_
      refine r_iload eX12_ask_186 rfl ?_
      refine t_icmp_lt eX12_ask_188 (t := 194) (by decide) q (fun q => ?_) (fun q => ?_)
      · refine r_iload eX12_ask_194 rfl ?_
        refine r_istore (lv' := [_, _, _, _, _, _, _, _, _, _, _, _]) eX12_ask_196 (Nat.le_of_ble_eq_true rfl) rfl ?_
        refine r_iload eX12_ask_198 rfl ?_
        refine r_istore (lv' := [_, _, _, _, _, _, _, _, _, _, _, _]) eX12_ask_200 (Nat.le_of_ble_eq_true rfl) rfl ?_
        refine r_iinc (v := (1)) (lv' := [_, _, _, _, _, _, _, _, _, _, _, _]) eX12_ask_202 rfl (by decide) rfl ?_
        refine r_goto (t := 88) eX12_ask_205 (by decide) ?_
        exact ih _ _ _ _ _ q
      refine r_goto (t := 202) eX12_ask_191 (by decide) ?_
      refine r_iinc (v := (1)) (lv' := [_, _, _, _, _, _, _, _, _, _, _, _]) eX12_ask_202 rfl (by decide) rfl ?_
      refine r_goto (t := 88) eX12_ask_205 (by decide) ?_
      exact ih _ _ _ _ _ q
    refine r_goto (t := 202) eX12_ask_115 (by decide) ?_
    refine r_iinc (v := (1)) (lv' := [_, _, _, _, _, _, _, _, _, _, _, _]) eX12_ask_202 rfl (by decide) rfl ?_
    refine r_goto (t := 88) eX12_ask_205 (by decide) ?_
    exact ih _ _ _ _ _ q
theorem s_X12_ask {E : Ev} {d : Nat} {a0 : Nat} {x1 : Int32} {x2 : Int32} {x3 : Int32} {x4 : Int32} {x5 : Int32} {x6 : Int32} {x7 : Int32} {h : Hp} {Φ : Ou → Hp → Prop} (q : OK (F_X12_ask E a0 x1 x2 x3 x4 x5 x6 x7 h) Φ) : CE E mX12_ask (d + 9) [.ref a0, .int x1, .int x2, .int x3, .int x4, .int x5, .int x6, .int x7] h 0 0 Φ := by
  show WE E mX12_ask (d + 9) 0 [some (.ref a0), some (.int x1), some (.int x2), some (.int x3), some (.int x4), some (.int x5), some (.int x6), some (.int x7), none, none, none, none] [] h 0 0 Φ
  refine r_aload_n eX12_ask_0 rfl ?_
  refine r_iconst (v := (0)) eX12_ask_1 (by decide) ?_
  refine t_pf eX12_ask_2 p_12_97 rfl rfl (fun q => by cases q) q (fun h2 q => ?_)
  refine r_aload_n eX12_ask_5 rfl ?_
  refine r_iload_n eX12_ask_6 rfl ?_
  refine r_iload_n eX12_ask_7 rfl ?_
  refine r_iload eX12_ask_8 rfl ?_
  refine t_virtI (As := [_, _, _]) (rest := []) (d' := d + 5 + 3) (ci := 12) eX12_ask_10 k_12_441 rfl rfl rfl (by omega) (Nat.le_of_ble_eq_true rfl) (Nat.le_of_ble_eq_true rfl) (fun _ q => s_X12_areThere q) q (fun v10 h10 q => ?_)
  refine t_if_eq eX12_ask_13 (t := 24) (by decide) q (fun q => ?_) (fun q => ?_)
  · refine r_aload_n eX12_ask_24 rfl ?_
    refine r_iconst (v := (1)) eX12_ask_25 (by decide) ?_
    refine t_virtI (As := [_]) (rest := []) (d' := d + 8 + 0) (ci := 12) eX12_ask_26 k_12_114 rfl rfl rfl (by omega) (Nat.le_of_ble_eq_true rfl) (Nat.le_of_ble_eq_true rfl) (fun _ q => s_X12_fails q) q (fun v26 h26 q => ?_)
    exact t_rtI eX12_ask_29 rfl q
  refine r_aload_n eX12_ask_16 rfl ?_
  refine r_iload_n eX12_ask_17 rfl ?_
  refine t_virtI (As := [_]) (rest := []) (d' := d + 6 + 2) (ci := 12) eX12_ask_18 k_12_222 rfl rfl rfl (by omega) (Nat.le_of_ble_eq_true rfl) (Nat.le_of_ble_eq_true rfl) (fun _ q => s_X12_isWalker q) q (fun v18 h18 q => ?_)
  refine t_if_ne eX12_ask_21 (t := 30) (by decide) q (fun q => ?_) (fun q => ?_)
  · refine r_iload eX12_ask_30 rfl ?_
    refine t_statI (As := [_]) (rest := []) (d' := d + 7 + 1) eX12_ask_32 k_12_127 rfl (by omega) (Nat.le_of_ble_eq_true rfl) (Nat.le_of_ble_eq_true rfl) (fun _ q => s_X12_isYear q) q (fun v32 h32 q => ?_)
    refine t_if_eq eX12_ask_35 (t := 51) (by decide) q (fun q => ?_) (fun q => ?_)
    · refine r_aload_n eX12_ask_51 rfl ?_
      refine r_iconst (v := (2)) eX12_ask_52 (by decide) ?_
      refine t_virtI (As := [_]) (rest := []) (d' := d + 8 + 0) (ci := 12) eX12_ask_53 k_12_114 rfl rfl rfl (by omega) (Nat.le_of_ble_eq_true rfl) (Nat.le_of_ble_eq_true rfl) (fun _ q => s_X12_fails q) q (fun v53 h53 q => ?_)
      exact t_rtI eX12_ask_56 rfl q
    refine r_iload eX12_ask_38 rfl ?_
    refine r_i2l eX12_ask_40 ?_
    refine r_lconst (v := 0) eX12_ask_41 rfl ?_
    refine r_ldc2 eX12_ask_42 g_12_461 ?_
    refine t_statI (As := [_, _, _]) (rest := []) (d' := d + 8 + 0) eX12_ask_45 k_12_102 rfl (by omega) (Nat.le_of_ble_eq_true rfl) (Nat.le_of_ble_eq_true rfl) (fun _ q => s_X12_within q) q (fun v45 h45 q => ?_)
    refine t_if_ne eX12_ask_48 (t := 57) (by decide) q (fun q => ?_) (fun q => ?_)
    · refine r_aload_n eX12_ask_57 rfl ?_
      refine r_iload_n eX12_ask_58 rfl ?_
      refine r_iload_n eX12_ask_59 rfl ?_
      refine r_iload eX12_ask_60 rfl ?_
      refine r_iload eX12_ask_62 rfl ?_
      refine t_virtV (As := [_, _, _, _]) (rest := []) (d' := d + 0 + 8) (ci := 12) eX12_ask_64 k_12_455 rfl rfl rfl (by omega) (Nat.le_of_ble_eq_true rfl) (Nat.le_of_ble_eq_true rfl) (fun _ q => s_X12_oddsFrom q) q (fun h64 q => ?_)
      refine r_ldcw eX12_ask_67 g_12_451 ?_
      refine r_aload_n eX12_ask_70 rfl ?_
      refine r_aload_n eX12_ask_71 rfl ?_
      refine r_iload_n eX12_ask_72 rfl ?_
      refine t_virtI (As := [_]) (rest := [_, _]) (d' := d + 8 + 0) (ci := 12) eX12_ask_73 k_12_438 rfl rfl rfl (by omega) (Nat.le_of_ble_eq_true rfl) (Nat.le_of_ble_eq_true rfl) (fun _ q => s_X12_goalOf q) q (fun v73 h73 q => ?_)
      refine t_virtI (As := [_]) (rest := [_]) (d' := d + 5 + 3) (ci := 12) eX12_ask_76 k_12_458 rfl rfl rfl (by omega) (Nat.le_of_ble_eq_true rfl) (Nat.le_of_ble_eq_true rfl) (fun _ q => s_X12_shareAt q) q (fun v76 h76 q => ?_)
      refine r_isub eX12_ask_79 ?_
      replace q := OK_lt q
      refine r_istore (lv' := [_, _, _, _, _, _, _, _, _, _, _, _]) eX12_ask_80 (Nat.le_of_ble_eq_true rfl) rfl ?_
      refine r_iconst (v := (0)) eX12_ask_82 (by decide) ?_
      refine r_istore (lv' := [_, _, _, _, _, _, _, _, _, _, _, _]) eX12_ask_83 (Nat.le_of_ble_eq_true rfl) rfl ?_
      refine r_iconst (v := (1)) eX12_ask_85 (by decide) ?_
      refine r_istore (lv' := [_, _, _, _, _, _, _, _, _, _, _, _]) eX12_ask_86 (Nat.le_of_ble_eq_true rfl) rfl ?_
      exact sL_X12_ask_88  _ _ _ _ _ _ q
    refine r_aload_n eX12_ask_51 rfl ?_
    refine r_iconst (v := (2)) eX12_ask_52 (by decide) ?_
    refine t_virtI (As := [_]) (rest := []) (d' := d + 8 + 0) (ci := 12) eX12_ask_53 k_12_114 rfl rfl rfl (by omega) (Nat.le_of_ble_eq_true rfl) (Nat.le_of_ble_eq_true rfl) (fun _ q => s_X12_fails q) q (fun v53 h53 q => ?_)
    exact t_rtI eX12_ask_56 rfl q
  refine r_aload_n eX12_ask_24 rfl ?_
  refine r_iconst (v := (1)) eX12_ask_25 (by decide) ?_
  refine t_virtI (As := [_]) (rest := []) (d' := d + 8 + 0) (ci := 12) eX12_ask_26 k_12_114 rfl rfl rfl (by omega) (Nat.le_of_ble_eq_true rfl) (Nat.le_of_ble_eq_true rfl) (fun _ q => s_X12_fails q) q (fun v26 h26 q => ?_)
  exact t_rtI eX12_ask_29 rfl q
theorem sL_X12_tries_118 {E : Ev} {d kc ks : Nat} {Φ : Ou → Hp → Prop} {y0 : Nat} {y1 : Int32} {y2 : Int32} {y3 : Int32} {y4 : Int32} {y5 : Int32}  : ∀ (g : Nat) (y6 : Int32) (y7 : Option Value) (h : Hp), OK (L_X12_tries_118 E y0 y2 y3 y4 y5 g y6 h) Φ → WE E mX12_tries (d + 6) 118 [some (.ref y0), some (.int y1), some (.int y2), some (.int y3), some (.int y4), some (.int y5), some (.int y6), y7] [] h kc ks Φ := by
  intro g
  induction g with
  | zero => intro y6 y7 h q; exact q.elim
  | succ g ih =>
    intro y6 y7 h q
    refine r_iload eX12_tries_118 rfl ?_
    refine r_aload_n eX12_tries_120 rfl ?_
    refine t_gfR eX12_tries_121 f_12_9 q (fun v121 q => ?_)
    refine r_iconst (v := (4)) eX12_tries_124 (by decide) ?_
    refine t_gaI eX12_tries_125 q (fun v125 q => ?_)
    refine t_icmp_ge eX12_tries_126 (t := 216) (by decide) q (fun q => ?_) (fun q => ?_)
    · refine r_iconst (v := (1)) eX12_tries_216 (by decide) ?_
      exact t_rtZ eX12_tries_217 rfl q
    refine r_aload_n eX12_tries_129 rfl ?_
    refine t_gfI eX12_tries_130 f_12_463 q (fun v130 q => ?_)
    refine r_iload eX12_tries_133 rfl ?_
    refine r_ishr eX12_tries_135 ?_
    refine r_iconst (v := (1)) eX12_tries_136 (by decide) ?_
    refine r_iand eX12_tries_137 ?_
    refine t_if_ne eX12_tries_138 (t := 144) (by decide) q (fun q => ?_) (fun q => ?_)
    · refine r_iconst (v := (4)) eX12_tries_144 (by decide) ?_
      refine r_bipush (v := (8)) eX12_tries_145 (by decide) ?_
      refine r_iload_n eX12_tries_147 rfl ?_
      refine r_iconst (v := (1)) eX12_tries_148 (by decide) ?_
      refine r_iadd eX12_tries_149 ?_
      refine r_imul eX12_tries_150 ?_
      refine r_iload eX12_tries_151 rfl ?_
      refine r_iadd eX12_tries_153 ?_
      refine r_imul eX12_tries_154 ?_
      replace q := OK_lt q
      refine r_istore (lv' := [_, _, _, _, _, _, _, _]) eX12_tries_155 (Nat.le_of_ble_eq_true rfl) rfl ?_
      refine r_aload_n eX12_tries_157 rfl ?_
      refine t_gfR eX12_tries_158 f_12_82 q (fun v158 q => ?_)
      refine r_iload eX12_tries_161 rfl ?_
      refine t_statV (As := [_, _]) (rest := []) (d' := d + 5 + 0) eX12_tries_163 k_12_218 rfl (by omega) (Nat.le_of_ble_eq_true rfl) (Nat.le_of_ble_eq_true rfl) (fun _ q => s_X12_empty q) q (fun h163 q => ?_)
      refine r_aload_n eX12_tries_166 rfl ?_
      refine r_iload_n eX12_tries_167 rfl ?_
      refine r_iload eX12_tries_168 rfl ?_
      refine r_iload eX12_tries_170 rfl ?_
      refine r_iload eX12_tries_172 rfl ?_
      refine r_aload_n eX12_tries_174 rfl ?_
      refine t_gfR eX12_tries_175 f_12_82 q (fun v175 q => ?_)
      refine r_iconst (v := (4)) eX12_tries_178 (by decide) ?_
      refine r_bipush (v := (8)) eX12_tries_179 (by decide) ?_
      refine r_iload_n eX12_tries_181 rfl ?_
      refine r_imul eX12_tries_182 ?_
      refine r_iload eX12_tries_183 rfl ?_
      refine r_iadd eX12_tries_185 ?_
      refine r_imul eX12_tries_186 ?_
      refine r_aload_n eX12_tries_187 rfl ?_
      refine t_gfR eX12_tries_188 f_12_82 q (fun v188 q => ?_)
      refine r_iload eX12_tries_191 rfl ?_
      refine t_virtV (As := [_, _, _, _, _, _, _, _]) (rest := []) (d' := d + 0 + 5) (ci := 12) eX12_tries_193 k_12_423 rfl rfl rfl (by omega) (Nat.le_of_ble_eq_true rfl) (Nat.le_of_ble_eq_true rfl) (fun _ q => s_X12_word q) q (fun h193 q => ?_)
      refine r_aload_n eX12_tries_196 rfl ?_
      refine t_gfR eX12_tries_197 f_12_82 q (fun v197 q => ?_)
      refine r_iload eX12_tries_200 rfl ?_
      refine t_statI (As := [_, _]) (rest := []) (d' := d + 5 + 0) eX12_tries_202 k_12_411 rfl (by omega) (Nat.le_of_ble_eq_true rfl) (Nat.le_of_ble_eq_true rfl) (fun _ q => s_X12_isNone q) q (fun v202 h202 q => ?_)
      refine t_if_eq eX12_tries_205 (t := 210) (by decide) q (fun q => ?_) (fun q => ?_)
      · refine r_iinc (v := (1)) (lv' := [_, _, _, _, _, _, _, _]) eX12_tries_210 rfl (by decide) rfl ?_
        refine r_goto (t := 118) eX12_tries_213 (by decide) ?_
        exact ih _ _ _ q
      refine r_iconst (v := (0)) eX12_tries_208 (by decide) ?_
      exact t_rtZ eX12_tries_209 rfl q
    refine r_goto (t := 210) eX12_tries_141 (by decide) ?_
    refine r_iinc (v := (1)) (lv' := [_, _, _, _, _, _, _, _]) eX12_tries_210 rfl (by decide) rfl ?_
    refine r_goto (t := 118) eX12_tries_213 (by decide) ?_
    exact ih _ _ _ q
theorem sJ_X12_tries_90 {E : Ev} {d kc ks : Nat} {Φ : Ou → Hp → Prop} {y0 : Nat} {y1 : Int32} {y2 : Int32} {y3 : Int32} {t0 : Int32} {h : Hp}  (q : OK (J_X12_tries_90 E y0 y1 y2 y3 t0 h) Φ) : WE E mX12_tries (d + 6) 90 [some (.ref y0), some (.int y1), some (.int y2), some (.int y3), none, none, none, none] [.int t0] h kc ks Φ := by
  refine r_istore (lv' := [_, _, _, _, _, _, _, _]) eX12_tries_90 (Nat.le_of_ble_eq_true rfl) rfl ?_
  refine r_iload_n eX12_tries_92 rfl ?_
  refine r_iconst (v := (2)) eX12_tries_93 (by decide) ?_
  refine t_icmp_le eX12_tries_94 (t := 112) (by decide) q (fun q => ?_) (fun q => ?_)
  · refine r_iconst (v := (-1)) eX12_tries_112 (by decide) ?_
    refine r_istore (lv' := [_, _, _, _, _, _, _, _]) eX12_tries_113 (Nat.le_of_ble_eq_true rfl) rfl ?_
    refine r_iconst (v := (0)) eX12_tries_115 (by decide) ?_
    refine r_istore (lv' := [_, _, _, _, _, _, _, _]) eX12_tries_116 (Nat.le_of_ble_eq_true rfl) rfl ?_
    exact sL_X12_tries_118  _ _ _ _ q
  refine r_iload_n eX12_tries_97 rfl ?_
  refine r_bipush (v := (27)) eX12_tries_98 (by decide) ?_
  refine t_icmp_ge eX12_tries_100 (t := 112) (by decide) q (fun q => ?_) (fun q => ?_)
  · refine r_iconst (v := (-1)) eX12_tries_112 (by decide) ?_
    refine r_istore (lv' := [_, _, _, _, _, _, _, _]) eX12_tries_113 (Nat.le_of_ble_eq_true rfl) rfl ?_
    refine r_iconst (v := (0)) eX12_tries_115 (by decide) ?_
    refine r_istore (lv' := [_, _, _, _, _, _, _, _]) eX12_tries_116 (Nat.le_of_ble_eq_true rfl) rfl ?_
    exact sL_X12_tries_118  _ _ _ _ q
  refine r_iload_n eX12_tries_103 rfl ?_
  refine r_iconst (v := (3)) eX12_tries_104 (by decide) ?_
  refine r_isub eX12_tries_105 ?_
  refine r_bipush (v := (12)) eX12_tries_106 (by decide) ?_
  refine t_rmI eX12_tries_108 q (fun v108 q => ?_)
  refine r_goto (t := 113) eX12_tries_109 (by decide) ?_
  refine r_istore (lv' := [_, _, _, _, _, _, _, _]) eX12_tries_113 (Nat.le_of_ble_eq_true rfl) rfl ?_
  refine r_iconst (v := (0)) eX12_tries_115 (by decide) ?_
  refine r_istore (lv' := [_, _, _, _, _, _, _, _]) eX12_tries_116 (Nat.le_of_ble_eq_true rfl) rfl ?_
  exact sL_X12_tries_118  _ _ _ _ q
theorem sJ_X12_tries_82 {E : Ev} {d kc ks : Nat} {Φ : Ou → Hp → Prop} {y0 : Nat} {y1 : Int32} {y2 : Int32} {y3 : Int32} {t0 : Int32} {t1 : Int32} {h : Hp}  (q : OK (J_X12_tries_82 E y0 y1 y2 y3 t0 t1 h) Φ) : WE E mX12_tries (d + 6) 82 [some (.ref y0), some (.int y1), some (.int y2), some (.int y3), none, none, none, none] [.int t1, .int t0] h kc ks Φ := by
  refine r_imul eX12_tries_82 ?_
  refine r_iload_n eX12_tries_83 rfl ?_
  refine r_bipush (v := (27)) eX12_tries_84 (by decide) ?_
  refine r_isub eX12_tries_86 ?_
  refine r_iconst (v := (2)) eX12_tries_87 (by decide) ?_
  refine t_rmI eX12_tries_88 q (fun v88 q => ?_)
  refine r_iadd eX12_tries_89 ?_
  exact sJ_X12_tries_90  q
theorem sJ_X12_tries_40 {E : Ev} {d kc ks : Nat} {Φ : Ou → Hp → Prop} {y0 : Nat} {y1 : Int32} {y2 : Int32} {t0 : Int32} {h : Hp}  (q : OK (J_X12_tries_40 E y0 y1 y2 t0 h) Φ) : WE E mX12_tries (d + 6) 40 [some (.ref y0), some (.int y1), some (.int y2), none, none, none, none, none] [.int t0] h kc ks Φ := by
  refine r_istore_n (lv' := [_, _, _, _, _, _, _, _]) eX12_tries_40 (Nat.le_of_ble_eq_true rfl) rfl ?_
  refine r_iload_n eX12_tries_41 rfl ?_
  refine t_if_ne eX12_tries_42 (t := 49) (by decide) q (fun q => ?_) (fun q => ?_)
  · refine r_iload_n eX12_tries_49 rfl ?_
    refine r_iconst (v := (3)) eX12_tries_50 (by decide) ?_
    refine t_icmp_ge eX12_tries_51 (t := 60) (by decide) q (fun q => ?_) (fun q => ?_)
    · refine r_iload_n eX12_tries_60 rfl ?_
      refine r_bipush (v := (27)) eX12_tries_61 (by decide) ?_
      refine t_icmp_ge eX12_tries_63 (t := 70) (by decide) q (fun q => ?_) (fun q => ?_)
      · refine r_iconst (v := (2)) eX12_tries_70 (by decide) ?_
        refine r_iload_n eX12_tries_71 rfl ?_
        refine r_bipush (v := (29)) eX12_tries_72 (by decide) ?_
        refine t_icmp_ge eX12_tries_74 (t := 81) (by decide) q (fun q => ?_) (fun q => ?_)
        · refine r_iconst (v := (2)) eX12_tries_81 (by decide) ?_
          exact sJ_X12_tries_82  q
        refine r_iconst (v := (1)) eX12_tries_77 (by decide) ?_
        refine r_goto (t := 82) eX12_tries_78 (by decide) ?_
        exact sJ_X12_tries_82  q
      refine r_iconst (v := (0)) eX12_tries_66 (by decide) ?_
      refine r_goto (t := 90) eX12_tries_67 (by decide) ?_
      exact sJ_X12_tries_90  q
    refine r_iload_n eX12_tries_54 rfl ?_
    refine r_iconst (v := (1)) eX12_tries_55 (by decide) ?_
    refine r_isub eX12_tries_56 ?_
    refine r_goto (t := 90) eX12_tries_57 (by decide) ?_
    exact sJ_X12_tries_90  q
  refine r_iconst (v := (1)) eX12_tries_45 (by decide) ?_
  refine r_goto (t := 90) eX12_tries_46 (by decide) ?_
  exact sJ_X12_tries_90  q
theorem s_X12_tries {E : Ev} {d : Nat} {a0 : Nat} {x1 : Int32} {x2 : Int32} {h : Hp} {Φ : Ou → Hp → Prop} (q : OK (F_X12_tries E a0 x1 x2 h) Φ) : CE E mX12_tries (d + 6) [.ref a0, .int x1, .int x2] h 0 0 Φ := by
  show WE E mX12_tries (d + 6) 0 [some (.ref a0), some (.int x1), some (.int x2), none, none, none, none, none] [] h 0 0 Φ
  refine r_iload_n eX12_tries_0 rfl ?_
  refine t_if_ne eX12_tries_1 (t := 8) (by decide) q (fun q => ?_) (fun q => ?_)
  · refine r_iload_n eX12_tries_8 rfl ?_
    refine r_iconst (v := (3)) eX12_tries_9 (by decide) ?_
    refine t_icmp_ge eX12_tries_10 (t := 18) (by decide) q (fun q => ?_) (fun q => ?_)
    · refine r_iload_n eX12_tries_18 rfl ?_
      refine r_bipush (v := (15)) eX12_tries_19 (by decide) ?_
      refine t_icmp_ge eX12_tries_21 (t := 28) (by decide) q (fun q => ?_) (fun q => ?_)
      · refine r_iload_n eX12_tries_28 rfl ?_
        refine r_bipush (v := (27)) eX12_tries_29 (by decide) ?_
        refine t_icmp_ge eX12_tries_31 (t := 38) (by decide) q (fun q => ?_) (fun q => ?_)
        · refine r_bipush (v := (9)) eX12_tries_38 (by decide) ?_
          exact sJ_X12_tries_40  q
        refine r_iconst (v := (2)) eX12_tries_34 (by decide) ?_
        refine r_goto (t := 40) eX12_tries_35 (by decide) ?_
        exact sJ_X12_tries_40  q
      refine r_iconst (v := (1)) eX12_tries_24 (by decide) ?_
      refine r_goto (t := 40) eX12_tries_25 (by decide) ?_
      exact sJ_X12_tries_40  q
    refine r_bipush (v := (8)) eX12_tries_13 (by decide) ?_
    refine r_goto (t := 40) eX12_tries_15 (by decide) ?_
    exact sJ_X12_tries_40  q
  refine r_iconst (v := (0)) eX12_tries_4 (by decide) ?_
  refine r_goto (t := 40) eX12_tries_5 (by decide) ?_
  exact sJ_X12_tries_40  q
theorem sL_X12_areAll_14 {E : Ev} {d kc ks : Nat} {Φ : Ou → Hp → Prop} {y0 : Nat} {y1 : Int32} {y2 : Int32} {K72 : Hp → Rs} (hK72 : ∀ (w3 : Int32) (h : Hp), OK (K72 h) Φ → WE E mX12_areAll (d + 3) 72 [some (.ref y0), some (.int y1), some (.int y2), some (.int w3)] [] h kc ks Φ) : ∀ (g : Nat) (y3 : Int32) (h : Hp), OK (L_X12_areAll_14 E K72 y0 y1 y2 g y3 h) Φ → WE E mX12_areAll (d + 3) 14 [some (.ref y0), some (.int y1), some (.int y2), some (.int y3)] [] h kc ks Φ := by
  intro g
  induction g with
  | zero => intro y3 h q; exact q.elim
  | succ g ih =>
    intro y3 h q
    refine r_iload_n eX12_areAll_14 rfl ?_
    refine r_sipush (v := (240)) eX12_areAll_15 (by decide) ?_
    refine t_icmp_ge eX12_areAll_18 (t := 72) (by decide) q (fun q => ?_) (fun q => ?_)
    · exact hK72 _ _ q
    refine r_aload_n eX12_areAll_21 rfl ?_
    refine t_gfI eX12_areAll_22 f_12_463 q (fun v22 q => ?_)
    refine r_iload_n eX12_areAll_25 rfl ?_
    refine r_ishr eX12_areAll_26 ?_
    refine r_iconst (v := (1)) eX12_areAll_27 (by decide) ?_
    refine r_iand eX12_areAll_28 ?_
    refine r_iconst (v := (1)) eX12_areAll_29 (by decide) ?_
    refine t_icmp_ne eX12_areAll_30 (t := 72) (by decide) q (fun q => ?_) (fun q => ?_)
    · exact hK72 _ _ q
    refine r_aload_n eX12_areAll_33 rfl ?_
    refine t_gfR eX12_areAll_34 f_12_82 q (fun v34 q => ?_)
    refine r_iconst (v := (4)) eX12_areAll_37 (by decide) ?_
    refine r_bipush (v := (8)) eX12_areAll_38 (by decide) ?_
    refine r_iload_n eX12_areAll_40 rfl ?_
    refine r_imul eX12_areAll_41 ?_
    refine r_iload_n eX12_areAll_42 rfl ?_
    refine r_iadd eX12_areAll_43 ?_
    refine r_imul eX12_areAll_44 ?_
    refine r_iload_n eX12_areAll_45 rfl ?_
    refine t_statI (As := [_, _, _]) (rest := []) (d' := d + 2 + 0) eX12_areAll_46 k_12_185 rfl (by omega) (Nat.le_of_ble_eq_true rfl) (Nat.le_of_ble_eq_true rfl) (fun _ q => s_X12_has q) q (fun v46 h46 q => ?_)
    refine t_if_eq eX12_areAll_49 (t := 66) (by decide) q (fun q => ?_) (fun q => ?_)
    · refine r_iinc (v := (1)) (lv' := [_, _, _, _]) eX12_areAll_66 rfl (by decide) rfl ?_
      refine r_goto (t := 14) eX12_areAll_69 (by decide) ?_
      exact ih _ _ q
    refine r_aload_n eX12_areAll_52 rfl ?_
    refine r_iload_n eX12_areAll_53 rfl ?_
    refine t_virtI (As := [_]) (rest := []) (d' := d + 0 + 2) (ci := 12) eX12_areAll_54 k_12_143 rfl rfl rfl (by omega) (Nat.le_of_ble_eq_true rfl) (Nat.le_of_ble_eq_true rfl) (fun _ q => s_X12_placeOf q) q (fun v54 h54 q => ?_)
    refine r_aload_n eX12_areAll_57 rfl ?_
    refine t_gfI eX12_areAll_58 f_12_466 q (fun v58 q => ?_)
    refine t_icmp_eq eX12_areAll_61 (t := 66) (by decide) q (fun q => ?_) (fun q => ?_)
    · refine r_iinc (v := (1)) (lv' := [_, _, _, _]) eX12_areAll_66 rfl (by decide) rfl ?_
      refine r_goto (t := 14) eX12_areAll_69 (by decide) ?_
      exact ih _ _ q
    refine r_iconst (v := (0)) eX12_areAll_64 (by decide) ?_
    exact t_rtZ eX12_areAll_65 rfl q
theorem sL_X12_areAll_2 {E : Ev} {d kc ks : Nat} {Φ : Ou → Hp → Prop} {y0 : Nat} {y1 : Int32}  : ∀ (g : Nat) (y2 : Int32) (y3 : Option Value) (h : Hp), OK (L_X12_areAll_2 E y0 y1 g y2 h) Φ → WE E mX12_areAll (d + 3) 2 [some (.ref y0), some (.int y1), some (.int y2), y3] [] h kc ks Φ := by
  intro g
  induction g with
  | zero => intro y2 y3 h q; exact q.elim
  | succ g ih =>
    intro y2 y3 h q
    refine r_iload_n eX12_areAll_2 rfl ?_
    refine r_aload_n eX12_areAll_3 rfl ?_
    refine t_gfR eX12_areAll_4 f_12_9 q (fun v4 q => ?_)
    refine r_iconst (v := (4)) eX12_areAll_7 (by decide) ?_
    refine t_gaI eX12_areAll_8 q (fun v8 q => ?_)
    refine t_icmp_ge eX12_areAll_9 (t := 78) (by decide) q (fun q => ?_) (fun q => ?_)
    · refine r_iconst (v := (1)) eX12_areAll_78 (by decide) ?_
      exact t_rtZ eX12_areAll_79 rfl q
    refine r_iconst (v := (0)) eX12_areAll_12 (by decide) ?_
    refine r_istore_n (lv' := [_, _, _, _]) eX12_areAll_13 (Nat.le_of_ble_eq_true rfl) rfl ?_
    refine sL_X12_areAll_14 (fun w1 h2 q => ?_) _ _ _ q
    refine r_iinc (v := (1)) (lv' := [_, _, _, _]) eX12_areAll_72 rfl (by decide) rfl ?_
    refine r_goto (t := 2) eX12_areAll_75 (by decide) ?_
    exact ih _ _ _ q
theorem s_X12_areAll {E : Ev} {d : Nat} {a0 : Nat} {x1 : Int32} {h : Hp} {Φ : Ou → Hp → Prop} (q : OK (F_X12_areAll E a0 x1 h) Φ) : CE E mX12_areAll (d + 3) [.ref a0, .int x1] h 0 0 Φ := by
  show WE E mX12_areAll (d + 3) 0 [some (.ref a0), some (.int x1), none, none] [] h 0 0 Φ
  refine r_iconst (v := (0)) eX12_areAll_0 (by decide) ?_
  refine r_istore_n (lv' := [_, _, _, _]) eX12_areAll_1 (Nat.le_of_ble_eq_true rfl) rfl ?_
  exact sL_X12_areAll_2  _ _ _ _ q
theorem sL_X12_seek_13 {E : Ev} {d kc ks : Nat} {Φ : Ou → Hp → Prop} {y0 : Nat} {y1 : Int32} {y2 : Int32} {n : Nat} {Rc : Nat → Int32 → Int32 → Hp → Rs} (hR : ∀ {a0 : Nat} {x1 : Int32} {x2 : Int32} {h : Hp} {Ψ : Ou → Hp → Prop}, OK (Rc a0 x1 x2 h) Ψ → CE E mX12_seek (d + n + 6) [.ref a0, .int x1, .int x2] h 0 0 Ψ) : ∀ (g : Nat) (y3 : Int32) (h : Hp), OK (L_X12_seek_13 E Rc y0 y1 y2 g y3 h) Φ → WE E mX12_seek (d + (n + 1) + 6) 13 [some (.ref y0), some (.int y1), some (.int y2), some (.int y3)] [] h kc ks Φ := by
  intro g
  induction g with
  | zero => intro y3 h q; exact q.elim
  | succ g ih =>
    intro y3 h q
    refine r_iload_n eX12_seek_13 rfl ?_
    refine r_bipush (v := (31)) eX12_seek_14 (by decide) ?_
    refine t_icmp_ge eX12_seek_16 (t := 54) (by decide) q (fun q => ?_) (fun q => ?_)
    · refine r_iconst (v := (0)) eX12_seek_54 (by decide) ?_
      exact t_rtZ eX12_seek_55 rfl q
    refine r_aload_n eX12_seek_19 rfl ?_
    refine t_gfR eX12_seek_20 f_12_85 q (fun v20 q => ?_)
    refine r_iload_n eX12_seek_23 rfl ?_
    refine r_iload_n eX12_seek_24 rfl ?_
    refine t_paI eX12_seek_25 q (fun h25 q => ?_)
    refine r_aload_n eX12_seek_26 rfl ?_
    refine r_iload_n eX12_seek_27 rfl ?_
    refine r_iload_n eX12_seek_28 rfl ?_
    refine t_virtI (As := [_, _]) (rest := []) (d' := d + n + 0 + 6) (ci := 12) eX12_seek_29 k_12_472 rfl rfl rfl (by omega) (Nat.le_of_ble_eq_true rfl) (Nat.le_of_ble_eq_true rfl) (fun _ q => s_X12_tries q) q (fun v29 h29 q => ?_)
    refine t_if_eq eX12_seek_32 (t := 48) (by decide) q (fun q => ?_) (fun q => ?_)
    · refine r_iinc (v := (1)) (lv' := [_, _, _, _]) eX12_seek_48 rfl (by decide) rfl ?_
      refine r_goto (t := 13) eX12_seek_51 (by decide) ?_
      exact ih _ _ q
    refine r_aload_n eX12_seek_35 rfl ?_
    refine r_iload_n eX12_seek_36 rfl ?_
    refine r_iconst (v := (1)) eX12_seek_37 (by decide) ?_
    refine r_iadd eX12_seek_38 ?_
    refine r_iload_n eX12_seek_39 rfl ?_
    refine t_virtI (As := [_, _]) (rest := []) (d' := d + n + 6) (ci := 12) eX12_seek_40 k_12_475 rfl rfl rfl (by omega) (Nat.le_of_ble_eq_true rfl) (Nat.le_of_ble_eq_true rfl) (fun _ q => hR q) q (fun v40 h40 q => ?_)
    refine t_if_eq eX12_seek_43 (t := 48) (by decide) q (fun q => ?_) (fun q => ?_)
    · refine r_iinc (v := (1)) (lv' := [_, _, _, _]) eX12_seek_48 rfl (by decide) rfl ?_
      refine r_goto (t := 13) eX12_seek_51 (by decide) ?_
      exact ih _ _ q
    refine r_iconst (v := (1)) eX12_seek_46 (by decide) ?_
    exact t_rtZ eX12_seek_47 rfl q
theorem s_X12_seek {E : Ev} {d : Nat} : ∀ (n : Nat) {a0 : Nat} {x1 : Int32} {x2 : Int32} {h : Hp} {Φ : Ou → Hp → Prop}, OK (F_X12_seek E n a0 x1 x2 h) Φ → CE E mX12_seek (d + n + 6) [.ref a0, .int x1, .int x2] h 0 0 Φ := by
  intro n
  induction n with
  | zero => intro a0 x1 x2 h Φ q; exact q.elim
  | succ n ih =>
    intro a0 x1 x2 h Φ q
    have hR : ∀ {a0 : Nat} {x1 : Int32} {x2 : Int32} {h : Hp} {Ψ : Ou → Hp → Prop}, OK (F_X12_seek E n a0 x1 x2 h) Ψ → CE E mX12_seek (d + n + 6) [.ref a0, .int x1, .int x2] h 0 0 Ψ := ih
    show WE E mX12_seek (d + (n + 1) + 6) 0 [some (.ref a0), some (.int x1), some (.int x2), none] [] h 0 0 Φ
    refine r_iload_n eX12_seek_0 rfl ?_
    refine r_iload_n eX12_seek_1 rfl ?_
    refine t_icmp_ne eX12_seek_2 (t := 11) (by decide) q (fun q => ?_) (fun q => ?_)
    · refine r_iconst (v := (0)) eX12_seek_11 (by decide) ?_
      refine r_istore_n (lv' := [_, _, _, _]) eX12_seek_12 (Nat.le_of_ble_eq_true rfl) rfl ?_
      exact sL_X12_seek_13 hR  _ _ _ q
    refine r_aload_n eX12_seek_5 rfl ?_
    refine r_iload_n eX12_seek_6 rfl ?_
    refine t_virtI (As := [_]) (rest := []) (d' := d + n + 3 + 3) (ci := 12) eX12_seek_7 k_12_469 rfl rfl rfl (by omega) (Nat.le_of_ble_eq_true rfl) (Nat.le_of_ble_eq_true rfl) (fun _ q => s_X12_areAll q) q (fun v7 h7 q => ?_)
    exact t_rtZ eX12_seek_10 rfl q
theorem sL_X12_shortest_89 {E : Ev} {d kc ks : Nat} {Φ : Ou → Hp → Prop} {y0 : Nat} {y1 : Int32} {y2 : Int32} {y3 : Int32} {y4 : Int32} {y5 : Int32} {y6 : Int32} {K125 : Hp → Rs} (hK125 : ∀ (w7 : Int32) (h : Hp), OK (K125 h) Φ → WE E mX12_shortest (d + 11) 125 [some (.ref y0), some (.int y1), some (.int y2), some (.int y3), some (.int y4), some (.int y5), some (.int y6), some (.int w7)] [] h kc ks Φ) : ∀ (g : Nat) (y7 : Int32) (h : Hp), OK (L_X12_shortest_89 E K125 y0 y2 g y7 h) Φ → WE E mX12_shortest (d + 11) 89 [some (.ref y0), some (.int y1), some (.int y2), some (.int y3), some (.int y4), some (.int y5), some (.int y6), some (.int y7)] [] h kc ks Φ := by
  intro g
  induction g with
  | zero => intro y7 h q; exact q.elim
  | succ g ih =>
    intro y7 h q
    refine r_iload eX12_shortest_89 rfl ?_
    refine r_bipush (v := (8)) eX12_shortest_91 (by decide) ?_
    refine t_icmp_ge eX12_shortest_93 (t := 125) (by decide) q (fun q => ?_) (fun q => ?_)
    · exact hK125 _ _ q
    refine r_aload_n eX12_shortest_96 rfl ?_
    refine t_gfR eX12_shortest_97 f_12_82 q (fun v97 q => ?_)
    refine r_iconst (v := (4)) eX12_shortest_100 (by decide) ?_
    refine r_iload eX12_shortest_101 rfl ?_
    refine r_imul eX12_shortest_103 ?_
    refine t_statV (As := [_, _]) (rest := []) (d' := d + 10 + 0) eX12_shortest_104 k_12_218 rfl (by omega) (Nat.le_of_ble_eq_true rfl) (Nat.le_of_ble_eq_true rfl) (fun _ q => s_X12_empty q) q (fun h104 q => ?_)
    refine r_aload_n eX12_shortest_107 rfl ?_
    refine t_gfR eX12_shortest_108 f_12_82 q (fun v108 q => ?_)
    refine r_iconst (v := (4)) eX12_shortest_111 (by decide) ?_
    refine r_iload eX12_shortest_112 rfl ?_
    refine r_imul eX12_shortest_114 ?_
    refine r_iload_n eX12_shortest_115 rfl ?_
    refine t_statV (As := [_, _, _]) (rest := []) (d' := d + 10 + 0) eX12_shortest_116 k_12_178 rfl (by omega) (Nat.le_of_ble_eq_true rfl) (Nat.le_of_ble_eq_true rfl) (fun _ q => s_X12_put q) q (fun h116 q => ?_)
    refine r_iinc (v := (1)) (lv' := [_, _, _, _, _, _, _, _]) eX12_shortest_119 rfl (by decide) rfl ?_
    refine r_goto (t := 89) eX12_shortest_122 (by decide) ?_
    exact ih _ _ q
theorem sL_X12_shortest_128 {E : Ev} {d kc ks : Nat} {Φ : Ou → Hp → Prop} {y0 : Nat} {y1 : Int32} {y2 : Int32} {y3 : Int32} {y4 : Int32} {y5 : Int32} {y6 : Int32} {K148 : Int32 → Hp → Rs} (hK148 : ∀ (w7 : Int32) (h : Hp), OK (K148 w7 h) Φ → WE E mX12_shortest (d + 11) 148 [some (.ref y0), some (.int y1), some (.int y2), some (.int y3), some (.int y4), some (.int y5), some (.int y6), some (.int w7)] [] h kc ks Φ) : ∀ (g : Nat) (y7 : Int32) (h : Hp), OK (L_X12_shortest_128 E K148 y0 y5 g y7 h) Φ → WE E mX12_shortest (d + 11) 128 [some (.ref y0), some (.int y1), some (.int y2), some (.int y3), some (.int y4), some (.int y5), some (.int y6), some (.int y7)] [] h kc ks Φ := by
  intro g
  induction g with
  | zero => intro y7 h q; exact q.elim
  | succ g ih =>
    intro y7 h q
    refine r_iload eX12_shortest_128 rfl ?_
    refine r_iload eX12_shortest_130 rfl ?_
    refine t_icmp_gt eX12_shortest_132 (t := 192) (by decide) q (fun q => ?_) (fun q => ?_)
    · refine r_iconst (v := (-1)) eX12_shortest_192 (by decide) ?_
      exact t_rtI eX12_shortest_193 rfl q
    refine r_aload_n eX12_shortest_135 rfl ?_
    refine r_iconst (v := (0)) eX12_shortest_136 (by decide) ?_
    refine r_iload eX12_shortest_137 rfl ?_
    refine t_virtI (As := [_, _]) (rest := []) (d' := d + 0 + 4 + 6) (ci := 12) eX12_shortest_139 k_12_475 rfl rfl rfl (by omega) (Nat.le_of_ble_eq_true rfl) (Nat.le_of_ble_eq_true rfl) (fun _ q => s_X12_seek 4 q) q (fun v139 h139 q => ?_)
    refine t_if_ne eX12_shortest_142 (t := 148) (by decide) q (fun q => ?_) (fun q => ?_)
    · exact hK148 _ _ q
    refine r_goto (t := 186) eX12_shortest_145 (by decide) ?_
    refine r_iinc (v := (1)) (lv' := [_, _, _, _, _, _, _, _]) eX12_shortest_186 rfl (by decide) rfl ?_
    refine r_goto (t := 128) eX12_shortest_189 (by decide) ?_
    exact ih _ _ q
theorem s_X12_shortest {E : Ev} {d : Nat} {a0 : Nat} {x1 : Int32} {x2 : Int32} {x3 : Int32} {x4 : Int32} {x5 : Int32} {x6 : Int32} {h : Hp} {Φ : Ou → Hp → Prop} (q : OK (F_X12_shortest E a0 x1 x2 x3 x4 x5 x6 h) Φ) : CE E mX12_shortest (d + 11) [.ref a0, .int x1, .int x2, .int x3, .int x4, .int x5, .int x6] h 0 0 Φ := by
  show WE E mX12_shortest (d + 11) 0 [some (.ref a0), some (.int x1), some (.int x2), some (.int x3), some (.int x4), some (.int x5), some (.int x6), none] [] h 0 0 Φ
  refine r_aload_n eX12_shortest_0 rfl ?_
  refine r_iconst (v := (0)) eX12_shortest_1 (by decide) ?_
  refine t_pf eX12_shortest_2 p_12_97 rfl rfl (fun q => by cases q) q (fun h2 q => ?_)
  refine r_aload_n eX12_shortest_5 rfl ?_
  refine r_iload_n eX12_shortest_6 rfl ?_
  refine t_virtI (As := [_]) (rest := []) (d' := d + 9 + 1) (ci := 12) eX12_shortest_7 k_12_140 rfl rfl rfl (by omega) (Nat.le_of_ble_eq_true rfl) (Nat.le_of_ble_eq_true rfl) (fun _ q => s_X12_isState q) q (fun v7 h7 q => ?_)
  refine t_if_eq eX12_shortest_10 (t := 21) (by decide) q (fun q => ?_) (fun q => ?_)
  · refine r_aload_n eX12_shortest_21 rfl ?_
    refine r_iconst (v := (1)) eX12_shortest_22 (by decide) ?_
    refine t_virtI (As := [_]) (rest := []) (d' := d + 10 + 0) (ci := 12) eX12_shortest_23 k_12_114 rfl rfl rfl (by omega) (Nat.le_of_ble_eq_true rfl) (Nat.le_of_ble_eq_true rfl) (fun _ q => s_X12_fails q) q (fun v23 h23 q => ?_)
    exact t_rtI eX12_shortest_26 rfl q
  refine r_aload_n eX12_shortest_13 rfl ?_
  refine r_iload_n eX12_shortest_14 rfl ?_
  refine t_virtI (As := [_]) (rest := []) (d' := d + 8 + 2) (ci := 12) eX12_shortest_15 k_12_121 rfl rfl rfl (by omega) (Nat.le_of_ble_eq_true rfl) (Nat.le_of_ble_eq_true rfl) (fun _ q => s_X12_isPlace q) q (fun v15 h15 q => ?_)
  refine t_if_ne eX12_shortest_18 (t := 27) (by decide) q (fun q => ?_) (fun q => ?_)
  · refine r_iload eX12_shortest_27 rfl ?_
    refine t_statI (As := [_]) (rest := []) (d' := d + 9 + 1) eX12_shortest_29 k_12_127 rfl (by omega) (Nat.le_of_ble_eq_true rfl) (Nat.le_of_ble_eq_true rfl) (fun _ q => s_X12_isYear q) q (fun v29 h29 q => ?_)
    refine t_if_eq eX12_shortest_32 (t := 64) (by decide) q (fun q => ?_) (fun q => ?_)
    · refine r_aload_n eX12_shortest_64 rfl ?_
      refine r_iconst (v := (2)) eX12_shortest_65 (by decide) ?_
      refine t_virtI (As := [_]) (rest := []) (d' := d + 10 + 0) (ci := 12) eX12_shortest_66 k_12_114 rfl rfl rfl (by omega) (Nat.le_of_ble_eq_true rfl) (Nat.le_of_ble_eq_true rfl) (fun _ q => s_X12_fails q) q (fun v66 h66 q => ?_)
      exact t_rtI eX12_shortest_69 rfl q
    refine r_iload_n eX12_shortest_35 rfl ?_
    refine t_if_le eX12_shortest_36 (t := 64) (by decide) q (fun q => ?_) (fun q => ?_)
    · refine r_aload_n eX12_shortest_64 rfl ?_
      refine r_iconst (v := (2)) eX12_shortest_65 (by decide) ?_
      refine t_virtI (As := [_]) (rest := []) (d' := d + 10 + 0) (ci := 12) eX12_shortest_66 k_12_114 rfl rfl rfl (by omega) (Nat.le_of_ble_eq_true rfl) (Nat.le_of_ble_eq_true rfl) (fun _ q => s_X12_fails q) q (fun v66 h66 q => ?_)
      exact t_rtI eX12_shortest_69 rfl q
    refine r_iload_n eX12_shortest_39 rfl ?_
    refine r_iconst (v := (1)) eX12_shortest_40 (by decide) ?_
    refine r_aload_n eX12_shortest_41 rfl ?_
    refine t_gfR eX12_shortest_42 f_12_9 q (fun v42 q => ?_)
    refine r_iconst (v := (4)) eX12_shortest_45 (by decide) ?_
    refine t_gaI eX12_shortest_46 q (fun v46 q => ?_)
    refine r_ishl eX12_shortest_47 ?_
    refine t_icmp_ge eX12_shortest_48 (t := 64) (by decide) q (fun q => ?_) (fun q => ?_)
    · refine r_aload_n eX12_shortest_64 rfl ?_
      refine r_iconst (v := (2)) eX12_shortest_65 (by decide) ?_
      refine t_virtI (As := [_]) (rest := []) (d' := d + 10 + 0) (ci := 12) eX12_shortest_66 k_12_114 rfl rfl rfl (by omega) (Nat.le_of_ble_eq_true rfl) (Nat.le_of_ble_eq_true rfl) (fun _ q => s_X12_fails q) q (fun v66 h66 q => ?_)
      exact t_rtI eX12_shortest_69 rfl q
    refine r_iload eX12_shortest_51 rfl ?_
    refine r_i2l eX12_shortest_53 ?_
    refine r_lconst (v := 1) eX12_shortest_54 rfl ?_
    refine r_ldc2 eX12_shortest_55 g_12_478 ?_
    refine t_statI (As := [_, _, _]) (rest := []) (d' := d + 10 + 0) eX12_shortest_58 k_12_102 rfl (by omega) (Nat.le_of_ble_eq_true rfl) (Nat.le_of_ble_eq_true rfl) (fun _ q => s_X12_within q) q (fun v58 h58 q => ?_)
    refine t_if_ne eX12_shortest_61 (t := 70) (by decide) q (fun q => ?_) (fun q => ?_)
    · refine r_aload_n eX12_shortest_70 rfl ?_
      refine r_iload eX12_shortest_71 rfl ?_
      refine t_virtV (As := [_]) (rest := []) (d' := d + 4 + 6) (ci := 12) eX12_shortest_73 k_12_193 rfl rfl rfl (by omega) (Nat.le_of_ble_eq_true rfl) (Nat.le_of_ble_eq_true rfl) (fun _ q => s_X12_lay q) q (fun h73 q => ?_)
      refine r_aload_n eX12_shortest_76 rfl ?_
      refine r_iload_n eX12_shortest_77 rfl ?_
      refine t_pf eX12_shortest_78 p_12_466 rfl rfl (fun q => by cases q) q (fun h78 q => ?_)
      refine r_aload_n eX12_shortest_81 rfl ?_
      refine r_iload_n eX12_shortest_82 rfl ?_
      refine t_pf eX12_shortest_83 p_12_463 rfl rfl (fun q => by cases q) q (fun h83 q => ?_)
      refine r_iconst (v := (0)) eX12_shortest_86 (by decide) ?_
      refine r_istore (lv' := [_, _, _, _, _, _, _, _]) eX12_shortest_87 (Nat.le_of_ble_eq_true rfl) rfl ?_
      refine sL_X12_shortest_89 (fun w1 h2 q => ?_) _ _ _ q
      refine r_iconst (v := (1)) eX12_shortest_125 (by decide) ?_
      refine r_istore (lv' := [_, _, _, _, _, _, _, _]) eX12_shortest_126 (Nat.le_of_ble_eq_true rfl) rfl ?_
      refine sL_X12_shortest_128 (fun w3 h4 q => ?_) _ _ _ q
      refine r_iload eX12_shortest_148 rfl ?_
      refine r_iconst (v := (-1)) eX12_shortest_150 (by decide) ?_
      refine t_icmp_ne eX12_shortest_151 (t := 159) (by decide) q (fun q => ?_) (fun q => ?_)
      · refine r_iload eX12_shortest_159 rfl ?_
        refine r_i2l eX12_shortest_161 ?_
        refine r_lconst (v := 0) eX12_shortest_162 rfl ?_
        refine r_iload eX12_shortest_163 rfl ?_
        refine r_iconst (v := (1)) eX12_shortest_165 (by decide) ?_
        refine r_isub eX12_shortest_166 ?_
        refine r_i2l eX12_shortest_167 ?_
        refine t_statI (As := [_, _, _]) (rest := []) (d' := d + 10 + 0) eX12_shortest_168 k_12_102 rfl (by omega) (Nat.le_of_ble_eq_true rfl) (Nat.le_of_ble_eq_true rfl) (fun _ q => s_X12_within q) q (fun v168 h168 q => ?_)
        refine t_if_eq eX12_shortest_171 (t := 184) (by decide) q (fun q => ?_) (fun q => ?_)
        · refine r_iconst (v := (-1)) eX12_shortest_184 (by decide) ?_
          exact t_rtI eX12_shortest_185 rfl q
        refine r_aload_n eX12_shortest_174 rfl ?_
        refine t_gfR eX12_shortest_175 f_12_85 q (fun v175 q => ?_)
        refine r_iload eX12_shortest_178 rfl ?_
        refine t_gaI eX12_shortest_180 q (fun v180 q => ?_)
        refine r_goto (t := 185) eX12_shortest_181 (by decide) ?_
        exact t_rtI eX12_shortest_185 rfl q
      refine r_iload eX12_shortest_154 rfl ?_
      refine r_goto (t := 185) eX12_shortest_156 (by decide) ?_
      exact t_rtI eX12_shortest_185 rfl q
    refine r_aload_n eX12_shortest_64 rfl ?_
    refine r_iconst (v := (2)) eX12_shortest_65 (by decide) ?_
    refine t_virtI (As := [_]) (rest := []) (d' := d + 10 + 0) (ci := 12) eX12_shortest_66 k_12_114 rfl rfl rfl (by omega) (Nat.le_of_ble_eq_true rfl) (Nat.le_of_ble_eq_true rfl) (fun _ q => s_X12_fails q) q (fun v66 h66 q => ?_)
    exact t_rtI eX12_shortest_69 rfl q
  refine r_aload_n eX12_shortest_21 rfl ?_
  refine r_iconst (v := (1)) eX12_shortest_22 (by decide) ?_
  refine t_virtI (As := [_]) (rest := []) (d' := d + 10 + 0) (ci := 12) eX12_shortest_23 k_12_114 rfl rfl rfl (by omega) (Nat.le_of_ble_eq_true rfl) (Nat.le_of_ble_eq_true rfl) (fun _ q => s_X12_fails q) q (fun v23 h23 q => ?_)
  exact t_rtI eX12_shortest_26 rfl q
theorem s_X12_went {E : Ev} {d : Nat} {a0 : Nat} {x1 : Int32} {x2 : Int32} {x3 : Int32} {x4 : Int32} {x5 : Int32} {h : Hp} {Φ : Ou → Hp → Prop} (q : OK (F_X12_went E a0 x1 x2 x3 x4 x5 h) Φ) : CE E mX12_went (d + 4) [.ref a0, .int x1, .int x2, .int x3, .int x4, .int x5] h 0 0 Φ := by
  show WE E mX12_went (d + 4) 0 [some (.ref a0), some (.int x1), some (.int x2), some (.int x3), some (.int x4), some (.int x5), none] [] h 0 0 Φ
  refine r_aload_n eX12_went_0 rfl ?_
  refine r_iconst (v := (0)) eX12_went_1 (by decide) ?_
  refine t_pf eX12_went_2 p_12_97 rfl rfl (fun q => by cases q) q (fun h2 q => ?_)
  refine r_aload_n eX12_went_5 rfl ?_
  refine r_iload_n eX12_went_6 rfl ?_
  refine r_iload_n eX12_went_7 rfl ?_
  refine r_iload_n eX12_went_8 rfl ?_
  refine t_virtI (As := [_, _, _]) (rest := []) (d' := d + 0 + 3) (ci := 12) eX12_went_9 k_12_441 rfl rfl rfl (by omega) (Nat.le_of_ble_eq_true rfl) (Nat.le_of_ble_eq_true rfl) (fun _ q => s_X12_areThere q) q (fun v9 h9 q => ?_)
  refine t_if_eq eX12_went_12 (t := 24) (by decide) q (fun q => ?_) (fun q => ?_)
  · refine r_aload_n eX12_went_24 rfl ?_
    refine r_iconst (v := (1)) eX12_went_25 (by decide) ?_
    refine t_virtI (As := [_]) (rest := []) (d' := d + 3 + 0) (ci := 12) eX12_went_26 k_12_114 rfl rfl rfl (by omega) (Nat.le_of_ble_eq_true rfl) (Nat.le_of_ble_eq_true rfl) (fun _ q => s_X12_fails q) q (fun v26 h26 q => ?_)
    exact t_rtI eX12_went_29 rfl q
  refine r_aload_n eX12_went_15 rfl ?_
  refine r_iload eX12_went_16 rfl ?_
  refine t_virtI (As := [_]) (rest := []) (d' := d + 1 + 2) (ci := 12) eX12_went_18 k_12_121 rfl rfl rfl (by omega) (Nat.le_of_ble_eq_true rfl) (Nat.le_of_ble_eq_true rfl) (fun _ q => s_X12_isPlace q) q (fun v18 h18 q => ?_)
  refine t_if_ne eX12_went_21 (t := 30) (by decide) q (fun q => ?_) (fun q => ?_)
  · refine r_iload eX12_went_30 rfl ?_
    refine t_statI (As := [_]) (rest := []) (d' := d + 2 + 1) eX12_went_32 k_12_127 rfl (by omega) (Nat.le_of_ble_eq_true rfl) (Nat.le_of_ble_eq_true rfl) (fun _ q => s_X12_isYear q) q (fun v32 h32 q => ?_)
    refine t_if_ne eX12_went_35 (t := 44) (by decide) q (fun q => ?_) (fun q => ?_)
    · refine r_aload_n eX12_went_44 rfl ?_
      refine t_gfR eX12_went_45 f_12_9 q (fun v45 q => ?_)
      refine r_bipush (v := (6)) eX12_went_48 (by decide) ?_
      refine t_gaI eX12_went_50 q (fun v50 q => ?_)
      refine r_bipush (v := (30)) eX12_went_51 (by decide) ?_
      refine t_icmp_ne eX12_went_53 (t := 58) (by decide) q (fun q => ?_) (fun q => ?_)
      · refine r_sipush (v := (2838)) eX12_went_58 (by decide) ?_
        refine r_iconst (v := (5)) eX12_went_61 (by decide) ?_
        refine r_aload_n eX12_went_62 rfl ?_
        refine r_bipush (v := (6)) eX12_went_63 (by decide) ?_
        refine t_virtI (As := [_]) (rest := [_, _]) (d' := d + 3 + 0) (ci := 12) eX12_went_65 k_12_118 rfl rfl rfl (by omega) (Nat.le_of_ble_eq_true rfl) (Nat.le_of_ble_eq_true rfl) (fun _ q => s_X12_more q) q (fun v65 h65 q => ?_)
        refine r_imul eX12_went_68 ?_
        refine r_iadd eX12_went_69 ?_
        replace q := OK_lt q
        refine r_istore (lv' := [_, _, _, _, _, _, _]) eX12_went_70 (Nat.le_of_ble_eq_true rfl) rfl ?_
        refine r_aload_n eX12_went_72 rfl ?_
        refine t_gfR eX12_went_73 f_12_9 q (fun v73 q => ?_)
        refine r_iload eX12_went_76 rfl ?_
        refine r_iload_n eX12_went_78 rfl ?_
        refine t_paI eX12_went_79 q (fun h79 q => ?_)
        refine r_aload_n eX12_went_80 rfl ?_
        refine t_gfR eX12_went_81 f_12_9 q (fun v81 q => ?_)
        refine r_iload eX12_went_84 rfl ?_
        refine r_iconst (v := (1)) eX12_went_86 (by decide) ?_
        refine r_iadd eX12_went_87 ?_
        refine r_iload_n eX12_went_88 rfl ?_
        refine t_paI eX12_went_89 q (fun h89 q => ?_)
        refine r_aload_n eX12_went_90 rfl ?_
        refine t_gfR eX12_went_91 f_12_9 q (fun v91 q => ?_)
        refine r_iload eX12_went_94 rfl ?_
        refine r_iconst (v := (2)) eX12_went_96 (by decide) ?_
        refine r_iadd eX12_went_97 ?_
        refine r_iload_n eX12_went_98 rfl ?_
        refine t_paI eX12_went_99 q (fun h99 q => ?_)
        refine r_aload_n eX12_went_100 rfl ?_
        refine t_gfR eX12_went_101 f_12_9 q (fun v101 q => ?_)
        refine r_iload eX12_went_104 rfl ?_
        refine r_iconst (v := (3)) eX12_went_106 (by decide) ?_
        refine r_iadd eX12_went_107 ?_
        refine r_iload eX12_went_108 rfl ?_
        refine t_paI eX12_went_110 q (fun h110 q => ?_)
        refine r_aload_n eX12_went_111 rfl ?_
        refine t_gfR eX12_went_112 f_12_9 q (fun v112 q => ?_)
        refine r_iload eX12_went_115 rfl ?_
        refine r_iconst (v := (4)) eX12_went_117 (by decide) ?_
        refine r_iadd eX12_went_118 ?_
        refine r_iload eX12_went_119 rfl ?_
        refine t_paI eX12_went_121 q (fun h121 q => ?_)
        refine r_aload_n eX12_went_122 rfl ?_
        refine t_gfR eX12_went_123 f_12_9 q (fun v123 q => ?_)
        refine r_bipush (v := (6)) eX12_went_126 (by decide) ?_
        refine t_gaI eX12_went_128 q (fun v128 q => ?_)
        exact t_rtI eX12_went_129 rfl q
      refine r_iconst (v := (-1)) eX12_went_56 (by decide) ?_
      exact t_rtI eX12_went_57 rfl q
    refine r_aload_n eX12_went_38 rfl ?_
    refine r_iconst (v := (2)) eX12_went_39 (by decide) ?_
    refine t_virtI (As := [_]) (rest := []) (d' := d + 3 + 0) (ci := 12) eX12_went_40 k_12_114 rfl rfl rfl (by omega) (Nat.le_of_ble_eq_true rfl) (Nat.le_of_ble_eq_true rfl) (fun _ q => s_X12_fails q) q (fun v40 h40 q => ?_)
    exact t_rtI eX12_went_43 rfl q
  refine r_aload_n eX12_went_24 rfl ?_
  refine r_iconst (v := (1)) eX12_went_25 (by decide) ?_
  refine t_virtI (As := [_]) (rest := []) (d' := d + 3 + 0) (ci := 12) eX12_went_26 k_12_114 rfl rfl rfl (by omega) (Nat.le_of_ble_eq_true rfl) (Nat.le_of_ble_eq_true rfl) (fun _ q => s_X12_fails q) q (fun v26 h26 q => ?_)
  exact t_rtI eX12_went_29 rfl q
theorem sL_X12_isAsWent_2 {E : Ev} {d kc ks : Nat} {Φ : Ou → Hp → Prop} {y0 : Nat} {y1 : Int32}  : ∀ (g : Nat) (y2 : Int32) (y3 : Option Value) (y4 : Option Value) (h : Hp), OK (L_X12_isAsWent_2 E y0 y1 g y2 h) Φ → WE E mX12_isAsWent (d + 8) 2 [some (.ref y0), some (.int y1), some (.int y2), y3, y4] [] h kc ks Φ := by
  intro g
  induction g with
  | zero => intro y2 y3 y4 h q; exact q.elim
  | succ g ih =>
    intro y2 y3 y4 h q
    refine r_iload_n eX12_isAsWent_2 rfl ?_
    refine r_aload_n eX12_isAsWent_3 rfl ?_
    refine t_gfR eX12_isAsWent_4 f_12_9 q (fun v4 q => ?_)
    refine r_bipush (v := (6)) eX12_isAsWent_7 (by decide) ?_
    refine t_gaI eX12_isAsWent_9 q (fun v9 q => ?_)
    refine t_icmp_ge eX12_isAsWent_10 (t := 111) (by decide) q (fun q => ?_) (fun q => ?_)
    · refine r_iconst (v := (1)) eX12_isAsWent_111 (by decide) ?_
      exact t_rtZ eX12_isAsWent_112 rfl q
    refine r_sipush (v := (2838)) eX12_isAsWent_13 (by decide) ?_
    refine r_iconst (v := (5)) eX12_isAsWent_16 (by decide) ?_
    refine r_iload_n eX12_isAsWent_17 rfl ?_
    refine r_imul eX12_isAsWent_18 ?_
    refine r_iadd eX12_isAsWent_19 ?_
    replace q := OK_lt q
    refine r_istore_n (lv' := [_, _, _, _, _]) eX12_isAsWent_20 (Nat.le_of_ble_eq_true rfl) rfl ?_
    refine r_aload_n eX12_isAsWent_21 rfl ?_
    refine t_gfR eX12_isAsWent_22 f_12_9 q (fun v22 q => ?_)
    refine r_iload_n eX12_isAsWent_25 rfl ?_
    refine t_gaI eX12_isAsWent_26 q (fun v26 q => ?_)
    refine r_iload_n eX12_isAsWent_27 rfl ?_
    refine t_icmp_eq eX12_isAsWent_28 (t := 34) (by decide) q (fun q => ?_) (fun q => ?_)
    · refine r_aload_n eX12_isAsWent_34 rfl ?_
      refine r_aload_n eX12_isAsWent_35 rfl ?_
      refine t_gfR eX12_isAsWent_36 f_12_9 q (fun v36 q => ?_)
      refine r_iload_n eX12_isAsWent_39 rfl ?_
      refine r_iconst (v := (1)) eX12_isAsWent_40 (by decide) ?_
      refine r_iadd eX12_isAsWent_41 ?_
      refine t_gaI eX12_isAsWent_42 q (fun v42 q => ?_)
      refine r_iload_n eX12_isAsWent_43 rfl ?_
      refine r_aload_n eX12_isAsWent_44 rfl ?_
      refine t_gfR eX12_isAsWent_45 f_12_9 q (fun v45 q => ?_)
      refine r_iload_n eX12_isAsWent_48 rfl ?_
      refine r_iconst (v := (2)) eX12_isAsWent_49 (by decide) ?_
      refine r_iadd eX12_isAsWent_50 ?_
      refine t_gaI eX12_isAsWent_51 q (fun v51 q => ?_)
      refine r_aload_n eX12_isAsWent_52 rfl ?_
      refine t_gfR eX12_isAsWent_53 f_12_9 q (fun v53 q => ?_)
      refine r_iload_n eX12_isAsWent_56 rfl ?_
      refine r_iconst (v := (3)) eX12_isAsWent_57 (by decide) ?_
      refine r_iadd eX12_isAsWent_58 ?_
      refine t_gaI eX12_isAsWent_59 q (fun v59 q => ?_)
      refine r_aload_n eX12_isAsWent_60 rfl ?_
      refine r_aload_n eX12_isAsWent_61 rfl ?_
      refine t_gfR eX12_isAsWent_62 f_12_9 q (fun v62 q => ?_)
      refine r_iload_n eX12_isAsWent_65 rfl ?_
      refine r_iconst (v := (1)) eX12_isAsWent_66 (by decide) ?_
      refine r_iadd eX12_isAsWent_67 ?_
      refine t_gaI eX12_isAsWent_68 q (fun v68 q => ?_)
      refine t_virtI (As := [_]) (rest := [_, _, _, _, _]) (d' := d + 7 + 0) (ci := 12) eX12_isAsWent_69 k_12_374 rfl rfl rfl (by omega) (Nat.le_of_ble_eq_true rfl) (Nat.le_of_ble_eq_true rfl) (fun _ q => s_X12_sayingsOf q) q (fun v69 h69 q => ?_)
      refine t_virtI (As := [_, _, _, _, _]) (rest := []) (d' := d + 0 + 7) (ci := 12) eX12_isAsWent_72 k_12_430 rfl rfl rfl (by omega) (Nat.le_of_ble_eq_true rfl) (Nat.le_of_ble_eq_true rfl) (fun _ q => s_X12_goes q) q (fun v72 h72 q => ?_)
      refine r_istore (lv' := [_, _, _, _, _]) eX12_isAsWent_75 (Nat.le_of_ble_eq_true rfl) rfl ?_
      refine r_aload_n eX12_isAsWent_77 rfl ?_
      refine r_aload_n eX12_isAsWent_78 rfl ?_
      refine t_gfR eX12_isAsWent_79 f_12_67 q (fun v79 q => ?_)
      refine t_virtI (As := [_]) (rest := []) (d' := d + 4 + 3) (ci := 12) eX12_isAsWent_82 k_12_434 rfl rfl rfl (by omega) (Nat.le_of_ble_eq_true rfl) (Nat.le_of_ble_eq_true rfl) (fun _ q => s_X12_placesOf q) q (fun v82 h82 q => ?_)
      refine r_istore (lv' := [_, _, _, _, _]) eX12_isAsWent_85 (Nat.le_of_ble_eq_true rfl) rfl ?_
      refine r_aload_n eX12_isAsWent_87 rfl ?_
      refine t_gfR eX12_isAsWent_88 f_12_67 q (fun v88 q => ?_)
      refine r_aload_n eX12_isAsWent_91 rfl ?_
      refine t_gfR eX12_isAsWent_92 f_12_9 q (fun v92 q => ?_)
      refine r_iload_n eX12_isAsWent_95 rfl ?_
      refine r_iconst (v := (4)) eX12_isAsWent_96 (by decide) ?_
      refine r_iadd eX12_isAsWent_97 ?_
      refine t_gaI eX12_isAsWent_98 q (fun v98 q => ?_)
      refine t_gaZ eX12_isAsWent_99 q (fun v99 q => ?_)
      refine t_if_ne eX12_isAsWent_100 (t := 105) (by decide) q (fun q => ?_) (fun q => ?_)
      · refine r_iinc (v := (1)) (lv' := [_, _, _, _, _]) eX12_isAsWent_105 rfl (by decide) rfl ?_
        refine r_goto (t := 2) eX12_isAsWent_108 (by decide) ?_
        exact ih _ _ _ _ q
      refine r_iconst (v := (0)) eX12_isAsWent_103 (by decide) ?_
      exact t_rtZ eX12_isAsWent_104 rfl q
    refine r_goto (t := 105) eX12_isAsWent_31 (by decide) ?_
    refine r_iinc (v := (1)) (lv' := [_, _, _, _, _]) eX12_isAsWent_105 rfl (by decide) rfl ?_
    refine r_goto (t := 2) eX12_isAsWent_108 (by decide) ?_
    exact ih _ _ _ _ q
theorem s_X12_isAsWent {E : Ev} {d : Nat} {a0 : Nat} {x1 : Int32} {h : Hp} {Φ : Ou → Hp → Prop} (q : OK (F_X12_isAsWent E a0 x1 h) Φ) : CE E mX12_isAsWent (d + 8) [.ref a0, .int x1] h 0 0 Φ := by
  show WE E mX12_isAsWent (d + 8) 0 [some (.ref a0), some (.int x1), none, none, none] [] h 0 0 Φ
  refine r_iconst (v := (0)) eX12_isAsWent_0 (by decide) ?_
  refine r_istore_n (lv' := [_, _, _, _, _]) eX12_isAsWent_1 (Nat.le_of_ble_eq_true rfl) rfl ?_
  exact sL_X12_isAsWent_2  _ _ _ _ _ q
theorem sL_X12_learned_62 {E : Ev} {d kc ks : Nat} {Φ : Ou → Hp → Prop} {y0 : Nat} {y1 : Int32} {y2 : Int32} {y3 : Int32} {y4 : Int32} {K111 : Int32 → Hp → Rs} (hK111 : ∀ (w5 : Int32) (w6 : Int32) (h : Hp), OK (K111 w5 h) Φ → WE E mX12_learned (d + 9) 111 [some (.ref y0), some (.int y1), some (.int y2), some (.int y3), some (.int y4), some (.int w5), some (.int w6)] [] h kc ks Φ) : ∀ (g : Nat) (y5 : Int32) (y6 : Int32) (h : Hp), OK (L_X12_learned_62 E K111 y0 y1 y3 g y5 y6 h) Φ → WE E mX12_learned (d + 9) 62 [some (.ref y0), some (.int y1), some (.int y2), some (.int y3), some (.int y4), some (.int y5), some (.int y6)] [] h kc ks Φ := by
  intro g
  induction g with
  | zero => intro y5 y6 h q; exact q.elim
  | succ g ih =>
    intro y5 y6 h q
    refine r_iload eX12_learned_62 rfl ?_
    refine r_bipush (v := (12)) eX12_learned_64 (by decide) ?_
    refine t_icmp_ge eX12_learned_66 (t := 111) (by decide) q (fun q => ?_) (fun q => ?_)
    · exact hK111 _ _ _ q
    refine r_aload_n eX12_learned_69 rfl ?_
    refine t_gfR eX12_learned_70 f_12_9 q (fun v70 q => ?_)
    refine r_iload_n eX12_learned_73 rfl ?_
    refine r_iconst (v := (1)) eX12_learned_74 (by decide) ?_
    refine r_iload eX12_learned_75 rfl ?_
    refine r_ishl eX12_learned_77 ?_
    refine t_paI eX12_learned_78 q (fun h78 q => ?_)
    refine r_aload_n eX12_learned_79 rfl ?_
    refine r_iconst (v := (-1)) eX12_learned_80 (by decide) ?_
    refine t_pf eX12_learned_81 p_12_20 rfl rfl (fun q => by cases q) q (fun h81 q => ?_)
    refine r_iload eX12_learned_84 rfl ?_
    refine r_aload_n eX12_learned_86 rfl ?_
    refine r_iload_n eX12_learned_87 rfl ?_
    refine t_virtI (As := [_]) (rest := [_]) (d' := d + 0 + 8) (ci := 12) eX12_learned_88 k_12_480 rfl rfl rfl (by omega) (Nat.le_of_ble_eq_true rfl) (Nat.le_of_ble_eq_true rfl) (fun _ q => s_X12_isAsWent q) q (fun v88 h88 q => ?_)
    refine t_if_eq eX12_learned_91 (t := 101) (by decide) q (fun q => ?_) (fun q => ?_)
    · refine r_iconst (v := (0)) eX12_learned_101 (by decide) ?_
      refine r_ior eX12_learned_102 ?_
      refine r_istore (lv' := [_, _, _, _, _, _, _]) eX12_learned_103 (Nat.le_of_ble_eq_true rfl) rfl ?_
      refine r_iinc (v := (1)) (lv' := [_, _, _, _, _, _, _]) eX12_learned_105 rfl (by decide) rfl ?_
      refine r_goto (t := 62) eX12_learned_108 (by decide) ?_
      exact ih _ _ _ q
    refine r_iconst (v := (1)) eX12_learned_94 (by decide) ?_
    refine r_iload eX12_learned_95 rfl ?_
    refine r_ishl eX12_learned_97 ?_
    refine r_goto (t := 102) eX12_learned_98 (by decide) ?_
    refine r_ior eX12_learned_102 ?_
    replace q := OK_lt q
    refine r_istore (lv' := [_, _, _, _, _, _, _]) eX12_learned_103 (Nat.le_of_ble_eq_true rfl) rfl ?_
    refine r_iinc (v := (1)) (lv' := [_, _, _, _, _, _, _]) eX12_learned_105 rfl (by decide) rfl ?_
    refine r_goto (t := 62) eX12_learned_108 (by decide) ?_
    exact ih _ _ _ q
theorem s_X12_learned {E : Ev} {d : Nat} {a0 : Nat} {x1 : Int32} {x2 : Int32} {h : Hp} {Φ : Ou → Hp → Prop} (q : OK (F_X12_learned E a0 x1 x2 h) Φ) : CE E mX12_learned (d + 9) [.ref a0, .int x1, .int x2] h 0 0 Φ := by
  show WE E mX12_learned (d + 9) 0 [some (.ref a0), some (.int x1), some (.int x2), none, none, none, none] [] h 0 0 Φ
  refine r_aload_n eX12_learned_0 rfl ?_
  refine r_iconst (v := (0)) eX12_learned_1 (by decide) ?_
  refine t_pf eX12_learned_2 p_12_97 rfl rfl (fun q => by cases q) q (fun h2 q => ?_)
  refine r_aload_n eX12_learned_5 rfl ?_
  refine r_iload_n eX12_learned_6 rfl ?_
  refine t_virtI (As := [_]) (rest := []) (d' := d + 6 + 2) (ci := 12) eX12_learned_7 k_12_222 rfl rfl rfl (by omega) (Nat.le_of_ble_eq_true rfl) (Nat.le_of_ble_eq_true rfl) (fun _ q => s_X12_isWalker q) q (fun v7 h7 q => ?_)
  refine t_if_eq eX12_learned_10 (t := 20) (by decide) q (fun q => ?_) (fun q => ?_)
  · refine r_aload_n eX12_learned_20 rfl ?_
    refine r_iconst (v := (1)) eX12_learned_21 (by decide) ?_
    refine t_virtI (As := [_]) (rest := []) (d' := d + 8 + 0) (ci := 12) eX12_learned_22 k_12_114 rfl rfl rfl (by omega) (Nat.le_of_ble_eq_true rfl) (Nat.le_of_ble_eq_true rfl) (fun _ q => s_X12_fails q) q (fun v22 h22 q => ?_)
    exact t_rtI eX12_learned_25 rfl q
  refine r_iload_n eX12_learned_13 rfl ?_
  refine t_statI (As := [_]) (rest := []) (d' := d + 7 + 1) eX12_learned_14 k_12_134 rfl (by omega) (Nat.le_of_ble_eq_true rfl) (Nat.le_of_ble_eq_true rfl) (fun _ q => s_X12_isName q) q (fun v14 h14 q => ?_)
  refine t_if_ne eX12_learned_17 (t := 26) (by decide) q (fun q => ?_) (fun q => ?_)
  · refine r_sipush (v := (650)) eX12_learned_26 (by decide) ?_
    refine r_bipush (v := (12)) eX12_learned_29 (by decide) ?_
    refine r_aload_n eX12_learned_31 rfl ?_
    refine t_gfR eX12_learned_32 f_12_9 q (fun v32 q => ?_)
    refine r_sipush (v := (722)) eX12_learned_35 (by decide) ?_
    refine r_iconst (v := (5)) eX12_learned_38 (by decide) ?_
    refine r_iload_n eX12_learned_39 rfl ?_
    refine r_imul eX12_learned_40 ?_
    refine r_iadd eX12_learned_41 ?_
    refine t_gaI eX12_learned_42 q (fun v42 q => ?_)
    refine r_imul eX12_learned_43 ?_
    refine r_iadd eX12_learned_44 ?_
    refine r_iload_n eX12_learned_45 rfl ?_
    refine r_iadd eX12_learned_46 ?_
    replace q := OK_lt q
    refine r_istore_n (lv' := [_, _, _, _, _, _, _]) eX12_learned_47 (Nat.le_of_ble_eq_true rfl) rfl ?_
    refine r_aload_n eX12_learned_48 rfl ?_
    refine t_gfR eX12_learned_49 f_12_9 q (fun v49 q => ?_)
    refine r_iload_n eX12_learned_52 rfl ?_
    refine t_gaI eX12_learned_53 q (fun v53 q => ?_)
    refine r_istore (lv' := [_, _, _, _, _, _, _]) eX12_learned_54 (Nat.le_of_ble_eq_true rfl) rfl ?_
    refine r_iconst (v := (0)) eX12_learned_56 (by decide) ?_
    refine r_istore (lv' := [_, _, _, _, _, _, _]) eX12_learned_57 (Nat.le_of_ble_eq_true rfl) rfl ?_
    refine r_iconst (v := (0)) eX12_learned_59 (by decide) ?_
    refine r_istore (lv' := [_, _, _, _, _, _, _]) eX12_learned_60 (Nat.le_of_ble_eq_true rfl) rfl ?_
    refine sL_X12_learned_62 (fun w2 w3 h4 q => ?_) _ _ _ _ q
    refine r_aload_n eX12_learned_111 rfl ?_
    refine t_gfR eX12_learned_112 f_12_9 q (fun v112 q => ?_)
    refine r_iload_n eX12_learned_115 rfl ?_
    refine r_iload eX12_learned_116 rfl ?_
    refine t_paI eX12_learned_118 q (fun h118 q => ?_)
    refine r_aload_n eX12_learned_119 rfl ?_
    refine r_iconst (v := (-1)) eX12_learned_120 (by decide) ?_
    refine t_pf eX12_learned_121 p_12_20 rfl rfl (fun q => by cases q) q (fun h121 q => ?_)
    refine r_iload eX12_learned_124 rfl ?_
    exact t_rtI eX12_learned_126 rfl q
  refine r_aload_n eX12_learned_20 rfl ?_
  refine r_iconst (v := (1)) eX12_learned_21 (by decide) ?_
  refine t_virtI (As := [_]) (rest := []) (d' := d + 8 + 0) (ci := 12) eX12_learned_22 k_12_114 rfl rfl rfl (by omega) (Nat.le_of_ble_eq_true rfl) (Nat.le_of_ble_eq_true rfl) (fun _ q => s_X12_fails q) q (fun v22 h22 q => ?_)
  exact t_rtI eX12_learned_25 rfl q
theorem sL_X12_records_5 {E : Ev} {d kc ks : Nat} {Φ : Ou → Hp → Prop} {y0 : Nat} {y1 : Int32} {y2 : Int32}  : ∀ (g : Nat) (y3 : Int32) (y4 : Int32) (y5 : Option Value) (y6 : Option Value) (h : Hp), OK (L_X12_records_5 E y0 y1 y2 g y3 y4 h) Φ → WE E mX12_records (d + 1) 5 [some (.ref y0), some (.int y1), some (.int y2), some (.int y3), some (.int y4), y5, y6] [] h kc ks Φ := by
  intro g
  induction g with
  | zero => intro y3 y4 y5 y6 h q; exact q.elim
  | succ g ih =>
    intro y3 y4 y5 y6 h q
    refine r_iload eX12_records_5 rfl ?_
    refine r_aload_n eX12_records_7 rfl ?_
    refine t_gfR eX12_records_8 f_12_9 q (fun v8 q => ?_)
    refine r_bipush (v := (6)) eX12_records_11 (by decide) ?_
    refine t_gaI eX12_records_13 q (fun v13 q => ?_)
    refine t_icmp_ge eX12_records_14 (t := 95) (by decide) q (fun q => ?_) (fun q => ?_)
    · refine r_iload_n eX12_records_95 rfl ?_
      exact t_rtI eX12_records_96 rfl q
    refine r_sipush (v := (2838)) eX12_records_17 (by decide) ?_
    refine r_iconst (v := (5)) eX12_records_20 (by decide) ?_
    refine r_iload eX12_records_21 rfl ?_
    refine r_imul eX12_records_23 ?_
    refine r_iadd eX12_records_24 ?_
    replace q := OK_lt q
    refine r_istore (lv' := [_, _, _, _, _, _, _]) eX12_records_25 (Nat.le_of_ble_eq_true rfl) rfl ?_
    refine r_aload_n eX12_records_27 rfl ?_
    refine t_gfR eX12_records_28 f_12_9 q (fun v28 q => ?_)
    refine r_iload eX12_records_31 rfl ?_
    refine r_iconst (v := (1)) eX12_records_33 (by decide) ?_
    refine r_iadd eX12_records_34 ?_
    refine t_gaI eX12_records_35 q (fun v35 q => ?_)
    refine r_istore (lv' := [_, _, _, _, _, _, _]) eX12_records_36 (Nat.le_of_ble_eq_true rfl) rfl ?_
    refine r_iload_n eX12_records_38 rfl ?_
    refine r_aload_n eX12_records_39 rfl ?_
    refine t_gfR eX12_records_40 f_12_9 q (fun v40 q => ?_)
    refine r_sipush (v := (762)) eX12_records_43 (by decide) ?_
    refine r_sipush (v := (173)) eX12_records_46 (by decide) ?_
    refine r_iload eX12_records_49 rfl ?_
    refine r_imul eX12_records_51 ?_
    refine r_iadd eX12_records_52 ?_
    refine r_iconst (v := (1)) eX12_records_53 (by decide) ?_
    refine r_iadd eX12_records_54 ?_
    refine t_gaI eX12_records_55 q (fun v55 q => ?_)
    refine r_iload_n eX12_records_56 rfl ?_
    refine t_icmp_ne eX12_records_57 (t := 86) (by decide) q (fun q => ?_) (fun q => ?_)
    · refine r_iconst (v := (0)) eX12_records_86 (by decide) ?_
      refine r_iadd eX12_records_87 ?_
      refine r_istore_n (lv' := [_, _, _, _, _, _, _]) eX12_records_88 (Nat.le_of_ble_eq_true rfl) rfl ?_
      refine r_iinc (v := (1)) (lv' := [_, _, _, _, _, _, _]) eX12_records_89 rfl (by decide) rfl ?_
      refine r_goto (t := 5) eX12_records_92 (by decide) ?_
      exact ih _ _ _ _ _ q
    refine r_iload_n eX12_records_60 rfl ?_
    refine t_if_ne eX12_records_61 (t := 82) (by decide) q (fun q => ?_) (fun q => ?_)
    · refine r_iconst (v := (1)) eX12_records_82 (by decide) ?_
      refine r_goto (t := 87) eX12_records_83 (by decide) ?_
      refine r_iadd eX12_records_87 ?_
      refine r_istore_n (lv' := [_, _, _, _, _, _, _]) eX12_records_88 (Nat.le_of_ble_eq_true rfl) rfl ?_
      refine r_iinc (v := (1)) (lv' := [_, _, _, _, _, _, _]) eX12_records_89 rfl (by decide) rfl ?_
      refine r_goto (t := 5) eX12_records_92 (by decide) ?_
      exact ih _ _ _ _ _ q
    refine r_aload_n eX12_records_64 rfl ?_
    refine t_gfR eX12_records_65 f_12_9 q (fun v65 q => ?_)
    refine r_iload eX12_records_68 rfl ?_
    refine r_iconst (v := (4)) eX12_records_70 (by decide) ?_
    refine r_iadd eX12_records_71 ?_
    refine t_gaI eX12_records_72 q (fun v72 q => ?_)
    refine r_aload_n eX12_records_73 rfl ?_
    refine r_iload eX12_records_74 rfl ?_
    refine t_virtI (As := [_]) (rest := [_, _]) (d' := d + 0 + 0) (ci := 12) eX12_records_76 k_12_438 rfl rfl rfl (by omega) (Nat.le_of_ble_eq_true rfl) (Nat.le_of_ble_eq_true rfl) (fun _ q => s_X12_goalOf q) q (fun v76 h76 q => ?_)
    refine t_icmp_ne eX12_records_79 (t := 86) (by decide) q (fun q => ?_) (fun q => ?_)
    · refine r_iconst (v := (0)) eX12_records_86 (by decide) ?_
      refine r_iadd eX12_records_87 ?_
      refine r_istore_n (lv' := [_, _, _, _, _, _, _]) eX12_records_88 (Nat.le_of_ble_eq_true rfl) rfl ?_
      refine r_iinc (v := (1)) (lv' := [_, _, _, _, _, _, _]) eX12_records_89 rfl (by decide) rfl ?_
      refine r_goto (t := 5) eX12_records_92 (by decide) ?_
      exact ih _ _ _ _ _ q
    refine r_iconst (v := (1)) eX12_records_82 (by decide) ?_
    refine r_goto (t := 87) eX12_records_83 (by decide) ?_
    refine r_iadd eX12_records_87 ?_
    refine r_istore_n (lv' := [_, _, _, _, _, _, _]) eX12_records_88 (Nat.le_of_ble_eq_true rfl) rfl ?_
    refine r_iinc (v := (1)) (lv' := [_, _, _, _, _, _, _]) eX12_records_89 rfl (by decide) rfl ?_
    refine r_goto (t := 5) eX12_records_92 (by decide) ?_
    exact ih _ _ _ _ _ q
theorem s_X12_records {E : Ev} {d : Nat} {a0 : Nat} {x1 : Int32} {x2 : Int32} {h : Hp} {Φ : Ou → Hp → Prop} (q : OK (F_X12_records E a0 x1 x2 h) Φ) : CE E mX12_records (d + 1) [.ref a0, .int x1, .int x2] h 0 0 Φ := by
  show WE E mX12_records (d + 1) 0 [some (.ref a0), some (.int x1), some (.int x2), none, none, none, none] [] h 0 0 Φ
  refine r_iconst (v := (0)) eX12_records_0 (by decide) ?_
  refine r_istore_n (lv' := [_, _, _, _, _, _, _]) eX12_records_1 (Nat.le_of_ble_eq_true rfl) rfl ?_
  refine r_iconst (v := (0)) eX12_records_2 (by decide) ?_
  refine r_istore (lv' := [_, _, _, _, _, _, _]) eX12_records_3 (Nat.le_of_ble_eq_true rfl) rfl ?_
  exact sL_X12_records_5  _ _ _ _ _ _ q
theorem sL_X12_teller_9 {E : Ev} {d kc ks : Nat} {Φ : Ou → Hp → Prop} {y0 : Nat}  : ∀ (g : Nat) (y1 : Int32) (y2 : Int32) (h : Hp), OK (L_X12_teller_9 E y0 g y1 y2 h) Φ → WE E mX12_teller (d + 2) 9 [some (.ref y0), some (.int y1), some (.int y2)] [] h kc ks Φ := by
  intro g
  induction g with
  | zero => intro y1 y2 h q; exact q.elim
  | succ g ih =>
    intro y1 y2 h q
    refine r_iload_n eX12_teller_9 rfl ?_
    refine r_bipush (v := (10)) eX12_teller_10 (by decide) ?_
    refine t_icmp_ge eX12_teller_12 (t := 69) (by decide) q (fun q => ?_) (fun q => ?_)
    · refine r_iload_n eX12_teller_69 rfl ?_
      exact t_rtI eX12_teller_70 rfl q
    refine r_aload_n eX12_teller_15 rfl ?_
    refine r_iload_n eX12_teller_16 rfl ?_
    refine r_iconst (v := (1)) eX12_teller_17 (by decide) ?_
    refine t_virtI (As := [_, _]) (rest := []) (d' := d + 0 + 1) (ci := 12) eX12_teller_18 k_12_483 rfl rfl rfl (by omega) (Nat.le_of_ble_eq_true rfl) (Nat.le_of_ble_eq_true rfl) (fun _ q => s_X12_records q) q (fun v18 h18 q => ?_)
    refine t_if_ne eX12_teller_21 (t := 27) (by decide) q (fun q => ?_) (fun q => ?_)
    · refine r_iload_n eX12_teller_27 rfl ?_
      refine r_iconst (v := (-1)) eX12_teller_28 (by decide) ?_
      refine t_icmp_eq eX12_teller_29 (t := 61) (by decide) q (fun q => ?_) (fun q => ?_)
      · refine r_iload_n eX12_teller_61 rfl ?_
        refine r_istore_n (lv' := [_, _, _]) eX12_teller_62 (Nat.le_of_ble_eq_true rfl) rfl ?_
        refine r_iinc (v := (1)) (lv' := [_, _, _]) eX12_teller_63 rfl (by decide) rfl ?_
        refine r_goto (t := 9) eX12_teller_66 (by decide) ?_
        exact ih _ _ _ q
      refine r_aload_n eX12_teller_32 rfl ?_
      refine r_iload_n eX12_teller_33 rfl ?_
      refine r_iconst (v := (0)) eX12_teller_34 (by decide) ?_
      refine t_virtI (As := [_, _]) (rest := []) (d' := d + 0 + 1) (ci := 12) eX12_teller_35 k_12_483 rfl rfl rfl (by omega) (Nat.le_of_ble_eq_true rfl) (Nat.le_of_ble_eq_true rfl) (fun _ q => s_X12_records q) q (fun v35 h35 q => ?_)
      refine r_aload_n eX12_teller_38 rfl ?_
      refine r_iload_n eX12_teller_39 rfl ?_
      refine r_iconst (v := (1)) eX12_teller_40 (by decide) ?_
      refine t_virtI (As := [_, _]) (rest := [_]) (d' := d + 0 + 1) (ci := 12) eX12_teller_41 k_12_483 rfl rfl rfl (by omega) (Nat.le_of_ble_eq_true rfl) (Nat.le_of_ble_eq_true rfl) (fun _ q => s_X12_records q) q (fun v41 h41 q => ?_)
      refine r_imul eX12_teller_44 ?_
      refine r_aload_n eX12_teller_45 rfl ?_
      refine r_iload_n eX12_teller_46 rfl ?_
      refine r_iconst (v := (0)) eX12_teller_47 (by decide) ?_
      refine t_virtI (As := [_, _]) (rest := [_]) (d' := d + 0 + 1) (ci := 12) eX12_teller_48 k_12_483 rfl rfl rfl (by omega) (Nat.le_of_ble_eq_true rfl) (Nat.le_of_ble_eq_true rfl) (fun _ q => s_X12_records q) q (fun v48 h48 q => ?_)
      refine r_aload_n eX12_teller_51 rfl ?_
      refine r_iload_n eX12_teller_52 rfl ?_
      refine r_iconst (v := (1)) eX12_teller_53 (by decide) ?_
      refine t_virtI (As := [_, _]) (rest := [_, _]) (d' := d + 0 + 1) (ci := 12) eX12_teller_54 k_12_483 rfl rfl rfl (by omega) (Nat.le_of_ble_eq_true rfl) (Nat.le_of_ble_eq_true rfl) (fun _ q => s_X12_records q) q (fun v54 h54 q => ?_)
      refine r_imul eX12_teller_57 ?_
      refine t_icmp_le eX12_teller_58 (t := 63) (by decide) q (fun q => ?_) (fun q => ?_)
      · refine r_iinc (v := (1)) (lv' := [_, _, _]) eX12_teller_63 rfl (by decide) rfl ?_
        refine r_goto (t := 9) eX12_teller_66 (by decide) ?_
        exact ih _ _ _ q
      refine r_iload_n eX12_teller_61 rfl ?_
      refine r_istore_n (lv' := [_, _, _]) eX12_teller_62 (Nat.le_of_ble_eq_true rfl) rfl ?_
      refine r_iinc (v := (1)) (lv' := [_, _, _]) eX12_teller_63 rfl (by decide) rfl ?_
      refine r_goto (t := 9) eX12_teller_66 (by decide) ?_
      exact ih _ _ _ q
    refine r_goto (t := 63) eX12_teller_24 (by decide) ?_
    refine r_iinc (v := (1)) (lv' := [_, _, _]) eX12_teller_63 rfl (by decide) rfl ?_
    refine r_goto (t := 9) eX12_teller_66 (by decide) ?_
    exact ih _ _ _ q
theorem s_X12_teller {E : Ev} {d : Nat} {a0 : Nat} {h : Hp} {Φ : Ou → Hp → Prop} (q : OK (F_X12_teller E a0 h) Φ) : CE E mX12_teller (d + 2) [.ref a0] h 0 0 Φ := by
  show WE E mX12_teller (d + 2) 0 [some (.ref a0), none, none] [] h 0 0 Φ
  refine r_aload_n eX12_teller_0 rfl ?_
  refine r_iconst (v := (0)) eX12_teller_1 (by decide) ?_
  refine t_pf eX12_teller_2 p_12_97 rfl rfl (fun q => by cases q) q (fun h2 q => ?_)
  refine r_iconst (v := (-1)) eX12_teller_5 (by decide) ?_
  refine r_istore_n (lv' := [_, _, _]) eX12_teller_6 (Nat.le_of_ble_eq_true rfl) rfl ?_
  refine r_iconst (v := (0)) eX12_teller_7 (by decide) ?_
  refine r_istore_n (lv' := [_, _, _]) eX12_teller_8 (Nat.le_of_ble_eq_true rfl) rfl ?_
  exact sL_X12_teller_9  _ _ _ _ q
theorem s_X12_told {E : Ev} {d : Nat} {a0 : Nat} {x1 : Int32} {x2 : Int32} {h : Hp} {Φ : Ou → Hp → Prop} (q : OK (F_X12_told E a0 x1 x2 h) Φ) : CE E mX12_told (d + 2) [.ref a0, .int x1, .int x2] h 0 0 Φ := by
  show WE E mX12_told (d + 2) 0 [some (.ref a0), some (.int x1), some (.int x2)] [] h 0 0 Φ
  refine r_aload_n eX12_told_0 rfl ?_
  refine r_iconst (v := (0)) eX12_told_1 (by decide) ?_
  refine t_pf eX12_told_2 p_12_97 rfl rfl (fun q => by cases q) q (fun h2 q => ?_)
  refine r_iload_n eX12_told_5 rfl ?_
  refine r_i2l eX12_told_6 ?_
  refine r_lconst (v := 0) eX12_told_7 rfl ?_
  refine r_ldc2 eX12_told_8 g_12_359 ?_
  refine t_statI (As := [_, _, _]) (rest := []) (d' := d + 1 + 0) eX12_told_11 k_12_102 rfl (by omega) (Nat.le_of_ble_eq_true rfl) (Nat.le_of_ble_eq_true rfl) (fun _ q => s_X12_within q) q (fun v11 h11 q => ?_)
  refine t_if_eq eX12_told_14 (t := 26) (by decide) q (fun q => ?_) (fun q => ?_)
  · refine r_aload_n eX12_told_26 rfl ?_
    refine r_iconst (v := (1)) eX12_told_27 (by decide) ?_
    refine t_virtI (As := [_]) (rest := []) (d' := d + 1 + 0) (ci := 12) eX12_told_28 k_12_114 rfl rfl rfl (by omega) (Nat.le_of_ble_eq_true rfl) (Nat.le_of_ble_eq_true rfl) (fun _ q => s_X12_fails q) q (fun v28 h28 q => ?_)
    exact t_rtI eX12_told_31 rfl q
  refine r_aload_n eX12_told_17 rfl ?_
  refine r_iload_n eX12_told_18 rfl ?_
  refine r_iload_n eX12_told_19 rfl ?_
  refine t_virtI (As := [_, _]) (rest := []) (d' := d + 0 + 1) (ci := 12) eX12_told_20 k_12_483 rfl rfl rfl (by omega) (Nat.le_of_ble_eq_true rfl) (Nat.le_of_ble_eq_true rfl) (fun _ q => s_X12_records q) q (fun v20 h20 q => ?_)
  refine r_goto (t := 31) eX12_told_23 (by decide) ?_
  exact t_rtI eX12_told_31 rfl q
theorem s_X12_isTray {E : Ev} {d : Nat} {x0 : Int32} {h : Hp} {Φ : Ou → Hp → Prop} (q : OK (F_X12_isTray E x0 h) Φ) : CE E mX12_isTray (d + 1) [.int x0] h 0 0 Φ := by
  show WE E mX12_isTray (d + 1) 0 [some (.int x0)] [] h 0 0 Φ
  refine r_iload_n eX12_isTray_0 rfl ?_
  refine r_i2l eX12_isTray_1 ?_
  refine r_lconst (v := 0) eX12_isTray_2 rfl ?_
  refine r_ldc2 eX12_isTray_3 g_12_478 ?_
  refine t_statI (As := [_, _, _]) (rest := []) (d' := d + 0 + 0) eX12_isTray_6 k_12_102 rfl (by omega) (Nat.le_of_ble_eq_true rfl) (Nat.le_of_ble_eq_true rfl) (fun _ q => s_X12_within q) q (fun v6 h6 q => ?_)
  exact t_rtZ eX12_isTray_9 rfl q
theorem sL_X12_tray_69 {E : Ev} {d kc ks : Nat} {Φ : Ou → Hp → Prop} {y0 : Nat} {y1 : Int32} {y2 : Int32} {y3 : Int32}  : ∀ (g : Nat) (y4 : Int32) (h : Hp), OK (L_X12_tray_69 E y0 y1 g y4 h) Φ → WE E mX12_tray (d + 2) 69 [some (.ref y0), some (.int y1), some (.int y2), some (.int y3), some (.int y4)] [] h kc ks Φ := by
  intro g
  induction g with
  | zero => intro y4 h q; exact q.elim
  | succ g ih =>
    intro y4 h q
    refine r_iload eX12_tray_69 rfl ?_
    refine r_bipush (v := (12)) eX12_tray_71 (by decide) ?_
    refine t_icmp_ge eX12_tray_73 (t := 95) (by decide) q (fun q => ?_) (fun q => ?_)
    · exact t_rtV eX12_tray_95 rfl q
    refine r_aload_n eX12_tray_76 rfl ?_
    refine t_gfR eX12_tray_77 f_12_94 q (fun v77 q => ?_)
    refine r_bipush (v := (12)) eX12_tray_80 (by decide) ?_
    refine r_iload_n eX12_tray_82 rfl ?_
    refine r_imul eX12_tray_83 ?_
    refine r_iload eX12_tray_84 rfl ?_
    refine r_iadd eX12_tray_86 ?_
    refine r_lconst (v := 0) eX12_tray_87 rfl ?_
    refine t_paL eX12_tray_88 q (fun h88 q => ?_)
    refine r_iinc (v := (1)) (lv' := [_, _, _, _, _]) eX12_tray_89 rfl (by decide) rfl ?_
    refine r_goto (t := 69) eX12_tray_92 (by decide) ?_
    exact ih _ _ q
theorem sJ_X12_tray_41 {E : Ev} {d kc ks : Nat} {Φ : Ou → Hp → Prop} {y0 : Nat} {y1 : Int32} {y2 : Int32} {y3 : Int32} {t0 : Nat} {t1 : Int32} {h : Hp}  (q : OK (J_X12_tray_41 E y0 y1 y2 y3 t0 t1 h) Φ) : WE E mX12_tray (d + 2) 41 [some (.ref y0), some (.int y1), some (.int y2), some (.int y3), none] [.int t1, .ref t0] h kc ks Φ := by
  refine t_pf eX12_tray_41 p_12_97 rfl rfl (fun q => by cases q) q (fun h41 q => ?_)
  refine r_aload_n eX12_tray_44 rfl ?_
  refine t_gfI eX12_tray_45 f_12_97 q (fun v45 q => ?_)
  refine t_if_le eX12_tray_48 (t := 52) (by decide) q (fun q => ?_) (fun q => ?_)
  · refine r_aload_n eX12_tray_52 rfl ?_
    refine t_gfR eX12_tray_53 f_12_88 q (fun v53 q => ?_)
    refine r_iload_n eX12_tray_56 rfl ?_
    refine r_iload_n eX12_tray_57 rfl ?_
    refine t_paI eX12_tray_58 q (fun h58 q => ?_)
    refine r_aload_n eX12_tray_59 rfl ?_
    refine t_gfR eX12_tray_60 f_12_91 q (fun v60 q => ?_)
    refine r_iload_n eX12_tray_63 rfl ?_
    refine r_iload_n eX12_tray_64 rfl ?_
    refine t_paI eX12_tray_65 q (fun h65 q => ?_)
    refine r_iconst (v := (0)) eX12_tray_66 (by decide) ?_
    refine r_istore (lv' := [_, _, _, _, _]) eX12_tray_67 (Nat.le_of_ble_eq_true rfl) rfl ?_
    exact sL_X12_tray_69  _ _ _ q
  exact t_rtV eX12_tray_51 rfl q
theorem s_X12_tray {E : Ev} {d : Nat} {a0 : Nat} {x1 : Int32} {x2 : Int32} {x3 : Int32} {h : Hp} {Φ : Ou → Hp → Prop} (q : OK (F_X12_tray E a0 x1 x2 x3 h) Φ) : CE E mX12_tray (d + 2) [.ref a0, .int x1, .int x2, .int x3] h 0 0 Φ := by
  show WE E mX12_tray (d + 2) 0 [some (.ref a0), some (.int x1), some (.int x2), some (.int x3), none] [] h 0 0 Φ
  refine r_aload_n eX12_tray_0 rfl ?_
  refine r_iload_n eX12_tray_1 rfl ?_
  refine t_statI (As := [_]) (rest := [_]) (d' := d + 0 + 1) eX12_tray_2 k_12_487 rfl (by omega) (Nat.le_of_ble_eq_true rfl) (Nat.le_of_ble_eq_true rfl) (fun _ q => s_X12_isTray q) q (fun v2 h2 q => ?_)
  refine t_if_ne eX12_tray_5 (t := 12) (by decide) q (fun q => ?_) (fun q => ?_)
  · refine r_iload_n eX12_tray_12 rfl ?_
    refine r_i2l eX12_tray_13 ?_
    refine r_lconst (v := 0) eX12_tray_14 rfl ?_
    refine r_ldc2 eX12_tray_15 g_12_478 ?_
    refine t_statI (As := [_, _, _]) (rest := [_]) (d' := d + 1 + 0) eX12_tray_18 k_12_102 rfl (by omega) (Nat.le_of_ble_eq_true rfl) (Nat.le_of_ble_eq_true rfl) (fun _ q => s_X12_within q) q (fun v18 h18 q => ?_)
    refine t_if_eq eX12_tray_21 (t := 36) (by decide) q (fun q => ?_) (fun q => ?_)
    · refine r_iconst (v := (2)) eX12_tray_36 (by decide) ?_
      refine r_goto (t := 41) eX12_tray_37 (by decide) ?_
      exact sJ_X12_tray_41  q
    refine r_iload_n eX12_tray_24 rfl ?_
    refine r_i2l eX12_tray_25 ?_
    refine r_lconst (v := 0) eX12_tray_26 rfl ?_
    refine r_ldc2 eX12_tray_27 g_12_490 ?_
    refine t_statI (As := [_, _, _]) (rest := [_]) (d' := d + 1 + 0) eX12_tray_30 k_12_102 rfl (by omega) (Nat.le_of_ble_eq_true rfl) (Nat.le_of_ble_eq_true rfl) (fun _ q => s_X12_within q) q (fun v30 h30 q => ?_)
    refine t_if_ne eX12_tray_33 (t := 40) (by decide) q (fun q => ?_) (fun q => ?_)
    · refine r_iconst (v := (0)) eX12_tray_40 (by decide) ?_
      exact sJ_X12_tray_41  q
    refine r_iconst (v := (2)) eX12_tray_36 (by decide) ?_
    refine r_goto (t := 41) eX12_tray_37 (by decide) ?_
    exact sJ_X12_tray_41  q
  refine r_iconst (v := (1)) eX12_tray_8 (by decide) ?_
  refine r_goto (t := 41) eX12_tray_9 (by decide) ?_
  exact sJ_X12_tray_41  q
theorem s_X12_write {E : Ev} {d : Nat} {a0 : Nat} {x1 : Int32} {x2 : Int32} {x3 : Int64} {h : Hp} {Φ : Ou → Hp → Prop} (q : OK (F_X12_write E a0 x1 x2 x3 h) Φ) : CE E mX12_write (d + 2) [.ref a0, .int x1, .int x2, .long x3] h 0 0 Φ := by
  show WE E mX12_write (d + 2) 0 [some (.ref a0), some (.int x1), some (.int x2), some (.long x3), none, none] [] h 0 0 Φ
  refine r_aload_n eX12_write_0 rfl ?_
  refine r_iconst (v := (0)) eX12_write_1 (by decide) ?_
  refine t_pf eX12_write_2 p_12_97 rfl rfl (fun q => by cases q) q (fun h2 q => ?_)
  refine r_iload_n eX12_write_5 rfl ?_
  refine t_statI (As := [_]) (rest := []) (d' := d + 0 + 1) eX12_write_6 k_12_487 rfl (by omega) (Nat.le_of_ble_eq_true rfl) (Nat.le_of_ble_eq_true rfl) (fun _ q => s_X12_isTray q) q (fun v6 h6 q => ?_)
  refine t_if_ne eX12_write_9 (t := 19) (by decide) q (fun q => ?_) (fun q => ?_)
  · refine r_aload_n eX12_write_19 rfl ?_
    refine t_gfR eX12_write_20 f_12_88 q (fun v20 q => ?_)
    refine r_iload_n eX12_write_23 rfl ?_
    refine t_gaI eX12_write_24 q (fun v24 q => ?_)
    refine r_iconst (v := (-1)) eX12_write_25 (by decide) ?_
    refine t_icmp_ne eX12_write_26 (t := 36) (by decide) q (fun q => ?_) (fun q => ?_)
    · refine r_iload_n eX12_write_36 rfl ?_
      refine r_i2l eX12_write_37 ?_
      refine r_lconst (v := 0) eX12_write_38 rfl ?_
      refine r_aload_n eX12_write_39 rfl ?_
      refine t_gfR eX12_write_40 f_12_91 q (fun v40 q => ?_)
      refine r_iload_n eX12_write_43 rfl ?_
      refine t_gaI eX12_write_44 q (fun v44 q => ?_)
      refine r_iconst (v := (1)) eX12_write_45 (by decide) ?_
      refine r_isub eX12_write_46 ?_
      refine r_i2l eX12_write_47 ?_
      refine t_statI (As := [_, _, _]) (rest := []) (d' := d + 1 + 0) eX12_write_48 k_12_102 rfl (by omega) (Nat.le_of_ble_eq_true rfl) (Nat.le_of_ble_eq_true rfl) (fun _ q => s_X12_within q) q (fun v48 h48 q => ?_)
      refine t_if_ne eX12_write_51 (t := 61) (by decide) q (fun q => ?_) (fun q => ?_)
      · refine r_bipush (v := (64)) eX12_write_61 (by decide) ?_
        refine r_bipush (v := (8)) eX12_write_63 (by decide) ?_
        refine r_aload_n eX12_write_65 rfl ?_
        refine t_gfR eX12_write_66 f_12_88 q (fun v66 q => ?_)
        refine r_iload_n eX12_write_69 rfl ?_
        refine t_gaI eX12_write_70 q (fun v70 q => ?_)
        refine r_ishl eX12_write_71 ?_
        refine r_isub eX12_write_72 ?_
        replace q := OK_lt q
        refine r_istore (lv' := [_, _, _, _, _, _]) eX12_write_73 (Nat.le_of_ble_eq_true rfl) rfl ?_
        refine r_aload_n eX12_write_75 rfl ?_
        refine t_gfR eX12_write_76 f_12_94 q (fun v76 q => ?_)
        refine r_bipush (v := (12)) eX12_write_79 (by decide) ?_
        refine r_iload_n eX12_write_81 rfl ?_
        refine r_imul eX12_write_82 ?_
        refine r_iload_n eX12_write_83 rfl ?_
        refine r_iadd eX12_write_84 ?_
        refine r_lload_n eX12_write_85 rfl ?_
        refine r_iload eX12_write_86 rfl ?_
        refine r_lshl eX12_write_88 ?_
        refine r_iload eX12_write_89 rfl ?_
        refine r_lshr eX12_write_91 ?_
        refine t_paL eX12_write_92 q (fun h92 q => ?_)
        refine r_aload_n eX12_write_93 rfl ?_
        refine t_gfR eX12_write_94 f_12_94 q (fun v94 q => ?_)
        refine r_bipush (v := (12)) eX12_write_97 (by decide) ?_
        refine r_iload_n eX12_write_99 rfl ?_
        refine r_imul eX12_write_100 ?_
        refine r_iload_n eX12_write_101 rfl ?_
        refine r_iadd eX12_write_102 ?_
        refine t_gaL eX12_write_103 q (fun v103 q => ?_)
        exact t_rtL eX12_write_104 rfl q
      refine r_aload_n eX12_write_54 rfl ?_
      refine r_iconst (v := (3)) eX12_write_55 (by decide) ?_
      refine t_virtI (As := [_]) (rest := []) (d' := d + 1 + 0) (ci := 12) eX12_write_56 k_12_114 rfl rfl rfl (by omega) (Nat.le_of_ble_eq_true rfl) (Nat.le_of_ble_eq_true rfl) (fun _ q => s_X12_fails q) q (fun v56 h56 q => ?_)
      refine r_i2l eX12_write_59 ?_
      exact t_rtL eX12_write_60 rfl q
    refine r_aload_n eX12_write_29 rfl ?_
    refine r_iconst (v := (2)) eX12_write_30 (by decide) ?_
    refine t_virtI (As := [_]) (rest := []) (d' := d + 1 + 0) (ci := 12) eX12_write_31 k_12_114 rfl rfl rfl (by omega) (Nat.le_of_ble_eq_true rfl) (Nat.le_of_ble_eq_true rfl) (fun _ q => s_X12_fails q) q (fun v31 h31 q => ?_)
    refine r_i2l eX12_write_34 ?_
    exact t_rtL eX12_write_35 rfl q
  refine r_aload_n eX12_write_12 rfl ?_
  refine r_iconst (v := (1)) eX12_write_13 (by decide) ?_
  refine t_virtI (As := [_]) (rest := []) (d' := d + 1 + 0) (ci := 12) eX12_write_14 k_12_114 rfl rfl rfl (by omega) (Nat.le_of_ble_eq_true rfl) (Nat.le_of_ble_eq_true rfl) (fun _ q => s_X12_fails q) q (fun v14 h14 q => ?_)
  refine r_i2l eX12_write_17 ?_
  exact t_rtL eX12_write_18 rfl q
theorem sL_X12_say_74 {E : Ev} {d kc ks : Nat} {Φ : Ou → Hp → Prop} {y0 : Nat} {y1 : Int32} {y2 : Int32} {y3 : Int32} {K119 : Hp → Rs} (hK119 : ∀ (w4 : Int32) (h : Hp), OK (K119 h) Φ → WE E mX12_say (d + 3) 119 [some (.ref y0), some (.int y1), some (.int y2), some (.int y3), some (.int w4), none] [] h kc ks Φ) : ∀ (g : Nat) (y4 : Int32) (h : Hp), OK (L_X12_say_74 E K119 y0 y1 g y4 h) Φ → WE E mX12_say (d + 3) 74 [some (.ref y0), some (.int y1), some (.int y2), some (.int y3), some (.int y4), none] [] h kc ks Φ := by
  intro g
  induction g with
  | zero => intro y4 h q; exact q.elim
  | succ g ih =>
    intro y4 h q
    refine r_iload eX12_say_74 rfl ?_
    refine r_aload_n eX12_say_76 rfl ?_
    refine t_gfR eX12_say_77 f_12_91 q (fun v77 q => ?_)
    refine r_iload_n eX12_say_80 rfl ?_
    refine t_gaI eX12_say_81 q (fun v81 q => ?_)
    refine t_icmp_ge eX12_say_82 (t := 119) (by decide) q (fun q => ?_) (fun q => ?_)
    · exact hK119 _ _ q
    refine r_aload_n eX12_say_85 rfl ?_
    refine t_gfR eX12_say_86 f_12_94 q (fun v86 q => ?_)
    refine r_bipush (v := (12)) eX12_say_89 (by decide) ?_
    refine r_iload_n eX12_say_91 rfl ?_
    refine r_imul eX12_say_92 ?_
    refine r_iload eX12_say_93 rfl ?_
    refine r_iadd eX12_say_95 ?_
    refine t_gaL eX12_say_96 q (fun v96 q => ?_)
    refine r_lconst (v := 0) eX12_say_97 rfl ?_
    refine r_ldc2 eX12_say_98 g_12_492 ?_
    refine t_statI (As := [_, _, _]) (rest := []) (d' := d + 2 + 0) eX12_say_101 k_12_102 rfl (by omega) (Nat.le_of_ble_eq_true rfl) (Nat.le_of_ble_eq_true rfl) (fun _ q => s_X12_within q) q (fun v101 h101 q => ?_)
    refine t_if_ne eX12_say_104 (t := 113) (by decide) q (fun q => ?_) (fun q => ?_)
    · refine r_iinc (v := (1)) (lv' := [_, _, _, _, _, _]) eX12_say_113 rfl (by decide) rfl ?_
      refine r_goto (t := 74) eX12_say_116 (by decide) ?_
      exact ih _ _ q
    refine r_aload_n eX12_say_107 rfl ?_
    refine r_iconst (v := (3)) eX12_say_108 (by decide) ?_
    refine t_virtI (As := [_]) (rest := []) (d' := d + 2 + 0) (ci := 12) eX12_say_109 k_12_114 rfl rfl rfl (by omega) (Nat.le_of_ble_eq_true rfl) (Nat.le_of_ble_eq_true rfl) (fun _ q => s_X12_fails q) q (fun v109 h109 q => ?_)
    exact t_rtI eX12_say_112 rfl q
theorem sJ_X12_say_278 {E : Ev} {d kc ks : Nat} {Φ : Ou → Hp → Prop} {y0 : Nat} {y1 : Int32} {y2 : Int32} {y3 : Int32} {y4 : Int32} {y5 : Int32} {t0 : Nat} {t1 : Int32} {t2 : Int32} {t3 : Int32} {t4 : Int32} {h : Hp} {K140 : Int32 → Hp → Rs} (hK140 : ∀ (w4 : Int32) (w5 : Option Value) (h : Hp), OK (K140 w4 h) Φ → WE E mX12_say (d + 3) 140 [some (.ref y0), some (.int y1), some (.int y2), some (.int y3), some (.int w4), w5] [] h kc ks Φ) (q : OK (J_X12_say_278 E K140 y0 y1 y4 y5 t0 t1 t2 t3 t4 h) Φ) : WE E mX12_say (d + 3) 278 [some (.ref y0), some (.int y1), some (.int y2), some (.int y3), some (.int y4), some (.int y5)] [.int t4, .int t3, .int t2, .int t1, .ref t0] h kc ks Φ := by
  refine r_imul eX12_say_278 ?_
  refine r_iload eX12_say_279 rfl ?_
  refine r_bipush (v := (27)) eX12_say_281 (by decide) ?_
  refine r_isub eX12_say_283 ?_
  refine r_iconst (v := (2)) eX12_say_284 (by decide) ?_
  refine t_rmI eX12_say_285 q (fun v285 q => ?_)
  refine r_iadd eX12_say_286 ?_
  refine r_iconst (v := (-1)) eX12_say_287 (by decide) ?_
  refine t_virtV (As := [_, _, _, _]) (rest := []) (d' := d + 1 + 1) (ci := 12) eX12_say_288 k_12_340 rfl rfl rfl (by omega) (Nat.le_of_ble_eq_true rfl) (Nat.le_of_ble_eq_true rfl) (fun _ q => s_X12_lays q) q (fun h288 q => ?_)
  refine r_iinc (v := (1)) (lv' := [_, _, _, _, _, _]) eX12_say_291 rfl (by decide) rfl ?_
  refine r_goto (t := 140) eX12_say_294 (by decide) ?_
  exact hK140 _ _ _ q
theorem sL_X12_say_140 {E : Ev} {d kc ks : Nat} {Φ : Ou → Hp → Prop} {y0 : Nat} {y1 : Int32} {y2 : Int32} {y3 : Int32} {K297 : Hp → Rs} (hK297 : ∀ (w4 : Int32) (w5 : Option Value) (h : Hp), OK (K297 h) Φ → WE E mX12_say (d + 3) 297 [some (.ref y0), some (.int y1), some (.int y2), some (.int y3), some (.int w4), w5] [] h kc ks Φ) : ∀ (g : Nat) (y4 : Int32) (y5 : Option Value) (h : Hp), OK (L_X12_say_140 E K297 y0 y1 g y4 h) Φ → WE E mX12_say (d + 3) 140 [some (.ref y0), some (.int y1), some (.int y2), some (.int y3), some (.int y4), y5] [] h kc ks Φ := by
  intro g
  induction g with
  | zero => intro y4 y5 h q; exact q.elim
  | succ g ih =>
    intro y4 y5 h q
    refine r_iload eX12_say_140 rfl ?_
    refine r_aload_n eX12_say_142 rfl ?_
    refine t_gfR eX12_say_143 f_12_91 q (fun v143 q => ?_)
    refine r_iload_n eX12_say_146 rfl ?_
    refine t_gaI eX12_say_147 q (fun v147 q => ?_)
    refine t_icmp_ge eX12_say_148 (t := 297) (by decide) q (fun q => ?_) (fun q => ?_)
    · exact hK297 _ _ _ q
    refine r_aload_n eX12_say_151 rfl ?_
    refine t_gfR eX12_say_152 f_12_94 q (fun v152 q => ?_)
    refine r_bipush (v := (12)) eX12_say_155 (by decide) ?_
    refine r_iload_n eX12_say_157 rfl ?_
    refine r_imul eX12_say_158 ?_
    refine r_iload eX12_say_159 rfl ?_
    refine r_iadd eX12_say_161 ?_
    refine t_gaL eX12_say_162 q (fun v162 q => ?_)
    refine r_l2i eX12_say_163 ?_
    refine r_istore (lv' := [_, _, _, _, _, _]) eX12_say_164 (Nat.le_of_ble_eq_true rfl) rfl ?_
    refine r_aload_n eX12_say_166 rfl ?_
    refine t_gfR eX12_say_167 f_12_43 q (fun v167 q => ?_)
    refine r_iconst (v := (3)) eX12_say_170 (by decide) ?_
    refine r_iload eX12_say_171 rfl ?_
    refine r_iadd eX12_say_173 ?_
    refine r_iconst (v := (0)) eX12_say_174 (by decide) ?_
    refine t_paI eX12_say_175 q (fun h175 q => ?_)
    refine r_iload eX12_say_176 rfl ?_
    refine t_if_ne eX12_say_178 (t := 193) (by decide) q (fun q => ?_) (fun q => ?_)
    · refine r_iload eX12_say_193 rfl ?_
      refine r_iconst (v := (3)) eX12_say_195 (by decide) ?_
      refine t_icmp_ge eX12_say_196 (t := 215) (by decide) q (fun q => ?_) (fun q => ?_)
      · refine r_iload eX12_say_215 rfl ?_
        refine r_bipush (v := (15)) eX12_say_217 (by decide) ?_
        refine t_icmp_ge eX12_say_219 (t := 237) (by decide) q (fun q => ?_) (fun q => ?_)
        · refine r_iload eX12_say_237 rfl ?_
          refine r_bipush (v := (27)) eX12_say_239 (by decide) ?_
          refine t_icmp_ge eX12_say_241 (t := 260) (by decide) q (fun q => ?_) (fun q => ?_)
          · refine r_aload_n eX12_say_260 rfl ?_
            refine r_iload eX12_say_261 rfl ?_
            refine r_bipush (v := (9)) eX12_say_263 (by decide) ?_
            refine r_iconst (v := (2)) eX12_say_265 (by decide) ?_
            refine r_iload eX12_say_266 rfl ?_
            refine r_bipush (v := (29)) eX12_say_268 (by decide) ?_
            refine t_icmp_ge eX12_say_270 (t := 277) (by decide) q (fun q => ?_) (fun q => ?_)
            · refine r_iconst (v := (2)) eX12_say_277 (by decide) ?_
              refine sJ_X12_say_278 (fun w1 w2 h3 q => ?_) q
              exact ih _ _ _ q
            refine r_iconst (v := (1)) eX12_say_273 (by decide) ?_
            refine r_goto (t := 278) eX12_say_274 (by decide) ?_
            refine sJ_X12_say_278 (fun w4 w5 h6 q => ?_) q
            exact ih _ _ _ q
          refine r_aload_n eX12_say_244 rfl ?_
          refine r_iload eX12_say_245 rfl ?_
          refine r_iconst (v := (2)) eX12_say_247 (by decide) ?_
          refine r_iconst (v := (0)) eX12_say_248 (by decide) ?_
          refine r_iload eX12_say_249 rfl ?_
          refine r_bipush (v := (15)) eX12_say_251 (by decide) ?_
          refine r_isub eX12_say_253 ?_
          refine t_virtV (As := [_, _, _, _]) (rest := []) (d' := d + 1 + 1) (ci := 12) eX12_say_254 k_12_340 rfl rfl rfl (by omega) (Nat.le_of_ble_eq_true rfl) (Nat.le_of_ble_eq_true rfl) (fun _ q => s_X12_lays q) q (fun h254 q => ?_)
          refine r_goto (t := 291) eX12_say_257 (by decide) ?_
          refine r_iinc (v := (1)) (lv' := [_, _, _, _, _, _]) eX12_say_291 rfl (by decide) rfl ?_
          refine r_goto (t := 140) eX12_say_294 (by decide) ?_
          exact ih _ _ _ q
        refine r_aload_n eX12_say_222 rfl ?_
        refine r_iload eX12_say_223 rfl ?_
        refine r_iconst (v := (1)) eX12_say_225 (by decide) ?_
        refine r_iconst (v := (0)) eX12_say_226 (by decide) ?_
        refine r_iload eX12_say_227 rfl ?_
        refine r_iconst (v := (3)) eX12_say_229 (by decide) ?_
        refine r_isub eX12_say_230 ?_
        refine t_virtV (As := [_, _, _, _]) (rest := []) (d' := d + 1 + 1) (ci := 12) eX12_say_231 k_12_340 rfl rfl rfl (by omega) (Nat.le_of_ble_eq_true rfl) (Nat.le_of_ble_eq_true rfl) (fun _ q => s_X12_lays q) q (fun h231 q => ?_)
        refine r_goto (t := 291) eX12_say_234 (by decide) ?_
        refine r_iinc (v := (1)) (lv' := [_, _, _, _, _, _]) eX12_say_291 rfl (by decide) rfl ?_
        refine r_goto (t := 140) eX12_say_294 (by decide) ?_
        exact ih _ _ _ q
      refine r_aload_n eX12_say_199 rfl ?_
      refine r_iload eX12_say_200 rfl ?_
      refine r_bipush (v := (8)) eX12_say_202 (by decide) ?_
      refine r_iload eX12_say_204 rfl ?_
      refine r_iconst (v := (1)) eX12_say_206 (by decide) ?_
      refine r_isub eX12_say_207 ?_
      refine r_iconst (v := (-1)) eX12_say_208 (by decide) ?_
      refine t_virtV (As := [_, _, _, _]) (rest := []) (d' := d + 1 + 1) (ci := 12) eX12_say_209 k_12_340 rfl rfl rfl (by omega) (Nat.le_of_ble_eq_true rfl) (Nat.le_of_ble_eq_true rfl) (fun _ q => s_X12_lays q) q (fun h209 q => ?_)
      refine r_goto (t := 291) eX12_say_212 (by decide) ?_
      refine r_iinc (v := (1)) (lv' := [_, _, _, _, _, _]) eX12_say_291 rfl (by decide) rfl ?_
      refine r_goto (t := 140) eX12_say_294 (by decide) ?_
      exact ih _ _ _ q
    refine r_aload_n eX12_say_181 rfl ?_
    refine r_iload eX12_say_182 rfl ?_
    refine r_iconst (v := (0)) eX12_say_184 (by decide) ?_
    refine r_iconst (v := (1)) eX12_say_185 (by decide) ?_
    refine r_iconst (v := (-1)) eX12_say_186 (by decide) ?_
    refine t_virtV (As := [_, _, _, _]) (rest := []) (d' := d + 1 + 1) (ci := 12) eX12_say_187 k_12_340 rfl rfl rfl (by omega) (Nat.le_of_ble_eq_true rfl) (Nat.le_of_ble_eq_true rfl) (fun _ q => s_X12_lays q) q (fun h187 q => ?_)
    refine r_goto (t := 291) eX12_say_190 (by decide) ?_
    refine r_iinc (v := (1)) (lv' := [_, _, _, _, _, _]) eX12_say_291 rfl (by decide) rfl ?_
    refine r_goto (t := 140) eX12_say_294 (by decide) ?_
    exact ih _ _ _ q
theorem s_X12_say {E : Ev} {d : Nat} {a0 : Nat} {x1 : Int32} {x2 : Int32} {x3 : Int32} {h : Hp} {Φ : Ou → Hp → Prop} (q : OK (F_X12_say E a0 x1 x2 x3 h) Φ) : CE E mX12_say (d + 3) [.ref a0, .int x1, .int x2, .int x3] h 0 0 Φ := by
  show WE E mX12_say (d + 3) 0 [some (.ref a0), some (.int x1), some (.int x2), some (.int x3), none, none] [] h 0 0 Φ
  refine r_aload_n eX12_say_0 rfl ?_
  refine r_iconst (v := (0)) eX12_say_1 (by decide) ?_
  refine t_pf eX12_say_2 p_12_97 rfl rfl (fun q => by cases q) q (fun h2 q => ?_)
  refine r_iload_n eX12_say_5 rfl ?_
  refine t_statI (As := [_]) (rest := []) (d' := d + 1 + 1) eX12_say_6 k_12_487 rfl (by omega) (Nat.le_of_ble_eq_true rfl) (Nat.le_of_ble_eq_true rfl) (fun _ q => s_X12_isTray q) q (fun v6 h6 q => ?_)
  refine t_if_eq eX12_say_9 (t := 20) (by decide) q (fun q => ?_) (fun q => ?_)
  · refine r_aload_n eX12_say_20 rfl ?_
    refine r_iconst (v := (1)) eX12_say_21 (by decide) ?_
    refine t_virtI (As := [_]) (rest := []) (d' := d + 2 + 0) (ci := 12) eX12_say_22 k_12_114 rfl rfl rfl (by omega) (Nat.le_of_ble_eq_true rfl) (Nat.le_of_ble_eq_true rfl) (fun _ q => s_X12_fails q) q (fun v22 h22 q => ?_)
    exact t_rtI eX12_say_25 rfl q
  refine r_aload_n eX12_say_12 rfl ?_
  refine r_iload_n eX12_say_13 rfl ?_
  refine t_virtI (As := [_]) (rest := []) (d' := d + 0 + 2) (ci := 12) eX12_say_14 k_12_121 rfl rfl rfl (by omega) (Nat.le_of_ble_eq_true rfl) (Nat.le_of_ble_eq_true rfl) (fun _ q => s_X12_isPlace q) q (fun v14 h14 q => ?_)
  refine t_if_ne eX12_say_17 (t := 26) (by decide) q (fun q => ?_) (fun q => ?_)
  · refine r_aload_n eX12_say_26 rfl ?_
    refine t_gfR eX12_say_27 f_12_88 q (fun v27 q => ?_)
    refine r_iload_n eX12_say_30 rfl ?_
    refine t_gaI eX12_say_31 q (fun v31 q => ?_)
    refine r_iconst (v := (-1)) eX12_say_32 (by decide) ?_
    refine t_icmp_ne eX12_say_33 (t := 42) (by decide) q (fun q => ?_) (fun q => ?_)
    · refine r_aload_n eX12_say_42 rfl ?_
      refine t_gfR eX12_say_43 f_12_91 q (fun v43 q => ?_)
      refine r_iload_n eX12_say_46 rfl ?_
      refine t_gaI eX12_say_47 q (fun v47 q => ?_)
      refine r_bipush (v := (10)) eX12_say_48 (by decide) ?_
      refine t_icmp_gt eX12_say_50 (t := 65) (by decide) q (fun q => ?_) (fun q => ?_)
      · refine r_aload_n eX12_say_65 rfl ?_
        refine r_iconst (v := (3)) eX12_say_66 (by decide) ?_
        refine t_virtI (As := [_]) (rest := []) (d' := d + 2 + 0) (ci := 12) eX12_say_67 k_12_114 rfl rfl rfl (by omega) (Nat.le_of_ble_eq_true rfl) (Nat.le_of_ble_eq_true rfl) (fun _ q => s_X12_fails q) q (fun v67 h67 q => ?_)
        exact t_rtI eX12_say_70 rfl q
      refine r_iload_n eX12_say_53 rfl ?_
      refine r_i2l eX12_say_54 ?_
      refine r_lconst (v := 0) eX12_say_55 rfl ?_
      refine r_ldc2 eX12_say_56 g_12_359 ?_
      refine t_statI (As := [_, _, _]) (rest := []) (d' := d + 2 + 0) eX12_say_59 k_12_102 rfl (by omega) (Nat.le_of_ble_eq_true rfl) (Nat.le_of_ble_eq_true rfl) (fun _ q => s_X12_within q) q (fun v59 h59 q => ?_)
      refine t_if_ne eX12_say_62 (t := 71) (by decide) q (fun q => ?_) (fun q => ?_)
      · refine r_iconst (v := (0)) eX12_say_71 (by decide) ?_
        refine r_istore (lv' := [_, _, _, _, _, _]) eX12_say_72 (Nat.le_of_ble_eq_true rfl) rfl ?_
        refine sL_X12_say_74 (fun w1 h2 q => ?_) _ _ _ q
        refine r_aload_n eX12_say_119 rfl ?_
        refine t_gfR eX12_say_120 f_12_9 q (fun v120 q => ?_)
        refine r_iconst (v := (5)) eX12_say_123 (by decide) ?_
        refine t_gaI eX12_say_124 q (fun v124 q => ?_)
        refine r_bipush (v := (12)) eX12_say_125 (by decide) ?_
        refine t_icmp_ne eX12_say_127 (t := 132) (by decide) q (fun q => ?_) (fun q => ?_)
        · refine r_aload_n eX12_say_132 rfl ?_
          refine r_iconst (v := (0)) eX12_say_133 (by decide) ?_
          refine t_pf eX12_say_134 p_12_258 rfl rfl (fun q => by cases q) q (fun h134 q => ?_)
          refine r_iconst (v := (0)) eX12_say_137 (by decide) ?_
          refine r_istore (lv' := [_, _, _, _, _, _]) eX12_say_138 (Nat.le_of_ble_eq_true rfl) rfl ?_
          refine sL_X12_say_140 (fun w3 w4 h5 q => ?_) _ _ _ _ q
          refine r_aload_n eX12_say_297 rfl ?_
          refine r_iload_n eX12_say_298 rfl ?_
          refine r_iload_n eX12_say_299 rfl ?_
          refine r_aload_n eX12_say_300 rfl ?_
          refine t_gfR eX12_say_301 f_12_91 q (fun v301 q => ?_)
          refine r_iload_n eX12_say_304 rfl ?_
          refine t_gaI eX12_say_305 q (fun v305 q => ?_)
          refine t_virtI (As := [_, _, _]) (rest := []) (d' := d + 1 + 1) (ci := 12) eX12_say_306 k_12_367 rfl rfl rfl (by omega) (Nat.le_of_ble_eq_true rfl) (Nat.le_of_ble_eq_true rfl) (fun _ q => s_X12_keeps q) q (fun v306 h306 q => ?_)
          exact t_rtI eX12_say_309 rfl q
        refine r_iconst (v := (-1)) eX12_say_130 (by decide) ?_
        exact t_rtI eX12_say_131 rfl q
      refine r_aload_n eX12_say_65 rfl ?_
      refine r_iconst (v := (3)) eX12_say_66 (by decide) ?_
      refine t_virtI (As := [_]) (rest := []) (d' := d + 2 + 0) (ci := 12) eX12_say_67 k_12_114 rfl rfl rfl (by omega) (Nat.le_of_ble_eq_true rfl) (Nat.le_of_ble_eq_true rfl) (fun _ q => s_X12_fails q) q (fun v67 h67 q => ?_)
      exact t_rtI eX12_say_70 rfl q
    refine r_aload_n eX12_say_36 rfl ?_
    refine r_iconst (v := (2)) eX12_say_37 (by decide) ?_
    refine t_virtI (As := [_]) (rest := []) (d' := d + 2 + 0) (ci := 12) eX12_say_38 k_12_114 rfl rfl rfl (by omega) (Nat.le_of_ble_eq_true rfl) (Nat.le_of_ble_eq_true rfl) (fun _ q => s_X12_fails q) q (fun v38 h38 q => ?_)
    exact t_rtI eX12_say_41 rfl q
  refine r_aload_n eX12_say_20 rfl ?_
  refine r_iconst (v := (1)) eX12_say_21 (by decide) ?_
  refine t_virtI (As := [_]) (rest := []) (d' := d + 2 + 0) (ci := 12) eX12_say_22 k_12_114 rfl rfl rfl (by omega) (Nat.le_of_ble_eq_true rfl) (Nat.le_of_ble_eq_true rfl) (fun _ q => s_X12_fails q) q (fun v22 h22 q => ?_)
  exact t_rtI eX12_say_25 rfl q
theorem sL_X12_image_38 {E : Ev} {d kc ks : Nat} {Φ : Ou → Hp → Prop} {y0 : Nat} {y1 : Int32}  : ∀ (g : Nat) (y2 : Int32) (h : Hp), OK (L_X12_image_38 E y0 y1 g y2 h) Φ → WE E mX12_image (d + 1) 38 [some (.ref y0), some (.int y1), some (.int y2)] [] h kc ks Φ := by
  intro g
  induction g with
  | zero => intro y2 h q; exact q.elim
  | succ g ih =>
    intro y2 h q
    refine r_iload_n eX12_image_38 rfl ?_
    refine r_sipush (v := (2988)) eX12_image_39 (by decide) ?_
    refine t_icmp_ge eX12_image_42 (t := 69) (by decide) q (fun q => ?_) (fun q => ?_)
    · exact t_rtV eX12_image_69 rfl q
    refine r_aload_n eX12_image_45 rfl ?_
    refine t_gfR eX12_image_46 f_12_13 q (fun v46 q => ?_)
    refine r_sipush (v := (2988)) eX12_image_49 (by decide) ?_
    refine r_iload_n eX12_image_52 rfl ?_
    refine r_imul eX12_image_53 ?_
    refine r_iload_n eX12_image_54 rfl ?_
    refine r_iadd eX12_image_55 ?_
    refine r_aload_n eX12_image_56 rfl ?_
    refine t_gfR eX12_image_57 f_12_9 q (fun v57 q => ?_)
    refine r_iload_n eX12_image_60 rfl ?_
    refine t_gaI eX12_image_61 q (fun v61 q => ?_)
    refine t_paI eX12_image_62 q (fun h62 q => ?_)
    refine r_iinc (v := (1)) (lv' := [_, _, _]) eX12_image_63 rfl (by decide) rfl ?_
    refine r_goto (t := 38) eX12_image_66 (by decide) ?_
    exact ih _ _ q
theorem sJ_X12_image_18 {E : Ev} {d kc ks : Nat} {Φ : Ou → Hp → Prop} {y0 : Nat} {y1 : Int32} {t0 : Nat} {t1 : Int32} {h : Hp}  (q : OK (J_X12_image_18 E y0 y1 t0 t1 h) Φ) : WE E mX12_image (d + 1) 18 [some (.ref y0), some (.int y1), none] [.int t1, .ref t0] h kc ks Φ := by
  refine t_pf eX12_image_18 p_12_97 rfl rfl (fun q => by cases q) q (fun h18 q => ?_)
  refine r_aload_n eX12_image_21 rfl ?_
  refine t_gfI eX12_image_22 f_12_97 q (fun v22 q => ?_)
  refine t_if_le eX12_image_25 (t := 29) (by decide) q (fun q => ?_) (fun q => ?_)
  · refine r_aload_n eX12_image_29 rfl ?_
    refine t_gfR eX12_image_30 f_12_16 q (fun v30 q => ?_)
    refine r_iload_n eX12_image_33 rfl ?_
    refine r_iconst (v := (1)) eX12_image_34 (by decide) ?_
    refine t_paZ eX12_image_35 q (fun h35 q => ?_)
    refine r_iconst (v := (0)) eX12_image_36 (by decide) ?_
    refine r_istore_n (lv' := [_, _, _]) eX12_image_37 (Nat.le_of_ble_eq_true rfl) rfl ?_
    exact sL_X12_image_38  _ _ _ q
  exact t_rtV eX12_image_28 rfl q
theorem s_X12_image {E : Ev} {d : Nat} {a0 : Nat} {x1 : Int32} {h : Hp} {Φ : Ou → Hp → Prop} (q : OK (F_X12_image E a0 x1 h) Φ) : CE E mX12_image (d + 1) [.ref a0, .int x1] h 0 0 Φ := by
  show WE E mX12_image (d + 1) 0 [some (.ref a0), some (.int x1), none] [] h 0 0 Φ
  refine r_aload_n eX12_image_0 rfl ?_
  refine r_iload_n eX12_image_1 rfl ?_
  refine r_i2l eX12_image_2 ?_
  refine r_lconst (v := 0) eX12_image_3 rfl ?_
  refine r_ldc2 eX12_image_4 g_12_125 ?_
  refine t_statI (As := [_, _, _]) (rest := [_]) (d' := d + 0 + 0) eX12_image_7 k_12_102 rfl (by omega) (Nat.le_of_ble_eq_true rfl) (Nat.le_of_ble_eq_true rfl) (fun _ q => s_X12_within q) q (fun v7 h7 q => ?_)
  refine t_if_eq eX12_image_10 (t := 17) (by decide) q (fun q => ?_) (fun q => ?_)
  · refine r_iconst (v := (1)) eX12_image_17 (by decide) ?_
    exact sJ_X12_image_18  q
  refine r_iconst (v := (0)) eX12_image_13 (by decide) ?_
  refine r_goto (t := 18) eX12_image_14 (by decide) ?_
  exact sJ_X12_image_18  q
theorem sL_X12_restore_49 {E : Ev} {d kc ks : Nat} {Φ : Ou → Hp → Prop} {y0 : Nat} {y1 : Int32}  : ∀ (g : Nat) (y2 : Int32) (h : Hp), OK (L_X12_restore_49 E y0 y1 g y2 h) Φ → WE E mX12_restore (d + 1) 49 [some (.ref y0), some (.int y1), some (.int y2)] [] h kc ks Φ := by
  intro g
  induction g with
  | zero => intro y2 h q; exact q.elim
  | succ g ih =>
    intro y2 h q
    refine r_iload_n eX12_restore_49 rfl ?_
    refine r_sipush (v := (2988)) eX12_restore_50 (by decide) ?_
    refine t_icmp_ge eX12_restore_53 (t := 80) (by decide) q (fun q => ?_) (fun q => ?_)
    · exact t_rtV eX12_restore_80 rfl q
    refine r_aload_n eX12_restore_56 rfl ?_
    refine t_gfR eX12_restore_57 f_12_9 q (fun v57 q => ?_)
    refine r_iload_n eX12_restore_60 rfl ?_
    refine r_aload_n eX12_restore_61 rfl ?_
    refine t_gfR eX12_restore_62 f_12_13 q (fun v62 q => ?_)
    refine r_sipush (v := (2988)) eX12_restore_65 (by decide) ?_
    refine r_iload_n eX12_restore_68 rfl ?_
    refine r_imul eX12_restore_69 ?_
    refine r_iload_n eX12_restore_70 rfl ?_
    refine r_iadd eX12_restore_71 ?_
    refine t_gaI eX12_restore_72 q (fun v72 q => ?_)
    refine t_paI eX12_restore_73 q (fun h73 q => ?_)
    refine r_iinc (v := (1)) (lv' := [_, _, _]) eX12_restore_74 rfl (by decide) rfl ?_
    refine r_goto (t := 49) eX12_restore_77 (by decide) ?_
    exact ih _ _ q
theorem sJ_X12_restore_31 {E : Ev} {d kc ks : Nat} {Φ : Ou → Hp → Prop} {y0 : Nat} {y1 : Int32} {t0 : Nat} {t1 : Int32} {h : Hp}  (q : OK (J_X12_restore_31 E y0 y1 t0 t1 h) Φ) : WE E mX12_restore (d + 1) 31 [some (.ref y0), some (.int y1), none] [.int t1, .ref t0] h kc ks Φ := by
  refine t_pf eX12_restore_31 p_12_97 rfl rfl (fun q => by cases q) q (fun h31 q => ?_)
  refine r_aload_n eX12_restore_34 rfl ?_
  refine t_gfI eX12_restore_35 f_12_97 q (fun v35 q => ?_)
  refine t_if_le eX12_restore_38 (t := 42) (by decide) q (fun q => ?_) (fun q => ?_)
  · refine r_aload_n eX12_restore_42 rfl ?_
    refine r_iconst (v := (-1)) eX12_restore_43 (by decide) ?_
    refine t_pf eX12_restore_44 p_12_20 rfl rfl (fun q => by cases q) q (fun h44 q => ?_)
    refine r_iconst (v := (0)) eX12_restore_47 (by decide) ?_
    refine r_istore_n (lv' := [_, _, _]) eX12_restore_48 (Nat.le_of_ble_eq_true rfl) rfl ?_
    exact sL_X12_restore_49  _ _ _ q
  exact t_rtV eX12_restore_41 rfl q
theorem s_X12_restore {E : Ev} {d : Nat} {a0 : Nat} {x1 : Int32} {h : Hp} {Φ : Ou → Hp → Prop} (q : OK (F_X12_restore E a0 x1 h) Φ) : CE E mX12_restore (d + 1) [.ref a0, .int x1] h 0 0 Φ := by
  show WE E mX12_restore (d + 1) 0 [some (.ref a0), some (.int x1), none] [] h 0 0 Φ
  refine r_aload_n eX12_restore_0 rfl ?_
  refine r_iload_n eX12_restore_1 rfl ?_
  refine r_i2l eX12_restore_2 ?_
  refine r_lconst (v := 0) eX12_restore_3 rfl ?_
  refine r_ldc2 eX12_restore_4 g_12_125 ?_
  refine t_statI (As := [_, _, _]) (rest := [_]) (d' := d + 0 + 0) eX12_restore_7 k_12_102 rfl (by omega) (Nat.le_of_ble_eq_true rfl) (Nat.le_of_ble_eq_true rfl) (fun _ q => s_X12_within q) q (fun v7 h7 q => ?_)
  refine t_if_ne eX12_restore_10 (t := 17) (by decide) q (fun q => ?_) (fun q => ?_)
  · refine r_aload_n eX12_restore_17 rfl ?_
    refine t_gfR eX12_restore_18 f_12_16 q (fun v18 q => ?_)
    refine r_iload_n eX12_restore_21 rfl ?_
    refine t_gaZ eX12_restore_22 q (fun v22 q => ?_)
    refine t_if_ne eX12_restore_23 (t := 30) (by decide) q (fun q => ?_) (fun q => ?_)
    · refine r_iconst (v := (0)) eX12_restore_30 (by decide) ?_
      exact sJ_X12_restore_31  q
    refine r_iconst (v := (2)) eX12_restore_26 (by decide) ?_
    refine r_goto (t := 31) eX12_restore_27 (by decide) ?_
    exact sJ_X12_restore_31  q
  refine r_iconst (v := (1)) eX12_restore_13 (by decide) ?_
  refine r_goto (t := 31) eX12_restore_14 (by decide) ?_
  exact sJ_X12_restore_31  q
theorem s_X12_count {E : Ev} {d : Nat} {a0 : Nat} {x1 : Int32} {h : Hp} {Φ : Ou → Hp → Prop} (q : OK (F_X12_count E a0 x1 h) Φ) : CE E mX12_count (d + 1) [.ref a0, .int x1] h 0 0 Φ := by
  show WE E mX12_count (d + 1) 0 [some (.ref a0), some (.int x1)] [] h 0 0 Φ
  refine r_aload_n eX12_count_0 rfl ?_
  refine r_iconst (v := (0)) eX12_count_1 (by decide) ?_
  refine t_pf eX12_count_2 p_12_97 rfl rfl (fun q => by cases q) q (fun h2 q => ?_)
  refine r_iload_n eX12_count_5 rfl ?_
  refine r_i2l eX12_count_6 ?_
  refine r_lconst (v := 0) eX12_count_7 rfl ?_
  refine r_ldc2 eX12_count_8 g_12_494 ?_
  refine t_statI (As := [_, _, _]) (rest := []) (d' := d + 0 + 0) eX12_count_11 k_12_102 rfl (by omega) (Nat.le_of_ble_eq_true rfl) (Nat.le_of_ble_eq_true rfl) (fun _ q => s_X12_within q) q (fun v11 h11 q => ?_)
  refine t_if_eq eX12_count_14 (t := 26) (by decide) q (fun q => ?_) (fun q => ?_)
  · refine r_iload_n eX12_count_26 rfl ?_
    refine r_bipush (v := (7)) eX12_count_27 (by decide) ?_
    refine t_icmp_ne eX12_count_29 (t := 39) (by decide) q (fun q => ?_) (fun q => ?_)
    · refine r_iconst (v := (-1)) eX12_count_39 (by decide) ?_
      exact t_rtI eX12_count_40 rfl q
    refine r_aload_n eX12_count_32 rfl ?_
    refine t_gfI eX12_count_33 f_12_231 q (fun v33 q => ?_)
    refine r_goto (t := 40) eX12_count_36 (by decide) ?_
    exact t_rtI eX12_count_40 rfl q
  refine r_aload_n eX12_count_17 rfl ?_
  refine t_gfR eX12_count_18 f_12_9 q (fun v18 q => ?_)
  refine r_iload_n eX12_count_21 rfl ?_
  refine t_gaI eX12_count_22 q (fun v22 q => ?_)
  refine r_goto (t := 40) eX12_count_23 (by decide) ?_
  exact t_rtI eX12_count_40 rfl q
theorem s_L_place {E : Ev} {d : Nat} {a0 : Nat} {x1 : Int32} {x2 : Int32} {a3 : Nat} {h : Hp} {Φ : Ou → Hp → Prop} (q : OK (F_L_place E a0 x1 x2 a3 h) Φ) : CE E mL_place (d + 2) [.ref a0, .int x1, .int x2, .ref a3] h 1 6 Φ := by
  show WE E mL_place (d + 2) 0 [some (.ref a0), some (.int x1), some (.int x2), some (.ref a3), none] [] h 1 6 Φ
  refine r_aload_n eL_place_0 rfl ?_
  refine r_iconst (v := (0)) eL_place_1 (by decide) ?_
  refine r_aload_n eL_place_2 rfl ?_
  refine r_iload_n eL_place_3 rfl ?_
  refine r_iload_n eL_place_4 rfl ?_
  refine t_virtIx (As := [_, _]) (rest := [_, _]) (d' := d + 0 + 1) (ci := 11) (mc := 1) (ms := 6) eL_place_5 k_13_7 l_13_7 rfl rfl rfl (by omega) (Nat.le_of_ble_eq_true rfl) (Nat.le_of_ble_eq_true rfl) (by omega) (by omega) (fun _ q => s_X11_place q) q (fun ex hx q => ?_) (fun v5 h5 q => ?_)
  · refine OK_ite q (fun ec q => ?_) (fun _ q => ?_)
    · subst ec
      refine Or.inr ⟨13, xh_L_place_5_13, fun qq => ?_⟩
      refine r_astore (lv' := [_, _, _, _, _]) eL_place_13 (Nat.le_of_ble_eq_true rfl) rfl ?_
      refine r_iconst (v := (1)) eL_place_15 (by decide) ?_
      exact t_rtI eL_place_16 rfl q
    exact q.elim
  refine r_i2l eL_place_8 ?_
  refine t_paL eL_place_9 q (fun h9 q => ?_)
  refine r_goto (t := 17) eL_place_10 (by decide) ?_
  refine r_iconst (v := (0)) eL_place_17 (by decide) ?_
  exact t_rtI eL_place_18 rfl q
theorem s_L_way {E : Ev} {d : Nat} {a0 : Nat} {x1 : Int32} {x2 : Int32} {x3 : Int32} {x4 : Int32} {x5 : Int32} {x6 : Int32} {a7 : Nat} {h : Hp} {Φ : Ou → Hp → Prop} (q : OK (F_L_way E a0 x1 x2 x3 x4 x5 x6 a7 h) Φ) : CE E mL_way (d + 2) [.ref a0, .int x1, .int x2, .int x3, .int x4, .int x5, .int x6, .ref a7] h 4 24 Φ := by
  show WE E mL_way (d + 2) 0 [some (.ref a0), some (.int x1), some (.int x2), some (.int x3), some (.int x4), some (.int x5), some (.int x6), some (.ref a7), none] [] h 4 24 Φ
  refine r_aload eL_way_0 rfl ?_
  refine r_iconst (v := (0)) eL_way_2 (by decide) ?_
  refine r_aload_n eL_way_3 rfl ?_
  refine r_iload_n eL_way_4 rfl ?_
  refine r_iload_n eL_way_5 rfl ?_
  refine r_iload_n eL_way_6 rfl ?_
  refine r_iload eL_way_7 rfl ?_
  refine r_iload eL_way_9 rfl ?_
  refine r_iload eL_way_11 rfl ?_
  refine t_virtIx (As := [_, _, _, _, _, _]) (rest := [_, _]) (d' := d + 0 + 1) (ci := 11) (mc := 4) (ms := 24) eL_way_13 k_13_15 l_13_15 rfl rfl rfl (by omega) (Nat.le_of_ble_eq_true rfl) (Nat.le_of_ble_eq_true rfl) (by omega) (by omega) (fun _ q => s_X11_way q) q (fun ex hx q => ?_) (fun v13 h13 q => ?_)
  · refine OK_ite q (fun ec q => ?_) (fun _ q => ?_)
    · subst ec
      refine Or.inr ⟨25, xh_L_way_13_25, fun qq => ?_⟩
      refine r_astore (lv' := [_, _, _, _, _, _, _, _, _]) eL_way_25 (Nat.le_of_ble_eq_true rfl) rfl ?_
      refine r_iconst (v := (2)) eL_way_27 (by decide) ?_
      exact t_rtI eL_way_28 rfl q
    refine OK_ite q (fun ec q => ?_) (fun _ q => ?_)
    · subst ec
      refine Or.inr ⟨21, xh_L_way_13_21, fun qq => ?_⟩
      refine r_astore (lv' := [_, _, _, _, _, _, _, _, _]) eL_way_21 (Nat.le_of_ble_eq_true rfl) rfl ?_
      refine r_iconst (v := (1)) eL_way_23 (by decide) ?_
      exact t_rtI eL_way_24 rfl q
    exact q.elim
  refine r_i2l eL_way_16 ?_
  refine t_paL eL_way_17 q (fun h17 q => ?_)
  refine r_goto (t := 29) eL_way_18 (by decide) ?_
  refine r_iconst (v := (0)) eL_way_29 (by decide) ?_
  exact t_rtI eL_way_30 rfl q
theorem s_L_mark {E : Ev} {d : Nat} {a0 : Nat} {x1 : Int32} {x2 : Int32} {x3 : Int32} {x4 : Int32} {x5 : Int32} {a6 : Nat} {h : Hp} {Φ : Ou → Hp → Prop} (q : OK (F_L_mark E a0 x1 x2 x3 x4 x5 a6 h) Φ) : CE E mL_mark (d + 2) [.ref a0, .int x1, .int x2, .int x3, .int x4, .int x5, .ref a6] h 2 12 Φ := by
  show WE E mL_mark (d + 2) 0 [some (.ref a0), some (.int x1), some (.int x2), some (.int x3), some (.int x4), some (.int x5), some (.ref a6), none] [] h 2 12 Φ
  refine r_aload eL_mark_0 rfl ?_
  refine r_iconst (v := (0)) eL_mark_2 (by decide) ?_
  refine r_aload_n eL_mark_3 rfl ?_
  refine r_iload_n eL_mark_4 rfl ?_
  refine r_iload_n eL_mark_5 rfl ?_
  refine r_iload_n eL_mark_6 rfl ?_
  refine r_iload eL_mark_7 rfl ?_
  refine r_iload eL_mark_9 rfl ?_
  refine t_virtIx (As := [_, _, _, _, _]) (rest := [_, _]) (d' := d + 0 + 1) (ci := 11) (mc := 2) (ms := 12) eL_mark_11 k_13_21 l_13_21 rfl rfl rfl (by omega) (Nat.le_of_ble_eq_true rfl) (Nat.le_of_ble_eq_true rfl) (by omega) (by omega) (fun _ q => s_X11_mark q) q (fun ex hx q => ?_) (fun v11 h11 q => ?_)
  · refine OK_ite q (fun ec q => ?_) (fun _ q => ?_)
    · subst ec
      refine Or.inr ⟨23, xh_L_mark_11_23, fun qq => ?_⟩
      refine r_astore (lv' := [_, _, _, _, _, _, _, _]) eL_mark_23 (Nat.le_of_ble_eq_true rfl) rfl ?_
      refine r_iconst (v := (2)) eL_mark_25 (by decide) ?_
      exact t_rtI eL_mark_26 rfl q
    refine OK_ite q (fun ec q => ?_) (fun _ q => ?_)
    · subst ec
      refine Or.inr ⟨19, xh_L_mark_11_19, fun qq => ?_⟩
      refine r_astore (lv' := [_, _, _, _, _, _, _, _]) eL_mark_19 (Nat.le_of_ble_eq_true rfl) rfl ?_
      refine r_iconst (v := (1)) eL_mark_21 (by decide) ?_
      exact t_rtI eL_mark_22 rfl q
    exact q.elim
  refine r_i2l eL_mark_14 ?_
  refine t_paL eL_mark_15 q (fun h15 q => ?_)
  refine r_goto (t := 27) eL_mark_16 (by decide) ?_
  refine r_iconst (v := (0)) eL_mark_27 (by decide) ?_
  exact t_rtI eL_mark_28 rfl q
theorem s_L_ends {E : Ev} {d : Nat} {a0 : Nat} {x1 : Int32} {x2 : Int32} {x3 : Int32} {a4 : Nat} {h : Hp} {Φ : Ou → Hp → Prop} (q : OK (F_L_ends E a0 x1 x2 x3 a4 h) Φ) : CE E mL_ends (d + 2) [.ref a0, .int x1, .int x2, .int x3, .ref a4] h 1 6 Φ := by
  show WE E mL_ends (d + 2) 0 [some (.ref a0), some (.int x1), some (.int x2), some (.int x3), some (.ref a4), none] [] h 1 6 Φ
  refine r_aload eL_ends_0 rfl ?_
  refine r_iconst (v := (0)) eL_ends_2 (by decide) ?_
  refine r_aload_n eL_ends_3 rfl ?_
  refine r_iload_n eL_ends_4 rfl ?_
  refine r_iload_n eL_ends_5 rfl ?_
  refine r_iload_n eL_ends_6 rfl ?_
  refine t_virtIx (As := [_, _, _]) (rest := [_, _]) (d' := d + 0 + 1) (ci := 11) (mc := 1) (ms := 6) eL_ends_7 k_13_25 l_13_25 rfl rfl rfl (by omega) (Nat.le_of_ble_eq_true rfl) (Nat.le_of_ble_eq_true rfl) (by omega) (by omega) (fun _ q => s_X11_ends q) q (fun ex hx q => ?_) (fun v7 h7 q => ?_)
  · refine OK_ite q (fun ec q => ?_) (fun _ q => ?_)
    · subst ec
      refine Or.inr ⟨19, xh_L_ends_7_19, fun qq => ?_⟩
      refine r_astore (lv' := [_, _, _, _, _, _]) eL_ends_19 (Nat.le_of_ble_eq_true rfl) rfl ?_
      refine r_iconst (v := (2)) eL_ends_21 (by decide) ?_
      exact t_rtI eL_ends_22 rfl q
    refine OK_ite q (fun ec q => ?_) (fun _ q => ?_)
    · subst ec
      refine Or.inr ⟨15, xh_L_ends_7_15, fun qq => ?_⟩
      refine r_astore (lv' := [_, _, _, _, _, _]) eL_ends_15 (Nat.le_of_ble_eq_true rfl) rfl ?_
      refine r_iconst (v := (1)) eL_ends_17 (by decide) ?_
      exact t_rtI eL_ends_18 rfl q
    exact q.elim
  refine r_i2l eL_ends_10 ?_
  refine t_paL eL_ends_11 q (fun h11 q => ?_)
  refine r_goto (t := 23) eL_ends_12 (by decide) ?_
  refine r_iconst (v := (0)) eL_ends_23 (by decide) ?_
  exact t_rtI eL_ends_24 rfl q
theorem s_L_state {E : Ev} {d : Nat} {a0 : Nat} {x1 : Int32} {x2 : Int32} {a3 : Nat} {h : Hp} {Φ : Ou → Hp → Prop} (q : OK (F_L_state E a0 x1 x2 a3 h) Φ) : CE E mL_state (d + 2) [.ref a0, .int x1, .int x2, .ref a3] h 2 12 Φ := by
  show WE E mL_state (d + 2) 0 [some (.ref a0), some (.int x1), some (.int x2), some (.ref a3), none] [] h 2 12 Φ
  refine r_aload_n eL_state_0 rfl ?_
  refine r_iconst (v := (0)) eL_state_1 (by decide) ?_
  refine r_aload_n eL_state_2 rfl ?_
  refine r_iload_n eL_state_3 rfl ?_
  refine r_iload_n eL_state_4 rfl ?_
  refine t_virtIx (As := [_, _]) (rest := [_, _]) (d' := d + 0 + 1) (ci := 11) (mc := 2) (ms := 12) eL_state_5 k_13_29 l_13_29 rfl rfl rfl (by omega) (Nat.le_of_ble_eq_true rfl) (Nat.le_of_ble_eq_true rfl) (by omega) (by omega) (fun _ q => s_X11_state q) q (fun ex hx q => ?_) (fun v5 h5 q => ?_)
  · refine OK_ite q (fun ec q => ?_) (fun _ q => ?_)
    · subst ec
      refine Or.inr ⟨17, xh_L_state_5_17, fun qq => ?_⟩
      refine r_astore (lv' := [_, _, _, _, _]) eL_state_17 (Nat.le_of_ble_eq_true rfl) rfl ?_
      refine r_iconst (v := (2)) eL_state_19 (by decide) ?_
      exact t_rtI eL_state_20 rfl q
    refine OK_ite q (fun ec q => ?_) (fun _ q => ?_)
    · subst ec
      refine Or.inr ⟨13, xh_L_state_5_13, fun qq => ?_⟩
      refine r_astore (lv' := [_, _, _, _, _]) eL_state_13 (Nat.le_of_ble_eq_true rfl) rfl ?_
      refine r_iconst (v := (1)) eL_state_15 (by decide) ?_
      exact t_rtI eL_state_16 rfl q
    exact q.elim
  refine r_i2l eL_state_8 ?_
  refine t_paL eL_state_9 q (fun h9 q => ?_)
  refine r_goto (t := 21) eL_state_10 (by decide) ?_
  refine r_iconst (v := (0)) eL_state_21 (by decide) ?_
  exact t_rtI eL_state_22 rfl q
theorem s_L_out {E : Ev} {d : Nat} {a0 : Nat} {x1 : Int32} {x2 : Int32} {x3 : Int32} {a4 : Nat} {h : Hp} {Φ : Ou → Hp → Prop} (q : OK (F_L_out E a0 x1 x2 x3 a4 h) Φ) : CE E mL_out (d + 4) [.ref a0, .int x1, .int x2, .int x3, .ref a4] h 2 12 Φ := by
  show WE E mL_out (d + 4) 0 [some (.ref a0), some (.int x1), some (.int x2), some (.int x3), some (.ref a4), none] [] h 2 12 Φ
  refine r_aload eL_out_0 rfl ?_
  refine r_iconst (v := (0)) eL_out_2 (by decide) ?_
  refine r_aload_n eL_out_3 rfl ?_
  refine r_iload_n eL_out_4 rfl ?_
  refine r_iload_n eL_out_5 rfl ?_
  refine r_iload_n eL_out_6 rfl ?_
  refine t_virtIx (As := [_, _, _]) (rest := [_, _]) (d' := d + 0 + 3) (ci := 11) (mc := 2) (ms := 12) eL_out_7 k_13_32 l_13_32 rfl rfl rfl (by omega) (Nat.le_of_ble_eq_true rfl) (Nat.le_of_ble_eq_true rfl) (by omega) (by omega) (fun _ q => s_X11_out q) q (fun ex hx q => ?_) (fun v7 h7 q => ?_)
  · refine OK_ite q (fun ec q => ?_) (fun _ q => ?_)
    · subst ec
      refine Or.inr ⟨19, xh_L_out_7_19, fun qq => ?_⟩
      refine r_astore (lv' := [_, _, _, _, _, _]) eL_out_19 (Nat.le_of_ble_eq_true rfl) rfl ?_
      refine r_iconst (v := (2)) eL_out_21 (by decide) ?_
      exact t_rtI eL_out_22 rfl q
    refine OK_ite q (fun ec q => ?_) (fun _ q => ?_)
    · subst ec
      refine Or.inr ⟨15, xh_L_out_7_15, fun qq => ?_⟩
      refine r_astore (lv' := [_, _, _, _, _, _]) eL_out_15 (Nat.le_of_ble_eq_true rfl) rfl ?_
      refine r_iconst (v := (1)) eL_out_17 (by decide) ?_
      exact t_rtI eL_out_18 rfl q
    exact q.elim
  refine r_i2l eL_out_10 ?_
  refine t_paL eL_out_11 q (fun h11 q => ?_)
  refine r_goto (t := 23) eL_out_12 (by decide) ?_
  refine r_iconst (v := (0)) eL_out_23 (by decide) ?_
  exact t_rtI eL_out_24 rfl q
theorem s_L_on {E : Ev} {d : Nat} {a0 : Nat} {x1 : Int32} {x2 : Int32} {x3 : Int32} {a4 : Nat} {h : Hp} {Φ : Ou → Hp → Prop} (q : OK (F_L_on E a0 x1 x2 x3 a4 h) Φ) : CE E mL_on (d + 4) [.ref a0, .int x1, .int x2, .int x3, .ref a4] h 2 12 Φ := by
  show WE E mL_on (d + 4) 0 [some (.ref a0), some (.int x1), some (.int x2), some (.int x3), some (.ref a4), none] [] h 2 12 Φ
  refine r_aload eL_on_0 rfl ?_
  refine r_iconst (v := (0)) eL_on_2 (by decide) ?_
  refine r_aload_n eL_on_3 rfl ?_
  refine r_iload_n eL_on_4 rfl ?_
  refine r_iload_n eL_on_5 rfl ?_
  refine r_iload_n eL_on_6 rfl ?_
  refine t_virtIx (As := [_, _, _]) (rest := [_, _]) (d' := d + 0 + 3) (ci := 11) (mc := 2) (ms := 12) eL_on_7 k_13_36 l_13_36 rfl rfl rfl (by omega) (Nat.le_of_ble_eq_true rfl) (Nat.le_of_ble_eq_true rfl) (by omega) (by omega) (fun _ q => s_X11_on q) q (fun ex hx q => ?_) (fun v7 h7 q => ?_)
  · refine OK_ite q (fun ec q => ?_) (fun _ q => ?_)
    · subst ec
      refine Or.inr ⟨19, xh_L_on_7_19, fun qq => ?_⟩
      refine r_astore (lv' := [_, _, _, _, _, _]) eL_on_19 (Nat.le_of_ble_eq_true rfl) rfl ?_
      refine r_iconst (v := (2)) eL_on_21 (by decide) ?_
      exact t_rtI eL_on_22 rfl q
    refine OK_ite q (fun ec q => ?_) (fun _ q => ?_)
    · subst ec
      refine Or.inr ⟨15, xh_L_on_7_15, fun qq => ?_⟩
      refine r_astore (lv' := [_, _, _, _, _, _]) eL_on_15 (Nat.le_of_ble_eq_true rfl) rfl ?_
      refine r_iconst (v := (1)) eL_on_17 (by decide) ?_
      exact t_rtI eL_on_18 rfl q
    exact q.elim
  refine r_i2l eL_on_10 ?_
  refine t_paL eL_on_11 q (fun h11 q => ?_)
  refine r_goto (t := 23) eL_on_12 (by decide) ?_
  refine r_iconst (v := (0)) eL_on_23 (by decide) ?_
  exact t_rtI eL_on_24 rfl q
theorem s_L_means {E : Ev} {d : Nat} {a0 : Nat} {x1 : Int32} {x2 : Int32} {x3 : Int32} {a4 : Nat} {h : Hp} {Φ : Ou → Hp → Prop} (q : OK (F_L_means E a0 x1 x2 x3 a4 h) Φ) : CE E mL_means (d + 2) [.ref a0, .int x1, .int x2, .int x3, .ref a4] h 3 18 Φ := by
  show WE E mL_means (d + 2) 0 [some (.ref a0), some (.int x1), some (.int x2), some (.int x3), some (.ref a4), none] [] h 3 18 Φ
  refine r_aload eL_means_0 rfl ?_
  refine r_iconst (v := (0)) eL_means_2 (by decide) ?_
  refine r_aload_n eL_means_3 rfl ?_
  refine r_iload_n eL_means_4 rfl ?_
  refine r_iload_n eL_means_5 rfl ?_
  refine r_iload_n eL_means_6 rfl ?_
  refine t_virtIx (As := [_, _, _]) (rest := [_, _]) (d' := d + 0 + 1) (ci := 11) (mc := 3) (ms := 18) eL_means_7 k_13_39 l_13_39 rfl rfl rfl (by omega) (Nat.le_of_ble_eq_true rfl) (Nat.le_of_ble_eq_true rfl) (by omega) (by omega) (fun _ q => s_X11_means q) q (fun ex hx q => ?_) (fun v7 h7 q => ?_)
  · refine OK_ite q (fun ec q => ?_) (fun _ q => ?_)
    · subst ec
      refine Or.inr ⟨19, xh_L_means_7_19, fun qq => ?_⟩
      refine r_astore (lv' := [_, _, _, _, _, _]) eL_means_19 (Nat.le_of_ble_eq_true rfl) rfl ?_
      refine r_iconst (v := (2)) eL_means_21 (by decide) ?_
      exact t_rtI eL_means_22 rfl q
    refine OK_ite q (fun ec q => ?_) (fun _ q => ?_)
    · subst ec
      refine Or.inr ⟨15, xh_L_means_7_15, fun qq => ?_⟩
      refine r_astore (lv' := [_, _, _, _, _, _]) eL_means_15 (Nat.le_of_ble_eq_true rfl) rfl ?_
      refine r_iconst (v := (1)) eL_means_17 (by decide) ?_
      exact t_rtI eL_means_18 rfl q
    exact q.elim
  refine r_i2l eL_means_10 ?_
  refine t_paL eL_means_11 q (fun h11 q => ?_)
  refine r_goto (t := 23) eL_means_12 (by decide) ?_
  refine r_iconst (v := (0)) eL_means_23 (by decide) ?_
  exact t_rtI eL_means_24 rfl q
theorem s_L_walker {E : Ev} {d : Nat} {a0 : Nat} {x1 : Int32} {x2 : Int32} {x3 : Int32} {x4 : Int32} {x5 : Int32} {a6 : Nat} {h : Hp} {Φ : Ou → Hp → Prop} (q : OK (F_L_walker E a0 x1 x2 x3 x4 x5 a6 h) Φ) : CE E mL_walker (d + 2) [.ref a0, .int x1, .int x2, .int x3, .int x4, .int x5, .ref a6] h 3 18 Φ := by
  show WE E mL_walker (d + 2) 0 [some (.ref a0), some (.int x1), some (.int x2), some (.int x3), some (.int x4), some (.int x5), some (.ref a6), none] [] h 3 18 Φ
  refine r_aload eL_walker_0 rfl ?_
  refine r_iconst (v := (0)) eL_walker_2 (by decide) ?_
  refine r_aload_n eL_walker_3 rfl ?_
  refine r_iload_n eL_walker_4 rfl ?_
  refine r_iload_n eL_walker_5 rfl ?_
  refine r_iload_n eL_walker_6 rfl ?_
  refine r_iload eL_walker_7 rfl ?_
  refine r_iload eL_walker_9 rfl ?_
  refine t_virtIx (As := [_, _, _, _, _]) (rest := [_, _]) (d' := d + 0 + 1) (ci := 11) (mc := 3) (ms := 18) eL_walker_11 k_13_42 l_13_42 rfl rfl rfl (by omega) (Nat.le_of_ble_eq_true rfl) (Nat.le_of_ble_eq_true rfl) (by omega) (by omega) (fun _ q => s_X11_walker q) q (fun ex hx q => ?_) (fun v11 h11 q => ?_)
  · refine OK_ite q (fun ec q => ?_) (fun _ q => ?_)
    · subst ec
      refine Or.inr ⟨23, xh_L_walker_11_23, fun qq => ?_⟩
      refine r_astore (lv' := [_, _, _, _, _, _, _, _]) eL_walker_23 (Nat.le_of_ble_eq_true rfl) rfl ?_
      refine r_iconst (v := (2)) eL_walker_25 (by decide) ?_
      exact t_rtI eL_walker_26 rfl q
    refine OK_ite q (fun ec q => ?_) (fun _ q => ?_)
    · subst ec
      refine Or.inr ⟨19, xh_L_walker_11_19, fun qq => ?_⟩
      refine r_astore (lv' := [_, _, _, _, _, _, _, _]) eL_walker_19 (Nat.le_of_ble_eq_true rfl) rfl ?_
      refine r_iconst (v := (1)) eL_walker_21 (by decide) ?_
      exact t_rtI eL_walker_22 rfl q
    exact q.elim
  refine r_i2l eL_walker_14 ?_
  refine t_paL eL_walker_15 q (fun h15 q => ?_)
  refine r_goto (t := 27) eL_walker_16 (by decide) ?_
  refine r_iconst (v := (0)) eL_walker_27 (by decide) ?_
  exact t_rtI eL_walker_28 rfl q
theorem s_L_stands {E : Ev} {d : Nat} {a0 : Nat} {x1 : Int32} {x2 : Int32} {x3 : Int32} {x4 : Int32} {x5 : Int32} {a6 : Nat} {h : Hp} {Φ : Ou → Hp → Prop} (q : OK (F_L_stands E a0 x1 x2 x3 x4 x5 a6 h) Φ) : CE E mL_stands (d + 5) [.ref a0, .int x1, .int x2, .int x3, .int x4, .int x5, .ref a6] h 4 24 Φ := by
  show WE E mL_stands (d + 5) 0 [some (.ref a0), some (.int x1), some (.int x2), some (.int x3), some (.int x4), some (.int x5), some (.ref a6), none] [] h 4 24 Φ
  refine r_aload eL_stands_0 rfl ?_
  refine r_iconst (v := (0)) eL_stands_2 (by decide) ?_
  refine r_aload_n eL_stands_3 rfl ?_
  refine r_iload_n eL_stands_4 rfl ?_
  refine r_iload_n eL_stands_5 rfl ?_
  refine r_iload_n eL_stands_6 rfl ?_
  refine r_iload eL_stands_7 rfl ?_
  refine r_iload eL_stands_9 rfl ?_
  refine t_virtIx (As := [_, _, _, _, _]) (rest := [_, _]) (d' := d + 0 + 4) (ci := 11) (mc := 4) (ms := 24) eL_stands_11 k_13_46 l_13_46 rfl rfl rfl (by omega) (Nat.le_of_ble_eq_true rfl) (Nat.le_of_ble_eq_true rfl) (by omega) (by omega) (fun _ q => s_X11_stands q) q (fun ex hx q => ?_) (fun v11 h11 q => ?_)
  · refine OK_ite q (fun ec q => ?_) (fun _ q => ?_)
    · subst ec
      refine Or.inr ⟨30, xh_L_stands_11_30, fun qq => ?_⟩
      refine r_astore (lv' := [_, _, _, _, _, _, _, _]) eL_stands_30 (Nat.le_of_ble_eq_true rfl) rfl ?_
      refine r_iconst (v := (2)) eL_stands_32 (by decide) ?_
      exact t_rtI eL_stands_33 rfl q
    refine OK_ite q (fun ec q => ?_) (fun _ q => ?_)
    · subst ec
      refine Or.inr ⟨26, xh_L_stands_11_26, fun qq => ?_⟩
      refine r_astore (lv' := [_, _, _, _, _, _, _, _]) eL_stands_26 (Nat.le_of_ble_eq_true rfl) rfl ?_
      refine r_iconst (v := (1)) eL_stands_28 (by decide) ?_
      exact t_rtI eL_stands_29 rfl q
    exact q.elim
  refine t_if_eq eL_stands_14 (t := 21) (by decide) q (fun q => ?_) (fun q => ?_)
  · refine r_lconst (v := 0) eL_stands_21 rfl ?_
    refine t_paL eL_stands_22 q (fun h22 q => ?_)
    refine r_goto (t := 34) eL_stands_23 (by decide) ?_
    refine r_iconst (v := (0)) eL_stands_34 (by decide) ?_
    exact t_rtI eL_stands_35 rfl q
  refine r_lconst (v := 1) eL_stands_17 rfl ?_
  refine r_goto (t := 22) eL_stands_18 (by decide) ?_
  refine t_paL eL_stands_22 q (fun h22 q => ?_)
  refine r_goto (t := 34) eL_stands_23 (by decide) ?_
  refine r_iconst (v := (0)) eL_stands_34 (by decide) ?_
  exact t_rtI eL_stands_35 rfl q
theorem s_L_worth {E : Ev} {d : Nat} {a0 : Nat} {x1 : Int32} {x2 : Int32} {x3 : Int32} {x4 : Int32} {a5 : Nat} {h : Hp} {Φ : Ou → Hp → Prop} (q : OK (F_L_worth E a0 x1 x2 x3 x4 a5 h) Φ) : CE E mL_worth (d + 3) [.ref a0, .int x1, .int x2, .int x3, .int x4, .ref a5] h 3 18 Φ := by
  show WE E mL_worth (d + 3) 0 [some (.ref a0), some (.int x1), some (.int x2), some (.int x3), some (.int x4), some (.ref a5), none] [] h 3 18 Φ
  refine r_aload eL_worth_0 rfl ?_
  refine r_iconst (v := (0)) eL_worth_2 (by decide) ?_
  refine r_aload_n eL_worth_3 rfl ?_
  refine r_iload_n eL_worth_4 rfl ?_
  refine r_iload_n eL_worth_5 rfl ?_
  refine r_iload_n eL_worth_6 rfl ?_
  refine r_iload eL_worth_7 rfl ?_
  refine t_virtIx (As := [_, _, _, _]) (rest := [_, _]) (d' := d + 0 + 2) (ci := 11) (mc := 3) (ms := 18) eL_worth_9 k_13_50 l_13_50 rfl rfl rfl (by omega) (Nat.le_of_ble_eq_true rfl) (Nat.le_of_ble_eq_true rfl) (by omega) (by omega) (fun _ q => s_X11_worth q) q (fun ex hx q => ?_) (fun v9 h9 q => ?_)
  · refine OK_ite q (fun ec q => ?_) (fun _ q => ?_)
    · subst ec
      refine Or.inr ⟨21, xh_L_worth_9_21, fun qq => ?_⟩
      refine r_astore (lv' := [_, _, _, _, _, _, _]) eL_worth_21 (Nat.le_of_ble_eq_true rfl) rfl ?_
      refine r_iconst (v := (2)) eL_worth_23 (by decide) ?_
      exact t_rtI eL_worth_24 rfl q
    refine OK_ite q (fun ec q => ?_) (fun _ q => ?_)
    · subst ec
      refine Or.inr ⟨17, xh_L_worth_9_17, fun qq => ?_⟩
      refine r_astore (lv' := [_, _, _, _, _, _, _]) eL_worth_17 (Nat.le_of_ble_eq_true rfl) rfl ?_
      refine r_iconst (v := (1)) eL_worth_19 (by decide) ?_
      exact t_rtI eL_worth_20 rfl q
    exact q.elim
  refine r_i2l eL_worth_12 ?_
  refine t_paL eL_worth_13 q (fun h13 q => ?_)
  refine r_goto (t := 25) eL_worth_14 (by decide) ?_
  refine r_iconst (v := (0)) eL_worth_25 (by decide) ?_
  exact t_rtI eL_worth_26 rfl q
