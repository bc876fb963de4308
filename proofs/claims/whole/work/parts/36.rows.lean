theorem sJ_X12_readSaying_97 {E : Ev} {d kc ks : Nat} {Φ : Ou → Hp → Prop} {y0 : Nat} {y1 : Int32} {y2 : Int32} {h : Hp} {K77 : Int32 → Hp → Rs} (hK77 : ∀ (w2 : Int32) (h : Hp), OK (K77 w2 h) Φ → WE E mX12_readSaying (d + 5) 77 [some (.ref y0), some (.int y1), some (.int w2)] [] h kc ks Φ) (q : OK (J_X12_readSaying_97 E K77 y0 y1 y2 h) Φ) : WE E mX12_readSaying (d + 5) 97 [some (.ref y0), some (.int y1), some (.int y2)] [] h kc ks Φ := by
  refine r_aload_n eX12_readSaying_97 rfl ?_
  refine t_gfI eX12_readSaying_98 f_12_258 q (fun v98 q => ?_)
  refine t_if_eq eX12_readSaying_101 (t := 105) (by decide) q (fun q => ?_) (fun q => ?_)
  · refine r_aload_n eX12_readSaying_105 rfl ?_
    refine t_virtV (As := []) (rest := []) (d' := d + 3 + 1) (ci := 12) eX12_readSaying_106 k_12_307 rfl rfl rfl (by omega) (Nat.le_of_ble_eq_true rfl) (Nat.le_of_ble_eq_true rfl) (fun _ q => s_X12_next q) q (fun h106 q => ?_)
    refine r_aload_n eX12_readSaying_109 rfl ?_
    refine r_iload_n eX12_readSaying_110 rfl ?_
    refine t_virtV (As := [_]) (rest := []) (d' := d + 0 + 4) (ci := 12) eX12_readSaying_111 k_12_354 rfl rfl rfl (by omega) (Nat.le_of_ble_eq_true rfl) (Nat.le_of_ble_eq_true rfl) (fun _ q => s_X12_readWord q) q (fun h111 q => ?_)
    refine r_iinc (v := (1)) (lv' := [_, _, _]) eX12_readSaying_114 rfl (by decide) rfl ?_
    refine r_goto (t := 77) eX12_readSaying_117 (by decide) ?_
    exact hK77 _ _ q
  exact t_rtV eX12_readSaying_104 rfl q
theorem sL_X12_readSaying_77 {E : Ev} {d kc ks : Nat} {Φ : Ou → Hp → Prop} {y0 : Nat} {y1 : Int32} {K120 : Hp → Rs} (hK120 : ∀ (w2 : Int32) (h : Hp), OK (K120 h) Φ → WE E mX12_readSaying (d + 5) 120 [some (.ref y0), some (.int y1), some (.int w2)] [] h kc ks Φ) : ∀ (g : Nat) (y2 : Int32) (h : Hp), OK (L_X12_readSaying_77 E K120 y0 y1 g y2 h) Φ → WE E mX12_readSaying (d + 5) 77 [some (.ref y0), some (.int y1), some (.int y2)] [] h kc ks Φ := by
  intro g
  induction g with
  | zero => intro y2 h q; exact q.elim
  | succ g ih =>
    intro y2 h q
    refine r_aload_n eX12_readSaying_77 rfl ?_
    refine r_ldcws (j := 24) eX12_readSaying_78 rfl ?_
    refine t_virtI (As := [_]) (rest := []) (d' := d + 4 + 0) (ci := 12) eX12_readSaying_81 k_12_276 rfl rfl rfl (by omega) (Nat.le_of_ble_eq_true rfl) (Nat.le_of_ble_eq_true rfl) (fun _ q => s_X12_isWord q) q (fun v81 h81 q => ?_)
    refine t_if_eq eX12_readSaying_84 (t := 120) (by decide) q (fun q => ?_) (fun q => ?_)
    · exact hK120 _ _ q
    refine r_iload_n eX12_readSaying_87 rfl ?_
    refine r_iconst (v := (3)) eX12_readSaying_88 (by decide) ?_
    refine t_icmp_ne eX12_readSaying_89 (t := 97) (by decide) q (fun q => ?_) (fun q => ?_)
    · refine sJ_X12_readSaying_97 (fun w1 h2 q => ?_) q
      exact ih _ _ q
    refine r_aload_n eX12_readSaying_92 rfl ?_
    refine r_iconst (v := (4)) eX12_readSaying_93 (by decide) ?_
    refine t_virtV (As := [_]) (rest := []) (d' := d + 4 + 0) (ci := 12) eX12_readSaying_94 k_12_304 rfl rfl rfl (by omega) (Nat.le_of_ble_eq_true rfl) (Nat.le_of_ble_eq_true rfl) (fun _ q => s_X12_wrong q) q (fun h94 q => ?_)
    refine sJ_X12_readSaying_97 (fun w3 h4 q => ?_) q
    exact ih _ _ q
theorem sJ_X12_readSaying_53 {E : Ev} {d kc ks : Nat} {Φ : Ou → Hp → Prop} {y0 : Nat} {y1 : Int32} {h : Hp}  (q : OK (J_X12_readSaying_53 E y0 y1 h) Φ) : WE E mX12_readSaying (d + 5) 53 [some (.ref y0), some (.int y1), none] [] h kc ks Φ := by
  refine r_aload_n eX12_readSaying_53 rfl ?_
  refine t_gfI eX12_readSaying_54 f_12_258 q (fun v54 q => ?_)
  refine t_if_eq eX12_readSaying_57 (t := 61) (by decide) q (fun q => ?_) (fun q => ?_)
  · refine r_aload_n eX12_readSaying_61 rfl ?_
    refine t_gfR eX12_readSaying_62 f_12_43 q (fun v62 q => ?_)
    refine r_iconst (v := (3)) eX12_readSaying_65 (by decide) ?_
    refine r_iload_n eX12_readSaying_66 rfl ?_
    refine r_iadd eX12_readSaying_67 ?_
    refine r_iconst (v := (0)) eX12_readSaying_68 (by decide) ?_
    refine t_paI eX12_readSaying_69 q (fun h69 q => ?_)
    refine r_aload_n eX12_readSaying_70 rfl ?_
    refine r_iload_n eX12_readSaying_71 rfl ?_
    refine t_virtV (As := [_]) (rest := []) (d' := d + 0 + 4) (ci := 12) eX12_readSaying_72 k_12_354 rfl rfl rfl (by omega) (Nat.le_of_ble_eq_true rfl) (Nat.le_of_ble_eq_true rfl) (fun _ q => s_X12_readWord q) q (fun h72 q => ?_)
    refine r_iconst (v := (0)) eX12_readSaying_75 (by decide) ?_
    refine r_istore_n (lv' := [_, _, _]) eX12_readSaying_76 (Nat.le_of_ble_eq_true rfl) rfl ?_
    refine sL_X12_readSaying_77 (fun w1 h2 q => ?_) _ _ _ q
    refine r_aload_n eX12_readSaying_120 rfl ?_
    refine t_gfI eX12_readSaying_121 f_12_258 q (fun v121 q => ?_)
    refine t_if_eq eX12_readSaying_124 (t := 128) (by decide) q (fun q => ?_) (fun q => ?_)
    · refine r_aload_n eX12_readSaying_128 rfl ?_
      refine t_gfI eX12_readSaying_129 f_12_243 q (fun v129 q => ?_)
      refine r_iconst (v := (3)) eX12_readSaying_132 (by decide) ?_
      refine t_icmp_ne eX12_readSaying_133 (t := 143) (by decide) q (fun q => ?_) (fun q => ?_)
      · refine r_aload_n eX12_readSaying_143 rfl ?_
        refine r_iconst (v := (2)) eX12_readSaying_144 (by decide) ?_
        refine t_virtV (As := [_]) (rest := []) (d' := d + 4 + 0) (ci := 12) eX12_readSaying_145 k_12_304 rfl rfl rfl (by omega) (Nat.le_of_ble_eq_true rfl) (Nat.le_of_ble_eq_true rfl) (fun _ q => s_X12_wrong q) q (fun h145 q => ?_)
        exact t_rtV eX12_readSaying_148 rfl q
      refine r_aload_n eX12_readSaying_136 rfl ?_
      refine t_virtV (As := []) (rest := []) (d' := d + 3 + 1) (ci := 12) eX12_readSaying_137 k_12_307 rfl rfl rfl (by omega) (Nat.le_of_ble_eq_true rfl) (Nat.le_of_ble_eq_true rfl) (fun _ q => s_X12_next q) q (fun h137 q => ?_)
      refine r_goto (t := 148) eX12_readSaying_140 (by decide) ?_
      exact t_rtV eX12_readSaying_148 rfl q
    exact t_rtV eX12_readSaying_127 rfl q
  exact t_rtV eX12_readSaying_60 rfl q
theorem s_X12_readSaying {E : Ev} {d : Nat} {a0 : Nat} {x1 : Int32} {h : Hp} {Φ : Ou → Hp → Prop} (q : OK (F_X12_readSaying E a0 x1 h) Φ) : CE E mX12_readSaying (d + 5) [.ref a0, .int x1] h 0 0 Φ := by
  show WE E mX12_readSaying (d + 5) 0 [some (.ref a0), some (.int x1), none] [] h 0 0 Φ
  refine r_aload_n eX12_readSaying_0 rfl ?_
  refine t_virtI (As := []) (rest := []) (d' := d + 2 + 2) (ci := 12) eX12_readSaying_1 k_12_333 rfl rfl rfl (by omega) (Nat.le_of_ble_eq_true rfl) (Nat.le_of_ble_eq_true rfl) (fun _ q => s_X12_isBegun q) q (fun v1 h1 q => ?_)
  refine t_if_ne eX12_readSaying_4 (t := 15) (by decide) q (fun q => ?_) (fun q => ?_)
  · refine r_iload_n eX12_readSaying_15 rfl ?_
    refine r_bipush (v := (10)) eX12_readSaying_16 (by decide) ?_
    refine t_icmp_ne eX12_readSaying_18 (t := 53) (by decide) q (fun q => ?_) (fun q => ?_)
    · exact sJ_X12_readSaying_53  q
    refine r_aload_n eX12_readSaying_21 rfl ?_
    refine r_aload_n eX12_readSaying_22 rfl ?_
    refine t_gfI eX12_readSaying_23 f_12_243 q (fun v23 q => ?_)
    refine r_iconst (v := (2)) eX12_readSaying_26 (by decide) ?_
    refine t_icmp_ne eX12_readSaying_27 (t := 49) (by decide) q (fun q => ?_) (fun q => ?_)
    · refine r_iconst (v := (4)) eX12_readSaying_49 (by decide) ?_
      refine t_virtV (As := [_]) (rest := []) (d' := d + 4 + 0) (ci := 12) eX12_readSaying_50 k_12_304 rfl rfl rfl (by omega) (Nat.le_of_ble_eq_true rfl) (Nat.le_of_ble_eq_true rfl) (fun _ q => s_X12_wrong q) q (fun h50 q => ?_)
      exact sJ_X12_readSaying_53  q
    refine r_aload_n eX12_readSaying_30 rfl ?_
    refine t_gfI eX12_readSaying_31 f_12_255 q (fun v31 q => ?_)
    refine r_i2l eX12_readSaying_34 ?_
    refine r_lconst (v := 1) eX12_readSaying_35 rfl ?_
    refine r_ldc2 eX12_readSaying_36 g_12_203 ?_
    refine t_statI (As := [_, _, _]) (rest := [_]) (d' := d + 4 + 0) eX12_readSaying_39 k_12_102 rfl (by omega) (Nat.le_of_ble_eq_true rfl) (Nat.le_of_ble_eq_true rfl) (fun _ q => s_X12_within q) q (fun v39 h39 q => ?_)
    refine t_if_ne eX12_readSaying_42 (t := 49) (by decide) q (fun q => ?_) (fun q => ?_)
    · refine r_iconst (v := (4)) eX12_readSaying_49 (by decide) ?_
      refine t_virtV (As := [_]) (rest := []) (d' := d + 4 + 0) (ci := 12) eX12_readSaying_50 k_12_304 rfl rfl rfl (by omega) (Nat.le_of_ble_eq_true rfl) (Nat.le_of_ble_eq_true rfl) (fun _ q => s_X12_wrong q) q (fun h50 q => ?_)
      exact sJ_X12_readSaying_53  q
    refine r_iconst (v := (3)) eX12_readSaying_45 (by decide) ?_
    refine r_goto (t := 50) eX12_readSaying_46 (by decide) ?_
    refine t_virtV (As := [_]) (rest := []) (d' := d + 4 + 0) (ci := 12) eX12_readSaying_50 k_12_304 rfl rfl rfl (by omega) (Nat.le_of_ble_eq_true rfl) (Nat.le_of_ble_eq_true rfl) (fun _ q => s_X12_wrong q) q (fun h50 q => ?_)
    exact sJ_X12_readSaying_53  q
  refine r_aload_n eX12_readSaying_7 rfl ?_
  refine r_iconst (v := (2)) eX12_readSaying_8 (by decide) ?_
  refine t_virtV (As := [_]) (rest := []) (d' := d + 4 + 0) (ci := 12) eX12_readSaying_9 k_12_304 rfl rfl rfl (by omega) (Nat.le_of_ble_eq_true rfl) (Nat.le_of_ble_eq_true rfl) (fun _ q => s_X12_wrong q) q (fun h9 q => ?_)
  refine r_goto (t := 53) eX12_readSaying_12 (by decide) ?_
  exact sJ_X12_readSaying_53  q
theorem sL_X12_keeps_31 {E : Ev} {d kc ks : Nat} {Φ : Ou → Hp → Prop} {y0 : Nat} {y1 : Int32} {y2 : Int32} {y3 : Int32} {y4 : Int32}  : ∀ (g : Nat) (y5 : Int32) (h : Hp), OK (L_X12_keeps_31 E y0 y4 g y5 h) Φ → WE E mX12_keeps (d + 1) 31 [some (.ref y0), some (.int y1), some (.int y2), some (.int y3), some (.int y4), some (.int y5)] [] h kc ks Φ := by
  intro g
  induction g with
  | zero => intro y5 h q; exact q.elim
  | succ g ih =>
    intro y5 h q
    refine r_iload eX12_keeps_31 rfl ?_
    refine r_sipush (v := (173)) eX12_keeps_33 (by decide) ?_
    refine t_icmp_ge eX12_keeps_36 (t := 70) (by decide) q (fun q => ?_) (fun q => ?_)
    · refine r_iload eX12_keeps_70 rfl ?_
      exact t_rtI eX12_keeps_72 rfl q
    refine r_aload_n eX12_keeps_39 rfl ?_
    refine t_gfR eX12_keeps_40 f_12_9 q (fun v40 q => ?_)
    refine r_sipush (v := (762)) eX12_keeps_43 (by decide) ?_
    refine r_sipush (v := (173)) eX12_keeps_46 (by decide) ?_
    refine r_iload eX12_keeps_49 rfl ?_
    refine r_imul eX12_keeps_51 ?_
    refine r_iadd eX12_keeps_52 ?_
    refine r_iload eX12_keeps_53 rfl ?_
    refine r_iadd eX12_keeps_55 ?_
    refine r_aload_n eX12_keeps_56 rfl ?_
    refine t_gfR eX12_keeps_57 f_12_43 q (fun v57 q => ?_)
    refine r_iload eX12_keeps_60 rfl ?_
    refine t_gaI eX12_keeps_62 q (fun v62 q => ?_)
    refine t_paI eX12_keeps_63 q (fun h63 q => ?_)
    refine r_iinc (v := (1)) (lv' := [_, _, _, _, _, _]) eX12_keeps_64 rfl (by decide) rfl ?_
    refine r_goto (t := 31) eX12_keeps_67 (by decide) ?_
    exact ih _ _ q
theorem s_X12_keeps {E : Ev} {d : Nat} {a0 : Nat} {x1 : Int32} {x2 : Int32} {x3 : Int32} {h : Hp} {Φ : Ou → Hp → Prop} (q : OK (F_X12_keeps E a0 x1 x2 x3 h) Φ) : CE E mX12_keeps (d + 1) [.ref a0, .int x1, .int x2, .int x3] h 0 0 Φ := by
  show WE E mX12_keeps (d + 1) 0 [some (.ref a0), some (.int x1), some (.int x2), some (.int x3), none, none] [] h 0 0 Φ
  refine r_aload_n eX12_keeps_0 rfl ?_
  refine r_iconst (v := (5)) eX12_keeps_1 (by decide) ?_
  refine t_virtI (As := [_]) (rest := []) (d' := d + 0 + 0) (ci := 12) eX12_keeps_2 k_12_118 rfl rfl rfl (by omega) (Nat.le_of_ble_eq_true rfl) (Nat.le_of_ble_eq_true rfl) (fun _ q => s_X12_more q) q (fun v2 h2 q => ?_)
  refine r_istore (lv' := [_, _, _, _, _, _]) eX12_keeps_5 (Nat.le_of_ble_eq_true rfl) rfl ?_
  refine r_aload_n eX12_keeps_7 rfl ?_
  refine t_gfR eX12_keeps_8 f_12_43 q (fun v8 q => ?_)
  refine r_iconst (v := (0)) eX12_keeps_11 (by decide) ?_
  refine r_iload_n eX12_keeps_12 rfl ?_
  refine t_paI eX12_keeps_13 q (fun h13 q => ?_)
  refine r_aload_n eX12_keeps_14 rfl ?_
  refine t_gfR eX12_keeps_15 f_12_43 q (fun v15 q => ?_)
  refine r_iconst (v := (1)) eX12_keeps_18 (by decide) ?_
  refine r_iload_n eX12_keeps_19 rfl ?_
  refine t_paI eX12_keeps_20 q (fun h20 q => ?_)
  refine r_aload_n eX12_keeps_21 rfl ?_
  refine t_gfR eX12_keeps_22 f_12_43 q (fun v22 q => ?_)
  refine r_iconst (v := (2)) eX12_keeps_25 (by decide) ?_
  refine r_iload_n eX12_keeps_26 rfl ?_
  refine t_paI eX12_keeps_27 q (fun h27 q => ?_)
  refine r_iconst (v := (0)) eX12_keeps_28 (by decide) ?_
  refine r_istore (lv' := [_, _, _, _, _, _]) eX12_keeps_29 (Nat.le_of_ble_eq_true rfl) rfl ?_
  exact sL_X12_keeps_31  _ _ _ q
theorem sL_X12_telling_91 {E : Ev} {d kc ks : Nat} {Φ : Ou → Hp → Prop} {y0 : Nat} {y1 : Int32} {y2 : Int32} {y3 : Int32} {K117 : Int32 → Hp → Rs} (hK117 : ∀ (w4 : Int32) (h : Hp), OK (K117 w4 h) Φ → WE E mX12_telling (d + 6) 117 [some (.ref y0), some (.int y1), some (.int y2), some (.int y3), some (.int w4)] [] h kc ks Φ) : ∀ (g : Nat) (y4 : Int32) (h : Hp), OK (L_X12_telling_91 E K117 y0 g y4 h) Φ → WE E mX12_telling (d + 6) 91 [some (.ref y0), some (.int y1), some (.int y2), some (.int y3), some (.int y4)] [] h kc ks Φ := by
  intro g
  induction g with
  | zero => intro y4 h q; exact q.elim
  | succ g ih =>
    intro y4 h q
    refine r_aload_n eX12_telling_91 rfl ?_
    refine t_gfI eX12_telling_92 f_12_258 q (fun v92 q => ?_)
    refine t_if_ne eX12_telling_95 (t := 117) (by decide) q (fun q => ?_) (fun q => ?_)
    · exact hK117 _ _ q
    refine r_aload_n eX12_telling_98 rfl ?_
    refine t_gfI eX12_telling_99 f_12_243 q (fun v99 q => ?_)
    refine t_if_eq eX12_telling_102 (t := 117) (by decide) q (fun q => ?_) (fun q => ?_)
    · exact hK117 _ _ q
    refine r_aload_n eX12_telling_105 rfl ?_
    refine r_iload eX12_telling_106 rfl ?_
    refine t_virtV (As := [_]) (rest := []) (d' := d + 0 + 5) (ci := 12) eX12_telling_108 k_12_361 rfl rfl rfl (by omega) (Nat.le_of_ble_eq_true rfl) (Nat.le_of_ble_eq_true rfl) (fun _ q => s_X12_readSaying q) q (fun h108 q => ?_)
    refine r_iinc (v := (1)) (lv' := [_, _, _, _, _]) eX12_telling_111 rfl (by decide) rfl ?_
    refine r_goto (t := 91) eX12_telling_114 (by decide) ?_
    exact ih _ _ q
theorem sJ_X12_telling_141 {E : Ev} {d kc ks : Nat} {Φ : Ou → Hp → Prop} {y0 : Nat} {y1 : Int32} {y2 : Int32} {y3 : Int32} {y4 : Int32} {t0 : Nat} {t1 : Int32} {h : Hp}  (q : OK (J_X12_telling_141 E y0 y2 y3 y4 t0 t1 h) Φ) : WE E mX12_telling (d + 6) 141 [some (.ref y0), some (.int y1), some (.int y2), some (.int y3), some (.int y4)] [.int t1, .ref t0] h kc ks Φ := by
  refine t_pf eX12_telling_141 p_12_40 rfl rfl (fun q => by cases q) q (fun h141 q => ?_)
  refine r_aload_n eX12_telling_144 rfl ?_
  refine t_gfI eX12_telling_145 f_12_258 q (fun v145 q => ?_)
  refine t_if_eq eX12_telling_148 (t := 161) (by decide) q (fun q => ?_) (fun q => ?_)
  · refine r_aload_n eX12_telling_161 rfl ?_
    refine r_iload_n eX12_telling_162 rfl ?_
    refine r_iload_n eX12_telling_163 rfl ?_
    refine r_iload eX12_telling_164 rfl ?_
    refine t_virtI (As := [_, _, _]) (rest := []) (d' := d + 4 + 1) (ci := 12) eX12_telling_166 k_12_367 rfl rfl rfl (by omega) (Nat.le_of_ble_eq_true rfl) (Nat.le_of_ble_eq_true rfl) (fun _ q => s_X12_keeps q) q (fun v166 h166 q => ?_)
    exact t_rtI eX12_telling_169 rfl q
  refine r_bipush (v := (-10)) eX12_telling_151 (by decide) ?_
  refine r_aload_n eX12_telling_153 rfl ?_
  refine t_gfI eX12_telling_154 f_12_258 q (fun v154 q => ?_)
  refine r_isub eX12_telling_157 ?_
  refine r_goto (t := 169) eX12_telling_158 (by decide) ?_
  exact t_rtI eX12_telling_169 rfl q
theorem sJ_X12_telling_117 {E : Ev} {d kc ks : Nat} {Φ : Ou → Hp → Prop} {y0 : Nat} {y1 : Int32} {y2 : Int32} {y3 : Int32} {y4 : Int32} {h : Hp}  (q : OK (J_X12_telling_117 E y0 y2 y3 y4 h) Φ) : WE E mX12_telling (d + 6) 117 [some (.ref y0), some (.int y1), some (.int y2), some (.int y3), some (.int y4)] [] h kc ks Φ := by
  refine r_aload_n eX12_telling_117 rfl ?_
  refine r_aload_n eX12_telling_118 rfl ?_
  refine t_gfI eX12_telling_119 f_12_258 q (fun v119 q => ?_)
  refine t_pf eX12_telling_122 p_12_364 rfl rfl (fun q => by cases q) q (fun h122 q => ?_)
  refine r_aload_n eX12_telling_125 rfl ?_
  refine r_aload_n eX12_telling_126 rfl ?_
  refine t_gfI eX12_telling_127 f_12_258 q (fun v127 q => ?_)
  refine t_if_ne eX12_telling_130 (t := 137) (by decide) q (fun q => ?_) (fun q => ?_)
  · refine r_aload_n eX12_telling_137 rfl ?_
    refine t_gfI eX12_telling_138 f_12_261 q (fun v138 q => ?_)
    exact sJ_X12_telling_141  q
  refine r_iconst (v := (-1)) eX12_telling_133 (by decide) ?_
  refine r_goto (t := 141) eX12_telling_134 (by decide) ?_
  exact sJ_X12_telling_141  q
theorem s_X12_telling {E : Ev} {d : Nat} {a0 : Nat} {x1 : Int32} {x2 : Int32} {x3 : Int32} {h : Hp} {Φ : Ou → Hp → Prop} (q : OK (F_X12_telling E a0 x1 x2 x3 h) Φ) : CE E mX12_telling (d + 6) [.ref a0, .int x1, .int x2, .int x3] h 0 0 Φ := by
  show WE E mX12_telling (d + 6) 0 [some (.ref a0), some (.int x1), some (.int x2), some (.int x3), none] [] h 0 0 Φ
  refine r_aload_n eX12_telling_0 rfl ?_
  refine r_iconst (v := (0)) eX12_telling_1 (by decide) ?_
  refine t_pf eX12_telling_2 p_12_97 rfl rfl (fun q => by cases q) q (fun h2 q => ?_)
  refine r_aload_n eX12_telling_5 rfl ?_
  refine r_iload_n eX12_telling_6 rfl ?_
  refine t_virtI (As := [_]) (rest := []) (d' := d + 3 + 2) (ci := 12) eX12_telling_7 k_12_121 rfl rfl rfl (by omega) (Nat.le_of_ble_eq_true rfl) (Nat.le_of_ble_eq_true rfl) (fun _ q => s_X12_isPlace q) q (fun v7 h7 q => ?_)
  refine t_if_ne eX12_telling_10 (t := 19) (by decide) q (fun q => ?_) (fun q => ?_)
  · refine r_iload_n eX12_telling_19 rfl ?_
    refine r_i2l eX12_telling_20 ?_
    refine r_lconst (v := 0) eX12_telling_21 rfl ?_
    refine r_aload_n eX12_telling_22 rfl ?_
    refine t_gfI eX12_telling_23 f_12_231 q (fun v23 q => ?_)
    refine r_i2l eX12_telling_26 ?_
    refine t_statI (As := [_, _, _]) (rest := []) (d' := d + 5 + 0) eX12_telling_27 k_12_102 rfl (by omega) (Nat.le_of_ble_eq_true rfl) (Nat.le_of_ble_eq_true rfl) (fun _ q => s_X12_within q) q (fun v27 h27 q => ?_)
    refine t_if_eq eX12_telling_30 (t := 45) (by decide) q (fun q => ?_) (fun q => ?_)
    · refine r_aload_n eX12_telling_45 rfl ?_
      refine r_iconst (v := (2)) eX12_telling_46 (by decide) ?_
      refine t_virtI (As := [_]) (rest := []) (d' := d + 5 + 0) (ci := 12) eX12_telling_47 k_12_114 rfl rfl rfl (by omega) (Nat.le_of_ble_eq_true rfl) (Nat.le_of_ble_eq_true rfl) (fun _ q => s_X12_fails q) q (fun v47 h47 q => ?_)
      exact t_rtI eX12_telling_50 rfl q
    refine r_iload_n eX12_telling_33 rfl ?_
    refine r_i2l eX12_telling_34 ?_
    refine r_lconst (v := 0) eX12_telling_35 rfl ?_
    refine r_ldc2 eX12_telling_36 g_12_359 ?_
    refine t_statI (As := [_, _, _]) (rest := []) (d' := d + 5 + 0) eX12_telling_39 k_12_102 rfl (by omega) (Nat.le_of_ble_eq_true rfl) (Nat.le_of_ble_eq_true rfl) (fun _ q => s_X12_within q) q (fun v39 h39 q => ?_)
    refine t_if_ne eX12_telling_42 (t := 51) (by decide) q (fun q => ?_) (fun q => ?_)
    · refine r_aload_n eX12_telling_51 rfl ?_
      refine t_gfR eX12_telling_52 f_12_9 q (fun v52 q => ?_)
      refine r_iconst (v := (5)) eX12_telling_55 (by decide) ?_
      refine t_gaI eX12_telling_56 q (fun v56 q => ?_)
      refine r_bipush (v := (12)) eX12_telling_57 (by decide) ?_
      refine t_icmp_ne eX12_telling_59 (t := 64) (by decide) q (fun q => ?_) (fun q => ?_)
      · refine r_aload_n eX12_telling_64 rfl ?_
        refine r_iload_n eX12_telling_65 rfl ?_
        refine t_pf eX12_telling_66 p_12_234 rfl rfl (fun q => by cases q) q (fun h66 q => ?_)
        refine r_aload_n eX12_telling_69 rfl ?_
        refine r_iconst (v := (0)) eX12_telling_70 (by decide) ?_
        refine t_pf eX12_telling_71 p_12_231 rfl rfl (fun q => by cases q) q (fun h71 q => ?_)
        refine r_aload_n eX12_telling_74 rfl ?_
        refine r_iconst (v := (0)) eX12_telling_75 (by decide) ?_
        refine t_pf eX12_telling_76 p_12_237 rfl rfl (fun q => by cases q) q (fun h76 q => ?_)
        refine r_aload_n eX12_telling_79 rfl ?_
        refine r_iconst (v := (0)) eX12_telling_80 (by decide) ?_
        refine t_pf eX12_telling_81 p_12_258 rfl rfl (fun q => by cases q) q (fun h81 q => ?_)
        refine r_iconst (v := (0)) eX12_telling_84 (by decide) ?_
        refine r_istore (lv' := [_, _, _, _, _]) eX12_telling_85 (Nat.le_of_ble_eq_true rfl) rfl ?_
        refine r_aload_n eX12_telling_87 rfl ?_
        refine t_virtV (As := []) (rest := []) (d' := d + 4 + 1) (ci := 12) eX12_telling_88 k_12_307 rfl rfl rfl (by omega) (Nat.le_of_ble_eq_true rfl) (Nat.le_of_ble_eq_true rfl) (fun _ q => s_X12_next q) q (fun h88 q => ?_)
        refine sL_X12_telling_91 (fun w1 h2 q => ?_) _ _ _ q
        exact sJ_X12_telling_117  q
      refine r_iconst (v := (-1)) eX12_telling_62 (by decide) ?_
      exact t_rtI eX12_telling_63 rfl q
    refine r_aload_n eX12_telling_45 rfl ?_
    refine r_iconst (v := (2)) eX12_telling_46 (by decide) ?_
    refine t_virtI (As := [_]) (rest := []) (d' := d + 5 + 0) (ci := 12) eX12_telling_47 k_12_114 rfl rfl rfl (by omega) (Nat.le_of_ble_eq_true rfl) (Nat.le_of_ble_eq_true rfl) (fun _ q => s_X12_fails q) q (fun v47 h47 q => ?_)
    exact t_rtI eX12_telling_50 rfl q
  refine r_aload_n eX12_telling_13 rfl ?_
  refine r_iconst (v := (1)) eX12_telling_14 (by decide) ?_
  refine t_virtI (As := [_]) (rest := []) (d' := d + 5 + 0) (ci := 12) eX12_telling_15 k_12_114 rfl rfl rfl (by omega) (Nat.le_of_ble_eq_true rfl) (Nat.le_of_ble_eq_true rfl) (fun _ q => s_X12_fails q) q (fun v15 h15 q => ?_)
  exact t_rtI eX12_telling_18 rfl q
theorem s_X12_fault {E : Ev} {d : Nat} {a0 : Nat} {x1 : Int32} {h : Hp} {Φ : Ou → Hp → Prop} (q : OK (F_X12_fault E a0 x1 h) Φ) : CE E mX12_fault (d + 0) [.ref a0, .int x1] h 0 0 Φ := by
  show WE E mX12_fault (d + 0) 0 [some (.ref a0), some (.int x1)] [] h 0 0 Φ
  refine r_aload_n eX12_fault_0 rfl ?_
  refine r_iconst (v := (0)) eX12_fault_1 (by decide) ?_
  refine t_pf eX12_fault_2 p_12_97 rfl rfl (fun q => by cases q) q (fun h2 q => ?_)
  refine r_iload_n eX12_fault_5 rfl ?_
  refine t_if_ne eX12_fault_6 (t := 16) (by decide) q (fun q => ?_) (fun q => ?_)
  · refine r_iload_n eX12_fault_16 rfl ?_
    refine r_iconst (v := (1)) eX12_fault_17 (by decide) ?_
    refine t_icmp_ne eX12_fault_18 (t := 28) (by decide) q (fun q => ?_) (fun q => ?_)
    · refine r_iconst (v := (-1)) eX12_fault_28 (by decide) ?_
      exact t_rtI eX12_fault_29 rfl q
    refine r_aload_n eX12_fault_21 rfl ?_
    refine t_gfI eX12_fault_22 f_12_40 q (fun v22 q => ?_)
    refine r_goto (t := 29) eX12_fault_25 (by decide) ?_
    exact t_rtI eX12_fault_29 rfl q
  refine r_aload_n eX12_fault_9 rfl ?_
  refine t_gfI eX12_fault_10 f_12_364 q (fun v10 q => ?_)
  refine r_goto (t := 29) eX12_fault_13 (by decide) ?_
  exact t_rtI eX12_fault_29 rfl q
theorem s_X12_sayingsOf {E : Ev} {d : Nat} {a0 : Nat} {x1 : Int32} {h : Hp} {Φ : Ou → Hp → Prop} (q : OK (F_X12_sayingsOf E a0 x1 h) Φ) : CE E mX12_sayingsOf (d + 0) [.ref a0, .int x1] h 0 0 Φ := by
  show WE E mX12_sayingsOf (d + 0) 0 [some (.ref a0), some (.int x1)] [] h 0 0 Φ
  refine r_aload_n eX12_sayingsOf_0 rfl ?_
  refine t_gfR eX12_sayingsOf_1 f_12_9 q (fun v1 q => ?_)
  refine r_sipush (v := (762)) eX12_sayingsOf_4 (by decide) ?_
  refine r_sipush (v := (173)) eX12_sayingsOf_7 (by decide) ?_
  refine r_iload_n eX12_sayingsOf_10 rfl ?_
  refine r_imul eX12_sayingsOf_11 ?_
  refine r_iadd eX12_sayingsOf_12 ?_
  refine r_iconst (v := (2)) eX12_sayingsOf_13 (by decide) ?_
  refine r_iadd eX12_sayingsOf_14 ?_
  refine t_gaI eX12_sayingsOf_15 q (fun v15 q => ?_)
  exact t_rtI eX12_sayingsOf_16 rfl q
theorem s_X12_goalOf {E : Ev} {d : Nat} {a0 : Nat} {x1 : Int32} {h : Hp} {Φ : Ou → Hp → Prop} (q : OK (F_X12_goalOf E a0 x1 h) Φ) : CE E mX12_goalOf (d + 0) [.ref a0, .int x1] h 0 0 Φ := by
  show WE E mX12_goalOf (d + 0) 0 [some (.ref a0), some (.int x1)] [] h 0 0 Φ
  refine r_aload_n eX12_goalOf_0 rfl ?_
  refine t_gfR eX12_goalOf_1 f_12_9 q (fun v1 q => ?_)
  refine r_sipush (v := (762)) eX12_goalOf_4 (by decide) ?_
  refine r_sipush (v := (173)) eX12_goalOf_7 (by decide) ?_
  refine r_iload_n eX12_goalOf_10 rfl ?_
  refine r_imul eX12_goalOf_11 ?_
  refine r_iadd eX12_goalOf_12 ?_
  refine t_gaI eX12_goalOf_13 q (fun v13 q => ?_)
  exact t_rtI eX12_goalOf_14 rfl q
theorem s_X12_sayings {E : Ev} {d : Nat} {a0 : Nat} {x1 : Int32} {h : Hp} {Φ : Ou → Hp → Prop} (q : OK (F_X12_sayings E a0 x1 h) Φ) : CE E mX12_sayings (d + 3) [.ref a0, .int x1] h 0 0 Φ := by
  show WE E mX12_sayings (d + 3) 0 [some (.ref a0), some (.int x1)] [] h 0 0 Φ
  refine r_aload_n eX12_sayings_0 rfl ?_
  refine r_iconst (v := (0)) eX12_sayings_1 (by decide) ?_
  refine t_pf eX12_sayings_2 p_12_97 rfl rfl (fun q => by cases q) q (fun h2 q => ?_)
  refine r_aload_n eX12_sayings_5 rfl ?_
  refine r_iload_n eX12_sayings_6 rfl ?_
  refine t_virtI (As := [_]) (rest := []) (d' := d + 0 + 2) (ci := 12) eX12_sayings_7 k_12_371 rfl rfl rfl (by omega) (Nat.le_of_ble_eq_true rfl) (Nat.le_of_ble_eq_true rfl) (fun _ q => s_X12_isTelling q) q (fun v7 h7 q => ?_)
  refine t_if_eq eX12_sayings_10 (t := 21) (by decide) q (fun q => ?_) (fun q => ?_)
  · refine r_aload_n eX12_sayings_21 rfl ?_
    refine r_iconst (v := (1)) eX12_sayings_22 (by decide) ?_
    refine t_virtI (As := [_]) (rest := []) (d' := d + 2 + 0) (ci := 12) eX12_sayings_23 k_12_114 rfl rfl rfl (by omega) (Nat.le_of_ble_eq_true rfl) (Nat.le_of_ble_eq_true rfl) (fun _ q => s_X12_fails q) q (fun v23 h23 q => ?_)
    exact t_rtI eX12_sayings_26 rfl q
  refine r_aload_n eX12_sayings_13 rfl ?_
  refine r_iload_n eX12_sayings_14 rfl ?_
  refine t_virtI (As := [_]) (rest := []) (d' := d + 2 + 0) (ci := 12) eX12_sayings_15 k_12_374 rfl rfl rfl (by omega) (Nat.le_of_ble_eq_true rfl) (Nat.le_of_ble_eq_true rfl) (fun _ q => s_X12_sayingsOf q) q (fun v15 h15 q => ?_)
  refine r_goto (t := 26) eX12_sayings_18 (by decide) ?_
  exact t_rtI eX12_sayings_26 rfl q
theorem sL_X12_goOn_9 {E : Ev} {d kc ks : Nat} {Φ : Ou → Hp → Prop} {y0 : Nat} {y1 : Nat} {y2 : Int32} {y3 : Nat} {y4 : Int32}  : ∀ (g : Nat) (y5 : Int32) (h : Hp), OK (L_X12_goOn_9 E y0 y1 y2 y3 y4 g y5 h) Φ → WE E mX12_goOn (d + 1) 9 [some (.ref y0), some (.ref y1), some (.int y2), some (.ref y3), some (.int y4), some (.int y5)] [] h kc ks Φ := by
  intro g
  induction g with
  | zero => intro y5 h q; exact q.elim
  | succ g ih =>
    intro y5 h q
    refine r_iload eX12_goOn_9 rfl ?_
    refine r_sipush (v := (240)) eX12_goOn_11 (by decide) ?_
    refine t_icmp_ge eX12_goOn_14 (t := 49) (by decide) q (fun q => ?_) (fun q => ?_)
    · exact t_rtV eX12_goOn_49 rfl q
    refine r_aload_n eX12_goOn_17 rfl ?_
    refine r_iload_n eX12_goOn_18 rfl ?_
    refine r_iload eX12_goOn_19 rfl ?_
    refine t_statI (As := [_, _, _]) (rest := []) (d' := d + 0 + 0) eX12_goOn_21 k_12_185 rfl (by omega) (Nat.le_of_ble_eq_true rfl) (Nat.le_of_ble_eq_true rfl) (fun _ q => s_X12_has q) q (fun v21 h21 q => ?_)
    refine t_if_eq eX12_goOn_24 (t := 43) (by decide) q (fun q => ?_) (fun q => ?_)
    · refine r_iinc (v := (1)) (lv' := [_, _, _, _, _, _]) eX12_goOn_43 rfl (by decide) rfl ?_
      refine r_goto (t := 9) eX12_goOn_46 (by decide) ?_
      exact ih _ _ q
    refine r_aload_n eX12_goOn_27 rfl ?_
    refine r_iload eX12_goOn_28 rfl ?_
    refine r_aload_n eX12_goOn_30 rfl ?_
    refine t_gfR eX12_goOn_31 f_12_24 q (fun v31 q => ?_)
    refine r_iconst (v := (0)) eX12_goOn_34 (by decide) ?_
    refine r_iconst (v := (4)) eX12_goOn_35 (by decide) ?_
    refine r_iload eX12_goOn_36 rfl ?_
    refine r_imul eX12_goOn_38 ?_
    refine r_iadd eX12_goOn_39 ?_
    refine t_statV (As := [_, _, _, _]) (rest := []) (d' := d + 0 + 0) eX12_goOn_40 k_12_377 rfl (by omega) (Nat.le_of_ble_eq_true rfl) (Nat.le_of_ble_eq_true rfl) (fun _ q => s_X12_join q) q (fun h40 q => ?_)
    refine r_iinc (v := (1)) (lv' := [_, _, _, _, _, _]) eX12_goOn_43 rfl (by decide) rfl ?_
    refine r_goto (t := 9) eX12_goOn_46 (by decide) ?_
    exact ih _ _ q
theorem s_X12_goOn {E : Ev} {d : Nat} {a0 : Nat} {a1 : Nat} {x2 : Int32} {a3 : Nat} {x4 : Int32} {h : Hp} {Φ : Ou → Hp → Prop} (q : OK (F_X12_goOn E a0 a1 x2 a3 x4 h) Φ) : CE E mX12_goOn (d + 1) [.ref a0, .ref a1, .int x2, .ref a3, .int x4] h 0 0 Φ := by
  show WE E mX12_goOn (d + 1) 0 [some (.ref a0), some (.ref a1), some (.int x2), some (.ref a3), some (.int x4), none] [] h 0 0 Φ
  refine r_aload_n eX12_goOn_0 rfl ?_
  refine r_iload eX12_goOn_1 rfl ?_
  refine t_statV (As := [_, _]) (rest := []) (d' := d + 0 + 0) eX12_goOn_3 k_12_218 rfl (by omega) (Nat.le_of_ble_eq_true rfl) (Nat.le_of_ble_eq_true rfl) (fun _ q => s_X12_empty q) q (fun h3 q => ?_)
  refine r_iconst (v := (0)) eX12_goOn_6 (by decide) ?_
  refine r_istore (lv' := [_, _, _, _, _, _]) eX12_goOn_7 (Nat.le_of_ble_eq_true rfl) rfl ?_
  exact sL_X12_goOn_9  _ _ _ q
theorem sL_X12_goOnFar_18 {E : Ev} {d kc ks : Nat} {Φ : Ou → Hp → Prop} {y0 : Nat} {y1 : Int32} {y2 : Int32}  : ∀ (g : Nat) (y3 : Int32) (h : Hp), OK (L_X12_goOnFar_18 E y0 y1 y2 g y3 h) Φ → WE E mX12_goOnFar (d + 2) 18 [some (.ref y0), some (.int y1), some (.int y2), some (.int y3)] [] h kc ks Φ := by
  intro g
  induction g with
  | zero => intro y3 h q; exact q.elim
  | succ g ih =>
    intro y3 h q
    refine r_iload_n eX12_goOnFar_18 rfl ?_
    refine r_sipush (v := (240)) eX12_goOnFar_19 (by decide) ?_
    refine t_icmp_ge eX12_goOnFar_22 (t := 77) (by decide) q (fun q => ?_) (fun q => ?_)
    · exact t_rtV eX12_goOnFar_77 rfl q
    refine r_aload_n eX12_goOnFar_25 rfl ?_
    refine t_gfR eX12_goOnFar_26 f_12_49 q (fun v26 q => ?_)
    refine r_iconst (v := (0)) eX12_goOnFar_29 (by decide) ?_
    refine r_iload_n eX12_goOnFar_30 rfl ?_
    refine t_statI (As := [_, _, _]) (rest := []) (d' := d + 1 + 0) eX12_goOnFar_31 k_12_185 rfl (by omega) (Nat.le_of_ble_eq_true rfl) (Nat.le_of_ble_eq_true rfl) (fun _ q => s_X12_has q) q (fun v31 h31 q => ?_)
    refine t_if_eq eX12_goOnFar_34 (t := 71) (by decide) q (fun q => ?_) (fun q => ?_)
    · refine r_iinc (v := (2)) (lv' := [_, _, _, _]) eX12_goOnFar_71 rfl (by decide) rfl ?_
      refine r_goto (t := 18) eX12_goOnFar_74 (by decide) ?_
      exact ih _ _ q
    refine r_iload_n eX12_goOnFar_37 rfl ?_
    refine r_aload_n eX12_goOnFar_38 rfl ?_
    refine r_iload_n eX12_goOnFar_39 rfl ?_
    refine r_iconst (v := (4)) eX12_goOnFar_40 (by decide) ?_
    refine t_dvI eX12_goOnFar_41 q (fun v41 q => ?_)
    refine r_iconst (v := (3)) eX12_goOnFar_42 (by decide) ?_
    refine t_virtI (As := [_, _]) (rest := [_]) (d' := d + 1 + 0) (ci := 12) eX12_goOnFar_43 k_12_130 rfl rfl rfl (by omega) (Nat.le_of_ble_eq_true rfl) (Nat.le_of_ble_eq_true rfl) (fun _ q => s_X12_wayOf q) q (fun v43 h43 q => ?_)
    refine r_iadd eX12_goOnFar_46 ?_
    refine r_iload_n eX12_goOnFar_47 rfl ?_
    refine t_icmp_gt eX12_goOnFar_48 (t := 71) (by decide) q (fun q => ?_) (fun q => ?_)
    · refine r_iinc (v := (2)) (lv' := [_, _, _, _]) eX12_goOnFar_71 rfl (by decide) rfl ?_
      refine r_goto (t := 18) eX12_goOnFar_74 (by decide) ?_
      exact ih _ _ q
    refine r_aload_n eX12_goOnFar_51 rfl ?_
    refine t_gfR eX12_goOnFar_52 f_12_58 q (fun v52 q => ?_)
    refine r_iconst (v := (4)) eX12_goOnFar_55 (by decide) ?_
    refine r_iload_n eX12_goOnFar_56 rfl ?_
    refine r_aload_n eX12_goOnFar_57 rfl ?_
    refine r_iload_n eX12_goOnFar_58 rfl ?_
    refine r_iconst (v := (4)) eX12_goOnFar_59 (by decide) ?_
    refine t_dvI eX12_goOnFar_60 q (fun v60 q => ?_)
    refine r_iconst (v := (3)) eX12_goOnFar_61 (by decide) ?_
    refine t_virtI (As := [_, _]) (rest := [_, _, _]) (d' := d + 1 + 0) (ci := 12) eX12_goOnFar_62 k_12_130 rfl rfl rfl (by omega) (Nat.le_of_ble_eq_true rfl) (Nat.le_of_ble_eq_true rfl) (fun _ q => s_X12_wayOf q) q (fun v62 h62 q => ?_)
    refine r_iadd eX12_goOnFar_65 ?_
    refine r_imul eX12_goOnFar_66 ?_
    refine r_iload_n eX12_goOnFar_67 rfl ?_
    refine t_statV (As := [_, _, _]) (rest := []) (d' := d + 1 + 0) eX12_goOnFar_68 k_12_178 rfl (by omega) (Nat.le_of_ble_eq_true rfl) (Nat.le_of_ble_eq_true rfl) (fun _ q => s_X12_put q) q (fun h68 q => ?_)
    refine r_iinc (v := (2)) (lv' := [_, _, _, _]) eX12_goOnFar_71 rfl (by decide) rfl ?_
    refine r_goto (t := 18) eX12_goOnFar_74 (by decide) ?_
    exact ih _ _ q
theorem s_X12_goOnFar {E : Ev} {d : Nat} {a0 : Nat} {x1 : Int32} {x2 : Int32} {h : Hp} {Φ : Ou → Hp → Prop} (q : OK (F_X12_goOnFar E a0 x1 x2 h) Φ) : CE E mX12_goOnFar (d + 2) [.ref a0, .int x1, .int x2] h 0 0 Φ := by
  show WE E mX12_goOnFar (d + 2) 0 [some (.ref a0), some (.int x1), some (.int x2), none] [] h 0 0 Φ
  refine r_aload_n eX12_goOnFar_0 rfl ?_
  refine r_aload_n eX12_goOnFar_1 rfl ?_
  refine t_gfR eX12_goOnFar_2 f_12_55 q (fun v2 q => ?_)
  refine r_iconst (v := (4)) eX12_goOnFar_5 (by decide) ?_
  refine r_iload_n eX12_goOnFar_6 rfl ?_
  refine r_imul eX12_goOnFar_7 ?_
  refine r_aload_n eX12_goOnFar_8 rfl ?_
  refine t_gfR eX12_goOnFar_9 f_12_49 q (fun v9 q => ?_)
  refine r_iconst (v := (0)) eX12_goOnFar_12 (by decide) ?_
  refine t_virtV (As := [_, _, _, _]) (rest := []) (d' := d + 0 + 1) (ci := 12) eX12_goOnFar_13 k_12_406 rfl rfl rfl (by omega) (Nat.le_of_ble_eq_true rfl) (Nat.le_of_ble_eq_true rfl) (fun _ q => s_X12_goOn q) q (fun h13 q => ?_)
  refine r_iconst (v := (0)) eX12_goOnFar_16 (by decide) ?_
  refine r_istore_n (lv' := [_, _, _, _]) eX12_goOnFar_17 (Nat.le_of_ble_eq_true rfl) rfl ?_
  exact sL_X12_goOnFar_18  _ _ _ q
theorem sL_X12_far_3 {E : Ev} {d kc ks : Nat} {Φ : Ou → Hp → Prop} {y0 : Nat} {y1 : Int32} {y2 : Int32} {y3 : Nat} {y4 : Int32} {y5 : Nat} {y6 : Int32} {K27 : Hp → Rs} (hK27 : ∀ (w7 : Int32) (h : Hp), OK (K27 h) Φ → WE E mX12_far (d + 3) 27 [some (.ref y0), some (.int y1), some (.int y2), some (.ref y3), some (.int y4), some (.ref y5), some (.int y6), some (.int w7), none] [] h kc ks Φ) : ∀ (g : Nat) (y7 : Int32) (h : Hp), OK (L_X12_far_3 E K27 y0 g y7 h) Φ → WE E mX12_far (d + 3) 3 [some (.ref y0), some (.int y1), some (.int y2), some (.ref y3), some (.int y4), some (.ref y5), some (.int y6), some (.int y7), none] [] h kc ks Φ := by
  intro g
  induction g with
  | zero => intro y7 h q; exact q.elim
  | succ g ih =>
    intro y7 h q
    refine r_iload eX12_far_3 rfl ?_
    refine r_aload_n eX12_far_5 rfl ?_
    refine t_gfR eX12_far_6 f_12_55 q (fun v6 q => ?_)
    refine t_aln eX12_far_9 (by decide) q (fun v9 q => ?_)
    refine t_icmp_ge eX12_far_10 (t := 27) (by decide) q (fun q => ?_) (fun q => ?_)
    · exact hK27 _ _ q
    refine r_aload_n eX12_far_13 rfl ?_
    refine t_gfR eX12_far_14 f_12_55 q (fun v14 q => ?_)
    refine r_iload eX12_far_17 rfl ?_
    refine r_lconst (v := 0) eX12_far_19 rfl ?_
    refine t_paL eX12_far_20 q (fun h20 q => ?_)
    refine r_iinc (v := (1)) (lv' := [_, _, _, _, _, _, _, _, _]) eX12_far_21 rfl (by decide) rfl ?_
    refine r_goto (t := 3) eX12_far_24 (by decide) ?_
    exact ih _ _ q
theorem sL_X12_far_54 {E : Ev} {d kc ks : Nat} {Φ : Ou → Hp → Prop} {y0 : Nat} {y1 : Int32} {y2 : Int32} {y3 : Nat} {y4 : Int32} {y5 : Nat} {y6 : Int32} {y7 : Int32} {K78 : Hp → Rs} (hK78 : ∀ (w8 : Int32) (h : Hp), OK (K78 h) Φ → WE E mX12_far (d + 3) 78 [some (.ref y0), some (.int y1), some (.int y2), some (.ref y3), some (.int y4), some (.ref y5), some (.int y6), some (.int y7), some (.int w8)] [] h kc ks Φ) : ∀ (g : Nat) (y8 : Int32) (h : Hp), OK (L_X12_far_54 E K78 y0 g y8 h) Φ → WE E mX12_far (d + 3) 54 [some (.ref y0), some (.int y1), some (.int y2), some (.ref y3), some (.int y4), some (.ref y5), some (.int y6), some (.int y7), some (.int y8)] [] h kc ks Φ := by
  intro g
  induction g with
  | zero => intro y8 h q; exact q.elim
  | succ g ih =>
    intro y8 h q
    refine r_iload eX12_far_54 rfl ?_
    refine r_aload_n eX12_far_56 rfl ?_
    refine t_gfR eX12_far_57 f_12_58 q (fun v57 q => ?_)
    refine t_aln eX12_far_60 (by decide) q (fun v60 q => ?_)
    refine t_icmp_ge eX12_far_61 (t := 78) (by decide) q (fun q => ?_) (fun q => ?_)
    · exact hK78 _ _ q
    refine r_aload_n eX12_far_64 rfl ?_
    refine t_gfR eX12_far_65 f_12_58 q (fun v65 q => ?_)
    refine r_iload eX12_far_68 rfl ?_
    refine r_lconst (v := 0) eX12_far_70 rfl ?_
    refine t_paL eX12_far_71 q (fun h71 q => ?_)
    refine r_iinc (v := (1)) (lv' := [_, _, _, _, _, _, _, _, _]) eX12_far_72 rfl (by decide) rfl ?_
    refine r_goto (t := 54) eX12_far_75 (by decide) ?_
    exact ih _ _ q
theorem sL_X12_far_81 {E : Ev} {d kc ks : Nat} {Φ : Ou → Hp → Prop} {y0 : Nat} {y1 : Int32} {y2 : Int32} {y3 : Nat} {y4 : Int32} {y5 : Nat} {y6 : Int32} {y7 : Int32} {K121 : Hp → Rs} (hK121 : ∀ (w8 : Int32) (h : Hp), OK (K121 h) Φ → WE E mX12_far (d + 3) 121 [some (.ref y0), some (.int y1), some (.int y2), some (.ref y3), some (.int y4), some (.ref y5), some (.int y6), some (.int y7), some (.int w8)] [] h kc ks Φ) : ∀ (g : Nat) (y8 : Int32) (h : Hp), OK (L_X12_far_81 E K121 y0 y1 g y8 h) Φ → WE E mX12_far (d + 3) 81 [some (.ref y0), some (.int y1), some (.int y2), some (.ref y3), some (.int y4), some (.ref y5), some (.int y6), some (.int y7), some (.int y8)] [] h kc ks Φ := by
  intro g
  induction g with
  | zero => intro y8 h q; exact q.elim
  | succ g ih =>
    intro y8 h q
    refine r_iload eX12_far_81 rfl ?_
    refine r_iconst (v := (2)) eX12_far_83 (by decide) ?_
    refine r_iload_n eX12_far_84 rfl ?_
    refine r_imul eX12_far_85 ?_
    refine t_icmp_ge eX12_far_86 (t := 121) (by decide) q (fun q => ?_) (fun q => ?_)
    · exact hK121 _ _ q
    refine r_aload_n eX12_far_89 rfl ?_
    refine t_gfR eX12_far_90 f_12_55 q (fun v90 q => ?_)
    refine r_iconst (v := (4)) eX12_far_93 (by decide) ?_
    refine r_iload eX12_far_94 rfl ?_
    refine r_imul eX12_far_96 ?_
    refine t_statI (As := [_, _]) (rest := []) (d' := d + 2 + 0) eX12_far_97 k_12_411 rfl (by omega) (Nat.le_of_ble_eq_true rfl) (Nat.le_of_ble_eq_true rfl) (fun _ q => s_X12_isNone q) q (fun v97 h97 q => ?_)
    refine t_if_eq eX12_far_100 (t := 106) (by decide) q (fun q => ?_) (fun q => ?_)
    · refine r_aload_n eX12_far_106 rfl ?_
      refine r_iload eX12_far_107 rfl ?_
      refine r_iconst (v := (2)) eX12_far_109 (by decide) ?_
      refine r_iload_n eX12_far_110 rfl ?_
      refine r_imul eX12_far_111 ?_
      refine t_virtV (As := [_, _]) (rest := []) (d' := d + 0 + 2) (ci := 12) eX12_far_112 k_12_417 rfl rfl rfl (by omega) (Nat.le_of_ble_eq_true rfl) (Nat.le_of_ble_eq_true rfl) (fun _ q => s_X12_goOnFar q) q (fun h112 q => ?_)
      refine r_iinc (v := (1)) (lv' := [_, _, _, _, _, _, _, _, _]) eX12_far_115 rfl (by decide) rfl ?_
      refine r_goto (t := 81) eX12_far_118 (by decide) ?_
      exact ih _ _ q
    refine r_goto (t := 115) eX12_far_103 (by decide) ?_
    refine r_iinc (v := (1)) (lv' := [_, _, _, _, _, _, _, _, _]) eX12_far_115 rfl (by decide) rfl ?_
    refine r_goto (t := 81) eX12_far_118 (by decide) ?_
    exact ih _ _ q
theorem sL_X12_far_128 {E : Ev} {d kc ks : Nat} {Φ : Ou → Hp → Prop} {y0 : Nat} {y1 : Int32} {y2 : Int32} {y3 : Nat} {y4 : Int32} {y5 : Nat} {y6 : Int32} {y7 : Int32} {K157 : Hp → Rs} (hK157 : ∀ (w8 : Int32) (h : Hp), OK (K157 h) Φ → WE E mX12_far (d + 3) 157 [some (.ref y0), some (.int y1), some (.int y2), some (.ref y3), some (.int y4), some (.ref y5), some (.int y6), some (.int y7), some (.int w8)] [] h kc ks Φ) : ∀ (g : Nat) (y8 : Int32) (h : Hp), OK (L_X12_far_128 E K157 y0 y1 y5 y6 g y8 h) Φ → WE E mX12_far (d + 3) 128 [some (.ref y0), some (.int y1), some (.int y2), some (.ref y3), some (.int y4), some (.ref y5), some (.int y6), some (.int y7), some (.int y8)] [] h kc ks Φ := by
  intro g
  induction g with
  | zero => intro y8 h q; exact q.elim
  | succ g ih =>
    intro y8 h q
    refine r_iload eX12_far_128 rfl ?_
    refine r_iconst (v := (2)) eX12_far_130 (by decide) ?_
    refine r_iload_n eX12_far_131 rfl ?_
    refine r_imul eX12_far_132 ?_
    refine t_icmp_gt eX12_far_133 (t := 157) (by decide) q (fun q => ?_) (fun q => ?_)
    · exact hK157 _ _ q
    refine r_aload eX12_far_136 rfl ?_
    refine r_iload eX12_far_138 rfl ?_
    refine r_aload_n eX12_far_140 rfl ?_
    refine t_gfR eX12_far_141 f_12_58 q (fun v141 q => ?_)
    refine r_iconst (v := (4)) eX12_far_144 (by decide) ?_
    refine r_iload eX12_far_145 rfl ?_
    refine r_imul eX12_far_147 ?_
    refine t_statV (As := [_, _, _, _]) (rest := []) (d' := d + 2 + 0) eX12_far_148 k_12_377 rfl (by omega) (Nat.le_of_ble_eq_true rfl) (Nat.le_of_ble_eq_true rfl) (fun _ q => s_X12_join q) q (fun h148 q => ?_)
    refine r_iinc (v := (1)) (lv' := [_, _, _, _, _, _, _, _, _]) eX12_far_151 rfl (by decide) rfl ?_
    refine r_goto (t := 128) eX12_far_154 (by decide) ?_
    exact ih _ _ q
theorem sL_X12_far_160 {E : Ev} {d kc ks : Nat} {Φ : Ou → Hp → Prop} {y0 : Nat} {y1 : Int32} {y2 : Int32} {y3 : Nat} {y4 : Int32} {y5 : Nat} {y6 : Int32} {y7 : Int32} {K190 : Hp → Rs} (hK190 : ∀ (w8 : Int32) (h : Hp), OK (K190 h) Φ → WE E mX12_far (d + 3) 190 [some (.ref y0), some (.int y1), some (.int y2), some (.ref y3), some (.int y4), some (.ref y5), some (.int y6), some (.int y7), some (.int w8)] [] h kc ks Φ) : ∀ (g : Nat) (y8 : Int32) (h : Hp), OK (L_X12_far_160 E K190 y0 g y8 h) Φ → WE E mX12_far (d + 3) 160 [some (.ref y0), some (.int y1), some (.int y2), some (.ref y3), some (.int y4), some (.ref y5), some (.int y6), some (.int y7), some (.int y8)] [] h kc ks Φ := by
  intro g
  induction g with
  | zero => intro y8 h q; exact q.elim
  | succ g ih =>
    intro y8 h q
    refine r_iload eX12_far_160 rfl ?_
    refine r_aload_n eX12_far_162 rfl ?_
    refine t_gfR eX12_far_163 f_12_58 q (fun v163 q => ?_)
    refine t_aln eX12_far_166 (by decide) q (fun v166 q => ?_)
    refine t_icmp_ge eX12_far_167 (t := 190) (by decide) q (fun q => ?_) (fun q => ?_)
    · exact hK190 _ _ q
    refine r_aload_n eX12_far_170 rfl ?_
    refine t_gfR eX12_far_171 f_12_55 q (fun v171 q => ?_)
    refine r_iload eX12_far_174 rfl ?_
    refine r_aload_n eX12_far_176 rfl ?_
    refine t_gfR eX12_far_177 f_12_58 q (fun v177 q => ?_)
    refine r_iload eX12_far_180 rfl ?_
    refine t_gaL eX12_far_182 q (fun v182 q => ?_)
    refine t_paL eX12_far_183 q (fun h183 q => ?_)
    refine r_iinc (v := (1)) (lv' := [_, _, _, _, _, _, _, _, _]) eX12_far_184 rfl (by decide) rfl ?_
    refine r_goto (t := 160) eX12_far_187 (by decide) ?_
    exact ih _ _ q
theorem sL_X12_far_41 {E : Ev} {d kc ks : Nat} {Φ : Ou → Hp → Prop} {y0 : Nat} {y1 : Int32} {y2 : Int32} {y3 : Nat} {y4 : Int32} {y5 : Nat} {y6 : Int32}  : ∀ (g : Nat) (y7 : Int32) (y8 : Option Value) (h : Hp), OK (L_X12_far_41 E y0 y1 y2 y5 y6 g y7 h) Φ → WE E mX12_far (d + 3) 41 [some (.ref y0), some (.int y1), some (.int y2), some (.ref y3), some (.int y4), some (.ref y5), some (.int y6), some (.int y7), y8] [] h kc ks Φ := by
  intro g
  induction g with
  | zero => intro y7 y8 h q; exact q.elim
  | succ g ih =>
    intro y7 y8 h q
    refine r_iload eX12_far_41 rfl ?_
    refine r_aload_n eX12_far_43 rfl ?_
    refine r_iload_n eX12_far_44 rfl ?_
    refine t_virtI (As := [_]) (rest := [_]) (d' := d + 2 + 0) (ci := 12) eX12_far_45 k_12_400 rfl rfl rfl (by omega) (Nat.le_of_ble_eq_true rfl) (Nat.le_of_ble_eq_true rfl) (fun _ q => s_X12_patience q) q (fun v45 h45 q => ?_)
    refine t_icmp_ge eX12_far_48 (t := 196) (by decide) q (fun q => ?_) (fun q => ?_)
    · exact t_rtV eX12_far_196 rfl q
    refine r_iconst (v := (0)) eX12_far_51 (by decide) ?_
    refine r_istore (lv' := [_, _, _, _, _, _, _, _, _]) eX12_far_52 (Nat.le_of_ble_eq_true rfl) rfl ?_
    refine sL_X12_far_54 (fun w1 h2 q => ?_) _ _ _ q
    refine r_iconst (v := (0)) eX12_far_78 (by decide) ?_
    refine r_istore (lv' := [_, _, _, _, _, _, _, _, _]) eX12_far_79 (Nat.le_of_ble_eq_true rfl) rfl ?_
    refine sL_X12_far_81 (fun w3 h4 q => ?_) _ _ _ q
    refine r_iload_n eX12_far_121 rfl ?_
    refine r_iconst (v := (1)) eX12_far_122 (by decide) ?_
    refine r_iadd eX12_far_123 ?_
    refine r_iconst (v := (2)) eX12_far_124 (by decide) ?_
    refine t_dvI eX12_far_125 q (fun v125 q => ?_)
    refine r_istore (lv' := [_, _, _, _, _, _, _, _, _]) eX12_far_126 (Nat.le_of_ble_eq_true rfl) rfl ?_
    refine sL_X12_far_128 (fun w5 h6 q => ?_) _ _ _ q
    refine r_iconst (v := (0)) eX12_far_157 (by decide) ?_
    refine r_istore (lv' := [_, _, _, _, _, _, _, _, _]) eX12_far_158 (Nat.le_of_ble_eq_true rfl) rfl ?_
    refine sL_X12_far_160 (fun w7 h8 q => ?_) _ _ _ q
    refine r_iinc (v := (1)) (lv' := [_, _, _, _, _, _, _, _, _]) eX12_far_190 rfl (by decide) rfl ?_
    refine r_goto (t := 41) eX12_far_193 (by decide) ?_
    exact ih _ _ _ q
theorem s_X12_far {E : Ev} {d : Nat} {a0 : Nat} {x1 : Int32} {x2 : Int32} {a3 : Nat} {x4 : Int32} {a5 : Nat} {x6 : Int32} {h : Hp} {Φ : Ou → Hp → Prop} (q : OK (F_X12_far E a0 x1 x2 a3 x4 a5 x6 h) Φ) : CE E mX12_far (d + 3) [.ref a0, .int x1, .int x2, .ref a3, .int x4, .ref a5, .int x6] h 0 0 Φ := by
  show WE E mX12_far (d + 3) 0 [some (.ref a0), some (.int x1), some (.int x2), some (.ref a3), some (.int x4), some (.ref a5), some (.int x6), none, none] [] h 0 0 Φ
  refine r_iconst (v := (0)) eX12_far_0 (by decide) ?_
  refine r_istore (lv' := [_, _, _, _, _, _, _, _, _]) eX12_far_1 (Nat.le_of_ble_eq_true rfl) rfl ?_
  refine sL_X12_far_3 (fun w1 h2 q => ?_) _ _ _ q
  refine r_aload_n eX12_far_27 rfl ?_
  refine t_gfR eX12_far_28 f_12_55 q (fun v28 q => ?_)
  refine r_iconst (v := (0)) eX12_far_31 (by decide) ?_
  refine r_aload_n eX12_far_32 rfl ?_
  refine r_iload eX12_far_33 rfl ?_
  refine t_statV (As := [_, _, _, _]) (rest := []) (d' := d + 2 + 0) eX12_far_35 k_12_403 rfl (by omega) (Nat.le_of_ble_eq_true rfl) (Nat.le_of_ble_eq_true rfl) (fun _ q => s_X12_copy q) q (fun h35 q => ?_)
  refine r_iconst (v := (0)) eX12_far_38 (by decide) ?_
  refine r_istore (lv' := [_, _, _, _, _, _, _, _, _]) eX12_far_39 (Nat.le_of_ble_eq_true rfl) rfl ?_
  exact sL_X12_far_41  _ _ _ _ q
theorem sL_X12_isOver_64 {E : Ev} {d kc ks : Nat} {Φ : Ou → Hp → Prop} {y0 : Nat} {y1 : Int32} {y2 : Int32} {y3 : Int32} {y4 : Int32} {y5 : Int32} {K101 : Hp → Rs} (hK101 : ∀ (w6 : Int32) (h : Hp), OK (K101 h) Φ → WE E mX12_isOver (d + 4) 101 [some (.ref y0), some (.int y1), some (.int y2), some (.int y3), some (.int y4), some (.int y5), some (.int w6)] [] h kc ks Φ) : ∀ (g : Nat) (y6 : Int32) (h : Hp), OK (L_X12_isOver_64 E K101 y0 y4 g y6 h) Φ → WE E mX12_isOver (d + 4) 64 [some (.ref y0), some (.int y1), some (.int y2), some (.int y3), some (.int y4), some (.int y5), some (.int y6)] [] h kc ks Φ := by
  intro g
  induction g with
  | zero => intro y6 h q; exact q.elim
  | succ g ih =>
    intro y6 h q
    refine r_iload eX12_isOver_64 rfl ?_
    refine r_iconst (v := (4)) eX12_isOver_66 (by decide) ?_
    refine t_icmp_ge eX12_isOver_67 (t := 101) (by decide) q (fun q => ?_) (fun q => ?_)
    · exact hK101 _ _ q
    refine r_aload_n eX12_isOver_70 rfl ?_
    refine t_gfR eX12_isOver_71 f_12_46 q (fun v71 q => ?_)
    refine r_iload eX12_isOver_74 rfl ?_
    refine t_gaL eX12_isOver_76 q (fun v76 q => ?_)
    refine r_aload_n eX12_isOver_77 rfl ?_
    refine t_gfR eX12_isOver_78 f_12_28 q (fun v78 q => ?_)
    refine r_iload eX12_isOver_81 rfl ?_
    refine r_iload eX12_isOver_83 rfl ?_
    refine r_iadd eX12_isOver_85 ?_
    refine t_gaL eX12_isOver_86 q (fun v86 q => ?_)
    refine r_land eX12_isOver_87 ?_
    refine r_lconst (v := 0) eX12_isOver_88 rfl ?_
    refine t_lc_eq eX12_isOver_89 eX12_isOver_90 (t := 95) (by decide) q (fun q => ?_) (fun q => ?_)
    · refine r_iinc (v := (1)) (lv' := [_, _, _, _, _, _, _]) eX12_isOver_95 rfl (by decide) rfl ?_
      refine r_goto (t := 64) eX12_isOver_98 (by decide) ?_
      exact ih _ _ q
    refine r_iconst (v := (1)) eX12_isOver_93 (by decide) ?_
    exact t_rtZ eX12_isOver_94 rfl q
theorem sL_X12_isOver_28 {E : Ev} {d kc ks : Nat} {Φ : Ou → Hp → Prop} {y0 : Nat} {y1 : Int32} {y2 : Int32} {y3 : Int32} {y4 : Int32}  : ∀ (g : Nat) (y5 : Int32) (y6 : Option Value) (h : Hp), OK (L_X12_isOver_28 E y0 y4 g y5 h) Φ → WE E mX12_isOver (d + 4) 28 [some (.ref y0), some (.int y1), some (.int y2), some (.int y3), some (.int y4), some (.int y5), y6] [] h kc ks Φ := by
  intro g
  induction g with
  | zero => intro y5 y6 h q; exact q.elim
  | succ g ih =>
    intro y5 y6 h q
    refine r_iload eX12_isOver_28 rfl ?_
    refine r_iconst (v := (3)) eX12_isOver_30 (by decide) ?_
    refine t_icmp_ge eX12_isOver_31 (t := 107) (by decide) q (fun q => ?_) (fun q => ?_)
    · refine r_iconst (v := (0)) eX12_isOver_107 (by decide) ?_
      exact t_rtZ eX12_isOver_108 rfl q
    refine r_aload_n eX12_isOver_34 rfl ?_
    refine r_aload_n eX12_isOver_35 rfl ?_
    refine t_gfR eX12_isOver_36 f_12_46 q (fun v36 q => ?_)
    refine r_iconst (v := (0)) eX12_isOver_39 (by decide) ?_
    refine r_aload_n eX12_isOver_40 rfl ?_
    refine t_gfR eX12_isOver_41 f_12_49 q (fun v41 q => ?_)
    refine r_iconst (v := (0)) eX12_isOver_44 (by decide) ?_
    refine t_virtV (As := [_, _, _, _]) (rest := []) (d' := d + 2 + 1) (ci := 12) eX12_isOver_45 k_12_406 rfl rfl rfl (by omega) (Nat.le_of_ble_eq_true rfl) (Nat.le_of_ble_eq_true rfl) (fun _ q => s_X12_goOn q) q (fun h45 q => ?_)
    refine r_aload_n eX12_isOver_48 rfl ?_
    refine t_gfR eX12_isOver_49 f_12_46 q (fun v49 q => ?_)
    refine r_iconst (v := (0)) eX12_isOver_52 (by decide) ?_
    refine r_aload_n eX12_isOver_53 rfl ?_
    refine t_gfR eX12_isOver_54 f_12_49 q (fun v54 q => ?_)
    refine r_iconst (v := (0)) eX12_isOver_57 (by decide) ?_
    refine t_statV (As := [_, _, _, _]) (rest := []) (d' := d + 3 + 0) eX12_isOver_58 k_12_403 rfl (by omega) (Nat.le_of_ble_eq_true rfl) (Nat.le_of_ble_eq_true rfl) (fun _ q => s_X12_copy q) q (fun h58 q => ?_)
    refine r_iconst (v := (0)) eX12_isOver_61 (by decide) ?_
    refine r_istore (lv' := [_, _, _, _, _, _, _]) eX12_isOver_62 (Nat.le_of_ble_eq_true rfl) rfl ?_
    refine sL_X12_isOver_64 (fun w1 h2 q => ?_) _ _ _ q
    refine r_iinc (v := (1)) (lv' := [_, _, _, _, _, _, _]) eX12_isOver_101 rfl (by decide) rfl ?_
    refine r_goto (t := 28) eX12_isOver_104 (by decide) ?_
    exact ih _ _ _ q
theorem s_X12_isOver {E : Ev} {d : Nat} {a0 : Nat} {x1 : Int32} {x2 : Int32} {x3 : Int32} {h : Hp} {Φ : Ou → Hp → Prop} (q : OK (F_X12_isOver E a0 x1 x2 x3 h) Φ) : CE E mX12_isOver (d + 4) [.ref a0, .int x1, .int x2, .int x3] h 0 0 Φ := by
  show WE E mX12_isOver (d + 4) 0 [some (.ref a0), some (.int x1), some (.int x2), some (.int x3), none, none, none] [] h 0 0 Φ
  refine r_aload_n eX12_isOver_0 rfl ?_
  refine r_iload_n eX12_isOver_1 rfl ?_
  refine r_iload_n eX12_isOver_2 rfl ?_
  refine t_virtI (As := [_, _]) (rest := []) (d' := d + 0 + 3) (ci := 12) eX12_isOver_3 k_12_409 rfl rfl rfl (by omega) (Nat.le_of_ble_eq_true rfl) (Nat.le_of_ble_eq_true rfl) (fun _ q => s_X12_standing q) q (fun v3 h3 q => ?_)
  refine r_istore (lv' := [_, _, _, _, _, _, _]) eX12_isOver_6 (Nat.le_of_ble_eq_true rfl) rfl ?_
  refine r_aload_n eX12_isOver_8 rfl ?_
  refine t_gfR eX12_isOver_9 f_12_46 q (fun v9 q => ?_)
  refine r_iconst (v := (0)) eX12_isOver_12 (by decide) ?_
  refine t_statV (As := [_, _]) (rest := []) (d' := d + 3 + 0) eX12_isOver_13 k_12_218 rfl (by omega) (Nat.le_of_ble_eq_true rfl) (Nat.le_of_ble_eq_true rfl) (fun _ q => s_X12_empty q) q (fun h13 q => ?_)
  refine r_aload_n eX12_isOver_16 rfl ?_
  refine t_gfR eX12_isOver_17 f_12_46 q (fun v17 q => ?_)
  refine r_iconst (v := (0)) eX12_isOver_20 (by decide) ?_
  refine r_iload_n eX12_isOver_21 rfl ?_
  refine t_statV (As := [_, _, _]) (rest := []) (d' := d + 3 + 0) eX12_isOver_22 k_12_178 rfl (by omega) (Nat.le_of_ble_eq_true rfl) (Nat.le_of_ble_eq_true rfl) (fun _ q => s_X12_put q) q (fun h22 q => ?_)
  refine r_iconst (v := (0)) eX12_isOver_25 (by decide) ?_
  refine r_istore (lv' := [_, _, _, _, _, _, _]) eX12_isOver_26 (Nat.le_of_ble_eq_true rfl) rfl ?_
  exact sL_X12_isOver_28  _ _ _ _ q
theorem sL_X12_nth_21 {E : Ev} {d kc ks : Nat} {Φ : Ou → Hp → Prop} {y0 : Nat} {y1 : Int32} {y2 : Int32} {y3 : Int32} {y4 : Int32} {y5 : Nat} {y6 : Int32} {y7 : Nat} {y8 : Int32} {y9 : Int32} {K45 : Hp → Rs} (hK45 : ∀ (w10 : Int32) (h : Hp), OK (K45 h) Φ → WE E mX12_nth (d + 4) 45 [some (.ref y0), some (.int y1), some (.int y2), some (.int y3), some (.int y4), some (.ref y5), some (.int y6), some (.ref y7), some (.int y8), some (.int y9), some (.int w10), none, none, none, none] [] h kc ks Φ) : ∀ (g : Nat) (y10 : Int32) (h : Hp), OK (L_X12_nth_21 E K45 y0 g y10 h) Φ → WE E mX12_nth (d + 4) 21 [some (.ref y0), some (.int y1), some (.int y2), some (.int y3), some (.int y4), some (.ref y5), some (.int y6), some (.ref y7), some (.int y8), some (.int y9), some (.int y10), none, none, none, none] [] h kc ks Φ := by
  intro g
  induction g with
  | zero => intro y10 h q; exact q.elim
  | succ g ih =>
    intro y10 h q
    refine r_iload eX12_nth_21 rfl ?_
    refine r_aload_n eX12_nth_23 rfl ?_
    refine t_gfR eX12_nth_24 f_12_55 q (fun v24 q => ?_)
    refine t_aln eX12_nth_27 (by decide) q (fun v27 q => ?_)
    refine t_icmp_ge eX12_nth_28 (t := 45) (by decide) q (fun q => ?_) (fun q => ?_)
    · exact hK45 _ _ q
    refine r_aload_n eX12_nth_31 rfl ?_
    refine t_gfR eX12_nth_32 f_12_55 q (fun v32 q => ?_)
    refine r_iload eX12_nth_35 rfl ?_
    refine r_lconst (v := 0) eX12_nth_37 rfl ?_
    refine t_paL eX12_nth_38 q (fun h38 q => ?_)
    refine r_iinc (v := (1)) (lv' := [_, _, _, _, _, _, _, _, _, _, _, _, _, _, _]) eX12_nth_39 rfl (by decide) rfl ?_
    refine r_goto (t := 21) eX12_nth_42 (by decide) ?_
    exact ih _ _ q
theorem sL_X12_nth_74 {E : Ev} {d kc ks : Nat} {Φ : Ou → Hp → Prop} {y0 : Nat} {y1 : Int32} {y2 : Int32} {y3 : Int32} {y4 : Int32} {y5 : Nat} {y6 : Int32} {y7 : Nat} {y8 : Int32} {y9 : Int32} {y10 : Int32} {y12 : Option Value} {y13 : Option Value} {y14 : Option Value} {K98 : Hp → Rs} (hK98 : ∀ (w11 : Int32) (h : Hp), OK (K98 h) Φ → WE E mX12_nth (d + 4) 98 [some (.ref y0), some (.int y1), some (.int y2), some (.int y3), some (.int y4), some (.ref y5), some (.int y6), some (.ref y7), some (.int y8), some (.int y9), some (.int y10), some (.int w11), y12, y13, y14] [] h kc ks Φ) : ∀ (g : Nat) (y11 : Int32) (h : Hp), OK (L_X12_nth_74 E K98 y0 g y11 h) Φ → WE E mX12_nth (d + 4) 74 [some (.ref y0), some (.int y1), some (.int y2), some (.int y3), some (.int y4), some (.ref y5), some (.int y6), some (.ref y7), some (.int y8), some (.int y9), some (.int y10), some (.int y11), y12, y13, y14] [] h kc ks Φ := by
  intro g
  induction g with
  | zero => intro y11 h q; exact q.elim
  | succ g ih =>
    intro y11 h q
    refine r_iload eX12_nth_74 rfl ?_
    refine r_aload_n eX12_nth_76 rfl ?_
    refine t_gfR eX12_nth_77 f_12_58 q (fun v77 q => ?_)
    refine t_aln eX12_nth_80 (by decide) q (fun v80 q => ?_)
    refine t_icmp_ge eX12_nth_81 (t := 98) (by decide) q (fun q => ?_) (fun q => ?_)
    · exact hK98 _ _ q
    refine r_aload_n eX12_nth_84 rfl ?_
    refine t_gfR eX12_nth_85 f_12_58 q (fun v85 q => ?_)
    refine r_iload eX12_nth_88 rfl ?_
    refine r_lconst (v := 0) eX12_nth_90 rfl ?_
    refine t_paL eX12_nth_91 q (fun h91 q => ?_)
    refine r_iinc (v := (1)) (lv' := [_, _, _, _, _, _, _, _, _, _, _, _, _, _, _]) eX12_nth_92 rfl (by decide) rfl ?_
    refine r_goto (t := 74) eX12_nth_95 (by decide) ?_
    exact ih _ _ q
theorem sJ_X12_nth_219 {E : Ev} {d kc ks : Nat} {Φ : Ou → Hp → Prop} {y0 : Nat} {y1 : Int32} {y2 : Int32} {y3 : Int32} {y4 : Int32} {y5 : Nat} {y6 : Int32} {y7 : Nat} {y8 : Int32} {y9 : Int32} {y10 : Int32} {y11 : Int32} {y12 : Int32} {y13 : Int32} {y14 : Option Value} {t0 : Int32} {h : Hp} {K144 : Int32 → Hp → Rs} (hK144 : ∀ (w12 : Int32) (w13 : Option Value) (w14 : Option Value) (h : Hp), OK (K144 w12 h) Φ → WE E mX12_nth (d + 4) 144 [some (.ref y0), some (.int y1), some (.int y2), some (.int y3), some (.int y4), some (.ref y5), some (.int y6), some (.ref y7), some (.int y8), some (.int y9), some (.int y10), some (.int y11), some (.int w12), w13, w14] [] h kc ks Φ) (q : OK (J_X12_nth_219 E K144 y0 y1 y2 y4 y7 y8 y9 y11 y12 y13 t0 h) Φ) : WE E mX12_nth (d + 4) 219 [some (.ref y0), some (.int y1), some (.int y2), some (.int y3), some (.int y4), some (.ref y5), some (.int y6), some (.ref y7), some (.int y8), some (.int y9), some (.int y10), some (.int y11), some (.int y12), some (.int y13), y14] [.int t0] h kc ks Φ := by
  refine r_istore (lv' := [_, _, _, _, _, _, _, _, _, _, _, _, _, _, _]) eX12_nth_219 (Nat.le_of_ble_eq_true rfl) rfl ?_
  refine r_iload eX12_nth_221 rfl ?_
  refine t_if_ne eX12_nth_223 (t := 242) (by decide) q (fun q => ?_) (fun q => ?_)
  · refine r_iload eX12_nth_242 rfl ?_
    refine r_iconst (v := (1)) eX12_nth_244 (by decide) ?_
    refine r_iadd eX12_nth_245 ?_
    refine r_iload_n eX12_nth_246 rfl ?_
    refine t_icmp_ge eX12_nth_247 (t := 268) (by decide) q (fun q => ?_) (fun q => ?_)
    · refine r_aload eX12_nth_268 rfl ?_
      refine r_iload eX12_nth_270 rfl ?_
      refine r_aload_n eX12_nth_272 rfl ?_
      refine t_gfR eX12_nth_273 f_12_24 q (fun v273 q => ?_)
      refine r_iload eX12_nth_276 rfl ?_
      refine t_statV (As := [_, _, _, _]) (rest := []) (d' := d + 3 + 0) eX12_nth_278 k_12_377 rfl (by omega) (Nat.le_of_ble_eq_true rfl) (Nat.le_of_ble_eq_true rfl) (fun _ q => s_X12_join q) q (fun h278 q => ?_)
      refine r_iinc (v := (2)) (lv' := [_, _, _, _, _, _, _, _, _, _, _, _, _, _, _]) eX12_nth_281 rfl (by decide) rfl ?_
      refine r_goto (t := 144) eX12_nth_284 (by decide) ?_
      exact hK144 _ _ _ _ q
    refine r_aload_n eX12_nth_250 rfl ?_
    refine t_gfR eX12_nth_251 f_12_58 q (fun v251 q => ?_)
    refine r_iconst (v := (4)) eX12_nth_254 (by decide) ?_
    refine r_iload eX12_nth_255 rfl ?_
    refine r_iconst (v := (1)) eX12_nth_257 (by decide) ?_
    refine r_iadd eX12_nth_258 ?_
    refine r_imul eX12_nth_259 ?_
    refine r_iload eX12_nth_260 rfl ?_
    refine t_statV (As := [_, _, _]) (rest := []) (d' := d + 3 + 0) eX12_nth_262 k_12_178 rfl (by omega) (Nat.le_of_ble_eq_true rfl) (Nat.le_of_ble_eq_true rfl) (fun _ q => s_X12_put q) q (fun h262 q => ?_)
    refine r_goto (t := 281) eX12_nth_265 (by decide) ?_
    refine r_iinc (v := (2)) (lv' := [_, _, _, _, _, _, _, _, _, _, _, _, _, _, _]) eX12_nth_281 rfl (by decide) rfl ?_
    refine r_goto (t := 144) eX12_nth_284 (by decide) ?_
    exact hK144 _ _ _ _ q
  refine r_aload_n eX12_nth_226 rfl ?_
  refine t_gfR eX12_nth_227 f_12_58 q (fun v227 q => ?_)
  refine r_iconst (v := (4)) eX12_nth_230 (by decide) ?_
  refine r_iload eX12_nth_231 rfl ?_
  refine r_imul eX12_nth_233 ?_
  refine r_iload eX12_nth_234 rfl ?_
  refine t_statV (As := [_, _, _]) (rest := []) (d' := d + 3 + 0) eX12_nth_236 k_12_178 rfl (by omega) (Nat.le_of_ble_eq_true rfl) (Nat.le_of_ble_eq_true rfl) (fun _ q => s_X12_put q) q (fun h236 q => ?_)
  refine r_goto (t := 281) eX12_nth_239 (by decide) ?_
  refine r_iinc (v := (2)) (lv' := [_, _, _, _, _, _, _, _, _, _, _, _, _, _, _]) eX12_nth_281 rfl (by decide) rfl ?_
  refine r_goto (t := 144) eX12_nth_284 (by decide) ?_
  exact hK144 _ _ _ _ q
theorem sL_X12_nth_144 {E : Ev} {d kc ks : Nat} {Φ : Ou → Hp → Prop} {y0 : Nat} {y1 : Int32} {y2 : Int32} {y3 : Int32} {y4 : Int32} {y5 : Nat} {y6 : Int32} {y7 : Nat} {y8 : Int32} {y9 : Int32} {y10 : Int32} {y11 : Int32} {K287 : Hp → Rs} (hK287 : ∀ (w12 : Int32) (w13 : Option Value) (w14 : Option Value) (h : Hp), OK (K287 h) Φ → WE E mX12_nth (d + 4) 287 [some (.ref y0), some (.int y1), some (.int y2), some (.int y3), some (.int y4), some (.ref y5), some (.int y6), some (.ref y7), some (.int y8), some (.int y9), some (.int y10), some (.int y11), some (.int w12), w13, w14] [] h kc ks Φ) : ∀ (g : Nat) (y12 : Int32) (y13 : Option Value) (y14 : Option Value) (h : Hp), OK (L_X12_nth_144 E K287 y0 y1 y2 y4 y7 y8 y9 y11 g y12 h) Φ → WE E mX12_nth (d + 4) 144 [some (.ref y0), some (.int y1), some (.int y2), some (.int y3), some (.int y4), some (.ref y5), some (.int y6), some (.ref y7), some (.int y8), some (.int y9), some (.int y10), some (.int y11), some (.int y12), y13, y14] [] h kc ks Φ := by
  intro g
  induction g with
  | zero => intro y12 y13 y14 h q; exact q.elim
  | succ g ih =>
    intro y12 y13 y14 h q
    refine r_iload eX12_nth_144 rfl ?_
    refine r_sipush (v := (240)) eX12_nth_146 (by decide) ?_
    refine t_icmp_ge eX12_nth_149 (t := 287) (by decide) q (fun q => ?_) (fun q => ?_)
    · exact hK287 _ _ _ _ q
    refine r_aload_n eX12_nth_152 rfl ?_
    refine t_gfR eX12_nth_153 f_12_49 q (fun v153 q => ?_)
    refine r_iconst (v := (0)) eX12_nth_156 (by decide) ?_
    refine r_iload eX12_nth_157 rfl ?_
    refine t_statI (As := [_, _, _]) (rest := []) (d' := d + 3 + 0) eX12_nth_159 k_12_185 rfl (by omega) (Nat.le_of_ble_eq_true rfl) (Nat.le_of_ble_eq_true rfl) (fun _ q => s_X12_has q) q (fun v159 h159 q => ?_)
    refine t_if_ne eX12_nth_162 (t := 168) (by decide) q (fun q => ?_) (fun q => ?_)
    · refine r_iload_n eX12_nth_168 rfl ?_
      refine r_aload_n eX12_nth_169 rfl ?_
      refine r_iload eX12_nth_170 rfl ?_
      refine t_virtI (As := [_]) (rest := [_]) (d' := d + 3 + 0) (ci := 12) eX12_nth_172 k_12_420 rfl rfl rfl (by omega) (Nat.le_of_ble_eq_true rfl) (Nat.le_of_ble_eq_true rfl) (fun _ q => s_X12_countsPaths q) q (fun v172 h172 q => ?_)
      refine r_iload eX12_nth_175 rfl ?_
      refine t_statI (As := [_, _, _]) (rest := []) (d' := d + 3 + 0) eX12_nth_177 k_12_174 rfl (by omega) (Nat.le_of_ble_eq_true rfl) (Nat.le_of_ble_eq_true rfl) (fun _ q => s_X12_sideAt q) q (fun v177 h177 q => ?_)
      refine r_istore (lv' := [_, _, _, _, _, _, _, _, _, _, _, _, _, _, _]) eX12_nth_180 (Nat.le_of_ble_eq_true rfl) rfl ?_
      refine r_aload_n eX12_nth_182 rfl ?_
      refine t_gfR eX12_nth_183 f_12_24 q (fun v183 q => ?_)
      refine r_iload eX12_nth_186 rfl ?_
      refine t_statI (As := [_, _]) (rest := []) (d' := d + 3 + 0) eX12_nth_188 k_12_411 rfl (by omega) (Nat.le_of_ble_eq_true rfl) (Nat.le_of_ble_eq_true rfl) (fun _ q => s_X12_isNone q) q (fun v188 h188 q => ?_)
      refine t_if_ne eX12_nth_191 (t := 218) (by decide) q (fun q => ?_) (fun q => ?_)
      · refine r_iconst (v := (0)) eX12_nth_218 (by decide) ?_
        refine sJ_X12_nth_219 (fun w1 w2 w3 h4 q => ?_) q
        exact ih _ _ _ _ q
      refine r_iload eX12_nth_194 rfl ?_
      refine r_iconst (v := (-1)) eX12_nth_196 (by decide) ?_
      refine t_icmp_eq eX12_nth_197 (t := 214) (by decide) q (fun q => ?_) (fun q => ?_)
      · refine r_iconst (v := (1)) eX12_nth_214 (by decide) ?_
        refine r_goto (t := 219) eX12_nth_215 (by decide) ?_
        refine sJ_X12_nth_219 (fun w5 w6 w7 h8 q => ?_) q
        exact ih _ _ _ _ q
      refine r_aload_n eX12_nth_200 rfl ?_
      refine t_gfR eX12_nth_201 f_12_28 q (fun v201 q => ?_)
      refine r_iload eX12_nth_204 rfl ?_
      refine r_iload eX12_nth_206 rfl ?_
      refine t_statI (As := [_, _, _]) (rest := []) (d' := d + 3 + 0) eX12_nth_208 k_12_185 rfl (by omega) (Nat.le_of_ble_eq_true rfl) (Nat.le_of_ble_eq_true rfl) (fun _ q => s_X12_has q) q (fun v208 h208 q => ?_)
      refine t_if_ne eX12_nth_211 (t := 218) (by decide) q (fun q => ?_) (fun q => ?_)
      · refine r_iconst (v := (0)) eX12_nth_218 (by decide) ?_
        refine sJ_X12_nth_219 (fun w9 w10 w11 h12 q => ?_) q
        exact ih _ _ _ _ q
      refine r_iconst (v := (1)) eX12_nth_214 (by decide) ?_
      refine r_goto (t := 219) eX12_nth_215 (by decide) ?_
      refine sJ_X12_nth_219 (fun w13 w14 w15 h16 q => ?_) q
      exact ih _ _ _ _ q
    refine r_goto (t := 281) eX12_nth_165 (by decide) ?_
    refine r_iinc (v := (2)) (lv' := [_, _, _, _, _, _, _, _, _, _, _, _, _, _, _]) eX12_nth_281 rfl (by decide) rfl ?_
    refine r_goto (t := 144) eX12_nth_284 (by decide) ?_
    exact ih _ _ _ _ q
theorem sL_X12_nth_101 {E : Ev} {d kc ks : Nat} {Φ : Ou → Hp → Prop} {y0 : Nat} {y1 : Int32} {y2 : Int32} {y3 : Int32} {y4 : Int32} {y5 : Nat} {y6 : Int32} {y7 : Nat} {y8 : Int32} {y9 : Int32} {y10 : Int32} {K293 : Hp → Rs} (hK293 : ∀ (w11 : Int32) (w12 : Option Value) (w13 : Option Value) (w14 : Option Value) (h : Hp), OK (K293 h) Φ → WE E mX12_nth (d + 4) 293 [some (.ref y0), some (.int y1), some (.int y2), some (.int y3), some (.int y4), some (.ref y5), some (.int y6), some (.ref y7), some (.int y8), some (.int y9), some (.int y10), some (.int w11), w12, w13, w14] [] h kc ks Φ) : ∀ (g : Nat) (y11 : Int32) (y12 : Option Value) (y13 : Option Value) (y14 : Option Value) (h : Hp), OK (L_X12_nth_101 E K293 y0 y1 y2 y4 y7 y8 y9 g y11 h) Φ → WE E mX12_nth (d + 4) 101 [some (.ref y0), some (.int y1), some (.int y2), some (.int y3), some (.int y4), some (.ref y5), some (.int y6), some (.ref y7), some (.int y8), some (.int y9), some (.int y10), some (.int y11), y12, y13, y14] [] h kc ks Φ := by
  intro g
  induction g with
  | zero => intro y11 y12 y13 y14 h q; exact q.elim
  | succ g ih =>
    intro y11 y12 y13 y14 h q
    refine r_iload eX12_nth_101 rfl ?_
    refine r_iload_n eX12_nth_103 rfl ?_
    refine t_icmp_ge eX12_nth_104 (t := 293) (by decide) q (fun q => ?_) (fun q => ?_)
    · exact hK293 _ _ _ _ _ q
    refine r_aload_n eX12_nth_107 rfl ?_
    refine t_gfR eX12_nth_108 f_12_55 q (fun v108 q => ?_)
    refine r_iconst (v := (4)) eX12_nth_111 (by decide) ?_
    refine r_iload eX12_nth_112 rfl ?_
    refine r_imul eX12_nth_114 ?_
    refine t_statI (As := [_, _]) (rest := []) (d' := d + 3 + 0) eX12_nth_115 k_12_411 rfl (by omega) (Nat.le_of_ble_eq_true rfl) (Nat.le_of_ble_eq_true rfl) (fun _ q => s_X12_isNone q) q (fun v115 h115 q => ?_)
    refine t_if_eq eX12_nth_118 (t := 124) (by decide) q (fun q => ?_) (fun q => ?_)
    · refine r_aload_n eX12_nth_124 rfl ?_
      refine r_aload_n eX12_nth_125 rfl ?_
      refine t_gfR eX12_nth_126 f_12_55 q (fun v126 q => ?_)
      refine r_iconst (v := (4)) eX12_nth_129 (by decide) ?_
      refine r_iload eX12_nth_130 rfl ?_
      refine r_imul eX12_nth_132 ?_
      refine r_aload_n eX12_nth_133 rfl ?_
      refine t_gfR eX12_nth_134 f_12_49 q (fun v134 q => ?_)
      refine r_iconst (v := (0)) eX12_nth_137 (by decide) ?_
      refine t_virtV (As := [_, _, _, _]) (rest := []) (d' := d + 2 + 1) (ci := 12) eX12_nth_138 k_12_406 rfl rfl rfl (by omega) (Nat.le_of_ble_eq_true rfl) (Nat.le_of_ble_eq_true rfl) (fun _ q => s_X12_goOn q) q (fun h138 q => ?_)
      refine r_iconst (v := (0)) eX12_nth_141 (by decide) ?_
      refine r_istore (lv' := [_, _, _, _, _, _, _, _, _, _, _, _, _, _, _]) eX12_nth_142 (Nat.le_of_ble_eq_true rfl) rfl ?_
      refine sL_X12_nth_144 (fun w1 w2 w3 h4 q => ?_) _ _ _ _ _ q
      refine r_iinc (v := (1)) (lv' := [_, _, _, _, _, _, _, _, _, _, _, _, _, _, _]) eX12_nth_287 rfl (by decide) rfl ?_
      refine r_goto (t := 101) eX12_nth_290 (by decide) ?_
      exact ih _ _ _ _ _ q
    refine r_goto (t := 287) eX12_nth_121 (by decide) ?_
    refine r_iinc (v := (1)) (lv' := [_, _, _, _, _, _, _, _, _, _, _, _, _, _, _]) eX12_nth_287 rfl (by decide) rfl ?_
    refine r_goto (t := 101) eX12_nth_290 (by decide) ?_
    exact ih _ _ _ _ _ q
theorem sL_X12_nth_296 {E : Ev} {d kc ks : Nat} {Φ : Ou → Hp → Prop} {y0 : Nat} {y1 : Int32} {y2 : Int32} {y3 : Int32} {y4 : Int32} {y5 : Nat} {y6 : Int32} {y7 : Nat} {y8 : Int32} {y9 : Int32} {y10 : Int32} {y12 : Option Value} {y13 : Option Value} {y14 : Option Value} {K326 : Hp → Rs} (hK326 : ∀ (w11 : Int32) (h : Hp), OK (K326 h) Φ → WE E mX12_nth (d + 4) 326 [some (.ref y0), some (.int y1), some (.int y2), some (.int y3), some (.int y4), some (.ref y5), some (.int y6), some (.ref y7), some (.int y8), some (.int y9), some (.int y10), some (.int w11), y12, y13, y14] [] h kc ks Φ) : ∀ (g : Nat) (y11 : Int32) (h : Hp), OK (L_X12_nth_296 E K326 y0 g y11 h) Φ → WE E mX12_nth (d + 4) 296 [some (.ref y0), some (.int y1), some (.int y2), some (.int y3), some (.int y4), some (.ref y5), some (.int y6), some (.ref y7), some (.int y8), some (.int y9), some (.int y10), some (.int y11), y12, y13, y14] [] h kc ks Φ := by
  intro g
  induction g with
  | zero => intro y11 h q; exact q.elim
  | succ g ih =>
    intro y11 h q
    refine r_iload eX12_nth_296 rfl ?_
    refine r_aload_n eX12_nth_298 rfl ?_
    refine t_gfR eX12_nth_299 f_12_58 q (fun v299 q => ?_)
    refine t_aln eX12_nth_302 (by decide) q (fun v302 q => ?_)
    refine t_icmp_ge eX12_nth_303 (t := 326) (by decide) q (fun q => ?_) (fun q => ?_)
    · exact hK326 _ _ q
    refine r_aload_n eX12_nth_306 rfl ?_
    refine t_gfR eX12_nth_307 f_12_55 q (fun v307 q => ?_)
    refine r_iload eX12_nth_310 rfl ?_
    refine r_aload_n eX12_nth_312 rfl ?_
    refine t_gfR eX12_nth_313 f_12_58 q (fun v313 q => ?_)
    refine r_iload eX12_nth_316 rfl ?_
    refine t_gaL eX12_nth_318 q (fun v318 q => ?_)
    refine t_paL eX12_nth_319 q (fun h319 q => ?_)
    refine r_iinc (v := (1)) (lv' := [_, _, _, _, _, _, _, _, _, _, _, _, _, _, _]) eX12_nth_320 rfl (by decide) rfl ?_
    refine r_goto (t := 296) eX12_nth_323 (by decide) ?_
    exact ih _ _ q
theorem sL_X12_nth_60 {E : Ev} {d kc ks : Nat} {Φ : Ou → Hp → Prop} {y0 : Nat} {y1 : Int32} {y2 : Int32} {y3 : Int32} {y4 : Int32} {y5 : Nat} {y6 : Int32} {y7 : Nat} {y8 : Int32} {y9 : Int32}  : ∀ (g : Nat) (y10 : Int32) (y11 : Option Value) (y12 : Option Value) (y13 : Option Value) (y14 : Option Value) (h : Hp), OK (L_X12_nth_60 E y0 y1 y2 y4 y7 y8 y9 g y10 h) Φ → WE E mX12_nth (d + 4) 60 [some (.ref y0), some (.int y1), some (.int y2), some (.int y3), some (.int y4), some (.ref y5), some (.int y6), some (.ref y7), some (.int y8), some (.int y9), some (.int y10), y11, y12, y13, y14] [] h kc ks Φ := by
  intro g
  induction g with
  | zero => intro y10 y11 y12 y13 y14 h q; exact q.elim
  | succ g ih =>
    intro y10 y11 y12 y13 y14 h q
    refine r_iload eX12_nth_60 rfl ?_
    refine r_aload_n eX12_nth_62 rfl ?_
    refine r_iload eX12_nth_63 rfl ?_
    refine t_virtI (As := [_]) (rest := [_]) (d' := d + 3 + 0) (ci := 12) eX12_nth_65 k_12_400 rfl rfl rfl (by omega) (Nat.le_of_ble_eq_true rfl) (Nat.le_of_ble_eq_true rfl) (fun _ q => s_X12_patience q) q (fun v65 h65 q => ?_)
    refine t_icmp_ge eX12_nth_68 (t := 332) (by decide) q (fun q => ?_) (fun q => ?_)
    · exact t_rtV eX12_nth_332 rfl q
    refine r_iconst (v := (0)) eX12_nth_71 (by decide) ?_
    refine r_istore (lv' := [_, _, _, _, _, _, _, _, _, _, _, _, _, _, _]) eX12_nth_72 (Nat.le_of_ble_eq_true rfl) rfl ?_
    refine sL_X12_nth_74 (fun w1 h2 q => ?_) _ _ _ q
    refine r_iconst (v := (0)) eX12_nth_98 (by decide) ?_
    refine r_istore (lv' := [_, _, _, _, _, _, _, _, _, _, _, _, _, _, _]) eX12_nth_99 (Nat.le_of_ble_eq_true rfl) rfl ?_
    refine sL_X12_nth_101 (fun w3 w4 w5 w6 h7 q => ?_) _ _ _ _ _ _ q
    refine r_iconst (v := (0)) eX12_nth_293 (by decide) ?_
    refine r_istore (lv' := [_, _, _, _, _, _, _, _, _, _, _, _, _, _, _]) eX12_nth_294 (Nat.le_of_ble_eq_true rfl) rfl ?_
    refine sL_X12_nth_296 (fun w8 h9 q => ?_) _ _ _ q
    refine r_iinc (v := (1)) (lv' := [_, _, _, _, _, _, _, _, _, _, _, _, _, _, _]) eX12_nth_326 rfl (by decide) rfl ?_
    refine r_goto (t := 60) eX12_nth_329 (by decide) ?_
    exact ih _ _ _ _ _ _ q
theorem s_X12_nth {E : Ev} {d : Nat} {a0 : Nat} {x1 : Int32} {x2 : Int32} {x3 : Int32} {x4 : Int32} {a5 : Nat} {x6 : Int32} {a7 : Nat} {x8 : Int32} {h : Hp} {Φ : Ou → Hp → Prop} (q : OK (F_X12_nth E a0 x1 x2 x3 x4 a5 x6 a7 x8 h) Φ) : CE E mX12_nth (d + 4) [.ref a0, .int x1, .int x2, .int x3, .int x4, .ref a5, .int x6, .ref a7, .int x8] h 0 0 Φ := by
  show WE E mX12_nth (d + 4) 0 [some (.ref a0), some (.int x1), some (.int x2), some (.int x3), some (.int x4), some (.ref a5), some (.int x6), some (.ref a7), some (.int x8), none, none, none, none, none, none] [] h 0 0 Φ
  refine r_iload_n eX12_nth_0 rfl ?_
  refine r_iconst (v := (-1)) eX12_nth_1 (by decide) ?_
  refine t_icmp_ne eX12_nth_2 (t := 9) (by decide) q (fun q => ?_) (fun q => ?_)
  · refine r_aload_n eX12_nth_9 rfl ?_
    refine r_iload eX12_nth_10 rfl ?_
    refine r_iload_n eX12_nth_12 rfl ?_
    refine t_virtI (As := [_, _]) (rest := []) (d' := d + 0 + 3) (ci := 12) eX12_nth_13 k_12_409 rfl rfl rfl (by omega) (Nat.le_of_ble_eq_true rfl) (Nat.le_of_ble_eq_true rfl) (fun _ q => s_X12_standing q) q (fun v13 h13 q => ?_)
    refine r_istore (lv' := [_, _, _, _, _, _, _, _, _, _, _, _, _, _, _]) eX12_nth_16 (Nat.le_of_ble_eq_true rfl) rfl ?_
    refine r_iconst (v := (0)) eX12_nth_18 (by decide) ?_
    refine r_istore (lv' := [_, _, _, _, _, _, _, _, _, _, _, _, _, _, _]) eX12_nth_19 (Nat.le_of_ble_eq_true rfl) rfl ?_
    refine sL_X12_nth_21 (fun w1 h2 q => ?_) _ _ _ q
    refine r_aload_n eX12_nth_45 rfl ?_
    refine t_gfR eX12_nth_46 f_12_55 q (fun v46 q => ?_)
    refine r_iconst (v := (0)) eX12_nth_49 (by decide) ?_
    refine r_aload eX12_nth_50 rfl ?_
    refine r_iload eX12_nth_52 rfl ?_
    refine t_statV (As := [_, _, _, _]) (rest := []) (d' := d + 3 + 0) eX12_nth_54 k_12_403 rfl (by omega) (Nat.le_of_ble_eq_true rfl) (Nat.le_of_ble_eq_true rfl) (fun _ q => s_X12_copy q) q (fun h54 q => ?_)
    refine r_iconst (v := (0)) eX12_nth_57 (by decide) ?_
    refine r_istore (lv' := [_, _, _, _, _, _, _, _, _, _, _, _, _, _, _]) eX12_nth_58 (Nat.le_of_ble_eq_true rfl) rfl ?_
    exact sL_X12_nth_60  _ _ _ _ _ _ _ q
  refine r_iconst (v := (-1)) eX12_nth_5 (by decide) ?_
  refine r_goto (t := 16) eX12_nth_6 (by decide) ?_
  refine r_istore (lv' := [_, _, _, _, _, _, _, _, _, _, _, _, _, _, _]) eX12_nth_16 (Nat.le_of_ble_eq_true rfl) rfl ?_
  refine r_iconst (v := (0)) eX12_nth_18 (by decide) ?_
  refine r_istore (lv' := [_, _, _, _, _, _, _, _, _, _, _, _, _, _, _]) eX12_nth_19 (Nat.le_of_ble_eq_true rfl) rfl ?_
  refine sL_X12_nth_21 (fun w3 h4 q => ?_) _ _ _ q
  refine r_aload_n eX12_nth_45 rfl ?_
  refine t_gfR eX12_nth_46 f_12_55 q (fun v46 q => ?_)
  refine r_iconst (v := (0)) eX12_nth_49 (by decide) ?_
  refine r_aload eX12_nth_50 rfl ?_
  refine r_iload eX12_nth_52 rfl ?_
  refine t_statV (As := [_, _, _, _]) (rest := []) (d' := d + 3 + 0) eX12_nth_54 k_12_403 rfl (by omega) (Nat.le_of_ble_eq_true rfl) (Nat.le_of_ble_eq_true rfl) (fun _ q => s_X12_copy q) q (fun h54 q => ?_)
  refine r_iconst (v := (0)) eX12_nth_57 (by decide) ?_
  refine r_istore (lv' := [_, _, _, _, _, _, _, _, _, _, _, _, _, _, _]) eX12_nth_58 (Nat.le_of_ble_eq_true rfl) rfl ?_
  exact sL_X12_nth_60  _ _ _ _ _ _ _ q
theorem sL_X12_onTimes_24 {E : Ev} {d kc ks : Nat} {Φ : Ou → Hp → Prop} {y0 : Nat} {y1 : Int32} {y2 : Int32} {y3 : Nat} {y4 : Int32} {y5 : Nat} {y6 : Int32}  : ∀ (g : Nat) (y7 : Int32) (h : Hp), OK (L_X12_onTimes_24 E y0 y1 y5 y6 g y7 h) Φ → WE E mX12_onTimes (d + 2) 24 [some (.ref y0), some (.int y1), some (.int y2), some (.ref y3), some (.int y4), some (.ref y5), some (.int y6), some (.int y7)] [] h kc ks Φ := by
  intro g
  induction g with
  | zero => intro y7 h q; exact q.elim
  | succ g ih =>
    intro y7 h q
    refine r_iload eX12_onTimes_24 rfl ?_
    refine r_iload_n eX12_onTimes_26 rfl ?_
    refine t_icmp_ge eX12_onTimes_27 (t := 63) (by decide) q (fun q => ?_) (fun q => ?_)
    · refine r_aload eX12_onTimes_63 rfl ?_
      refine r_iload eX12_onTimes_65 rfl ?_
      refine r_aload_n eX12_onTimes_67 rfl ?_
      refine t_gfR eX12_onTimes_68 f_12_46 q (fun v68 q => ?_)
      refine r_iconst (v := (0)) eX12_onTimes_71 (by decide) ?_
      refine t_statV (As := [_, _, _, _]) (rest := []) (d' := d + 1 + 0) eX12_onTimes_72 k_12_377 rfl (by omega) (Nat.le_of_ble_eq_true rfl) (Nat.le_of_ble_eq_true rfl) (fun _ q => s_X12_join q) q (fun h72 q => ?_)
      exact t_rtV eX12_onTimes_75 rfl q
    refine r_aload_n eX12_onTimes_30 rfl ?_
    refine r_aload_n eX12_onTimes_31 rfl ?_
    refine t_gfR eX12_onTimes_32 f_12_46 q (fun v32 q => ?_)
    refine r_iconst (v := (0)) eX12_onTimes_35 (by decide) ?_
    refine r_aload_n eX12_onTimes_36 rfl ?_
    refine t_gfR eX12_onTimes_37 f_12_49 q (fun v37 q => ?_)
    refine r_iconst (v := (0)) eX12_onTimes_40 (by decide) ?_
    refine t_virtV (As := [_, _, _, _]) (rest := []) (d' := d + 0 + 1) (ci := 12) eX12_onTimes_41 k_12_406 rfl rfl rfl (by omega) (Nat.le_of_ble_eq_true rfl) (Nat.le_of_ble_eq_true rfl) (fun _ q => s_X12_goOn q) q (fun h41 q => ?_)
    refine r_aload_n eX12_onTimes_44 rfl ?_
    refine t_gfR eX12_onTimes_45 f_12_46 q (fun v45 q => ?_)
    refine r_iconst (v := (0)) eX12_onTimes_48 (by decide) ?_
    refine r_aload_n eX12_onTimes_49 rfl ?_
    refine t_gfR eX12_onTimes_50 f_12_49 q (fun v50 q => ?_)
    refine r_iconst (v := (0)) eX12_onTimes_53 (by decide) ?_
    refine t_statV (As := [_, _, _, _]) (rest := []) (d' := d + 1 + 0) eX12_onTimes_54 k_12_403 rfl (by omega) (Nat.le_of_ble_eq_true rfl) (Nat.le_of_ble_eq_true rfl) (fun _ q => s_X12_copy q) q (fun h54 q => ?_)
    refine r_iinc (v := (1)) (lv' := [_, _, _, _, _, _, _, _]) eX12_onTimes_57 rfl (by decide) rfl ?_
    refine r_goto (t := 24) eX12_onTimes_60 (by decide) ?_
    exact ih _ _ q
theorem s_X12_onTimes {E : Ev} {d : Nat} {a0 : Nat} {x1 : Int32} {x2 : Int32} {a3 : Nat} {x4 : Int32} {a5 : Nat} {x6 : Int32} {h : Hp} {Φ : Ou → Hp → Prop} (q : OK (F_X12_onTimes E a0 x1 x2 a3 x4 a5 x6 h) Φ) : CE E mX12_onTimes (d + 2) [.ref a0, .int x1, .int x2, .ref a3, .int x4, .ref a5, .int x6] h 0 0 Φ := by
  show WE E mX12_onTimes (d + 2) 0 [some (.ref a0), some (.int x1), some (.int x2), some (.ref a3), some (.int x4), some (.ref a5), some (.int x6), none] [] h 0 0 Φ
  refine r_iload_n eX12_onTimes_0 rfl ?_
  refine r_aload_n eX12_onTimes_1 rfl ?_
  refine r_iload_n eX12_onTimes_2 rfl ?_
  refine t_virtI (As := [_]) (rest := [_]) (d' := d + 1 + 0) (ci := 12) eX12_onTimes_3 k_12_400 rfl rfl rfl (by omega) (Nat.le_of_ble_eq_true rfl) (Nat.le_of_ble_eq_true rfl) (fun _ q => s_X12_patience q) q (fun v3 h3 q => ?_)
  refine t_icmp_le eX12_onTimes_6 (t := 10) (by decide) q (fun q => ?_) (fun q => ?_)
  · refine r_aload_n eX12_onTimes_10 rfl ?_
    refine t_gfR eX12_onTimes_11 f_12_46 q (fun v11 q => ?_)
    refine r_iconst (v := (0)) eX12_onTimes_14 (by decide) ?_
    refine r_aload_n eX12_onTimes_15 rfl ?_
    refine r_iload eX12_onTimes_16 rfl ?_
    refine t_statV (As := [_, _, _, _]) (rest := []) (d' := d + 1 + 0) eX12_onTimes_18 k_12_403 rfl (by omega) (Nat.le_of_ble_eq_true rfl) (Nat.le_of_ble_eq_true rfl) (fun _ q => s_X12_copy q) q (fun h18 q => ?_)
    refine r_iconst (v := (0)) eX12_onTimes_21 (by decide) ?_
    refine r_istore (lv' := [_, _, _, _, _, _, _, _]) eX12_onTimes_22 (Nat.le_of_ble_eq_true rfl) rfl ?_
    exact sL_X12_onTimes_24  _ _ _ q
  exact t_rtV eX12_onTimes_9 rfl q
theorem s_X12_sideOf {E : Ev} {d : Nat} {a0 : Nat} {x1 : Int32} {x2 : Int32} {h : Hp} {Φ : Ou → Hp → Prop} (q : OK (F_X12_sideOf E a0 x1 x2 h) Φ) : CE E mX12_sideOf (d + 0) [.ref a0, .int x1, .int x2] h 0 0 Φ := by
  show WE E mX12_sideOf (d + 0) 0 [some (.ref a0), some (.int x1), some (.int x2)] [] h 0 0 Φ
  refine r_aload_n eX12_sideOf_0 rfl ?_
  refine t_gfR eX12_sideOf_1 f_12_9 q (fun v1 q => ?_)
  refine r_sipush (v := (722)) eX12_sideOf_4 (by decide) ?_
  refine r_iconst (v := (5)) eX12_sideOf_7 (by decide) ?_
  refine r_iload_n eX12_sideOf_8 rfl ?_
  refine r_imul eX12_sideOf_9 ?_
  refine r_iadd eX12_sideOf_10 ?_
  refine r_iconst (v := (2)) eX12_sideOf_11 (by decide) ?_
  refine r_iadd eX12_sideOf_12 ?_
  refine t_gaI eX12_sideOf_13 q (fun v13 q => ?_)
  refine r_iconst (v := (1)) eX12_sideOf_14 (by decide) ?_
  refine t_icmp_ne eX12_sideOf_15 (t := 24) (by decide) q (fun q => ?_) (fun q => ?_)
  · refine r_iload_n eX12_sideOf_24 rfl ?_
    exact t_rtI eX12_sideOf_25 rfl q
  refine r_iconst (v := (1)) eX12_sideOf_18 (by decide) ?_
  refine r_iload_n eX12_sideOf_19 rfl ?_
  refine r_isub eX12_sideOf_20 ?_
  refine r_goto (t := 25) eX12_sideOf_21 (by decide) ?_
  exact t_rtI eX12_sideOf_25 rfl q
theorem sL_X12_until_69 {E : Ev} {d kc ks : Nat} {Φ : Ou → Hp → Prop} {y0 : Nat} {y1 : Int32} {y2 : Int32} {y3 : Int32} {y4 : Nat} {y5 : Int32} {y6 : Nat} {y7 : Int32} {y8 : Int32} {y9 : Int32} {K138 : Hp → Rs} (hK138 : ∀ (w10 : Int32) (h : Hp), OK (K138 h) Φ → WE E mX12_until (d + 4) 138 [some (.ref y0), some (.int y1), some (.int y2), some (.int y3), some (.ref y4), some (.int y5), some (.ref y6), some (.int y7), some (.int y8), some (.int y9), some (.int w10)] [] h kc ks Φ) : ∀ (g : Nat) (y10 : Int32) (h : Hp), OK (L_X12_until_69 E K138 y0 y8 g y10 h) Φ → WE E mX12_until (d + 4) 69 [some (.ref y0), some (.int y1), some (.int y2), some (.int y3), some (.ref y4), some (.int y5), some (.ref y6), some (.int y7), some (.int y8), some (.int y9), some (.int y10)] [] h kc ks Φ := by
  intro g
  induction g with
  | zero => intro y10 h q; exact q.elim
  | succ g ih =>
    intro y10 h q
    refine r_iload eX12_until_69 rfl ?_
    refine r_iconst (v := (4)) eX12_until_71 (by decide) ?_
    refine t_icmp_ge eX12_until_72 (t := 138) (by decide) q (fun q => ?_) (fun q => ?_)
    · exact hK138 _ _ q
    refine r_aload_n eX12_until_75 rfl ?_
    refine t_gfR eX12_until_76 f_12_52 q (fun v76 q => ?_)
    refine r_iload eX12_until_79 rfl ?_
    refine r_dup2 eX12_until_81 rfl rfl ?_
    refine t_gaL eX12_until_82 q (fun v82 q => ?_)
    refine r_aload_n eX12_until_83 rfl ?_
    refine t_gfR eX12_until_84 f_12_49 q (fun v84 q => ?_)
    refine r_iload eX12_until_87 rfl ?_
    refine t_gaL eX12_until_89 q (fun v89 q => ?_)
    refine r_aload_n eX12_until_90 rfl ?_
    refine t_gfR eX12_until_91 f_12_28 q (fun v91 q => ?_)
    refine r_iload eX12_until_94 rfl ?_
    refine r_iload eX12_until_96 rfl ?_
    refine r_iadd eX12_until_98 ?_
    refine t_gaL eX12_until_99 q (fun v99 q => ?_)
    refine r_land eX12_until_100 ?_
    refine r_lor eX12_until_101 ?_
    refine t_paL eX12_until_102 q (fun h102 q => ?_)
    refine r_aload_n eX12_until_103 rfl ?_
    refine t_gfR eX12_until_104 f_12_46 q (fun v104 q => ?_)
    refine r_iload eX12_until_107 rfl ?_
    refine r_aload_n eX12_until_109 rfl ?_
    refine t_gfR eX12_until_110 f_12_49 q (fun v110 q => ?_)
    refine r_iload eX12_until_113 rfl ?_
    refine t_gaL eX12_until_115 q (fun v115 q => ?_)
    refine r_aload_n eX12_until_116 rfl ?_
    refine t_gfR eX12_until_117 f_12_28 q (fun v117 q => ?_)
    refine r_iload eX12_until_120 rfl ?_
    refine r_iload eX12_until_122 rfl ?_
    refine r_iadd eX12_until_124 ?_
    refine t_gaL eX12_until_125 q (fun v125 q => ?_)
    refine r_ldc2 eX12_until_126 g_12_415 ?_
    refine r_lxor eX12_until_129 ?_
    refine r_land eX12_until_130 ?_
    refine t_paL eX12_until_131 q (fun h131 q => ?_)
    refine r_iinc (v := (1)) (lv' := [_, _, _, _, _, _, _, _, _, _, _]) eX12_until_132 rfl (by decide) rfl ?_
    refine r_goto (t := 69) eX12_until_135 (by decide) ?_
    exact ih _ _ q
theorem sL_X12_until_31 {E : Ev} {d kc ks : Nat} {Φ : Ou → Hp → Prop} {y0 : Nat} {y1 : Int32} {y2 : Int32} {y3 : Int32} {y4 : Nat} {y5 : Int32} {y6 : Nat} {y7 : Int32} {y8 : Int32} {K144 : Hp → Rs} (hK144 : ∀ (w9 : Int32) (w10 : Option Value) (h : Hp), OK (K144 h) Φ → WE E mX12_until (d + 4) 144 [some (.ref y0), some (.int y1), some (.int y2), some (.int y3), some (.ref y4), some (.int y5), some (.ref y6), some (.int y7), some (.int y8), some (.int w9), w10] [] h kc ks Φ) : ∀ (g : Nat) (y9 : Int32) (y10 : Option Value) (h : Hp), OK (L_X12_until_31 E K144 y0 y2 y8 g y9 h) Φ → WE E mX12_until (d + 4) 31 [some (.ref y0), some (.int y1), some (.int y2), some (.int y3), some (.ref y4), some (.int y5), some (.ref y6), some (.int y7), some (.int y8), some (.int y9), y10] [] h kc ks Φ := by
  intro g
  induction g with
  | zero => intro y9 y10 h q; exact q.elim
  | succ g ih =>
    intro y9 y10 h q
    refine r_iload eX12_until_31 rfl ?_
    refine r_aload_n eX12_until_33 rfl ?_
    refine r_iload_n eX12_until_34 rfl ?_
    refine t_virtI (As := [_]) (rest := [_]) (d' := d + 3 + 0) (ci := 12) eX12_until_35 k_12_400 rfl rfl rfl (by omega) (Nat.le_of_ble_eq_true rfl) (Nat.le_of_ble_eq_true rfl) (fun _ q => s_X12_patience q) q (fun v35 h35 q => ?_)
    refine t_icmp_ge eX12_until_38 (t := 144) (by decide) q (fun q => ?_) (fun q => ?_)
    · exact hK144 _ _ _ q
    refine r_aload_n eX12_until_41 rfl ?_
    refine t_gfR eX12_until_42 f_12_46 q (fun v42 q => ?_)
    refine r_iconst (v := (0)) eX12_until_45 (by decide) ?_
    refine t_statI (As := [_, _]) (rest := []) (d' := d + 3 + 0) eX12_until_46 k_12_411 rfl (by omega) (Nat.le_of_ble_eq_true rfl) (Nat.le_of_ble_eq_true rfl) (fun _ q => s_X12_isNone q) q (fun v46 h46 q => ?_)
    refine t_if_ne eX12_until_49 (t := 144) (by decide) q (fun q => ?_) (fun q => ?_)
    · exact hK144 _ _ _ q
    refine r_aload_n eX12_until_52 rfl ?_
    refine r_aload_n eX12_until_53 rfl ?_
    refine t_gfR eX12_until_54 f_12_46 q (fun v54 q => ?_)
    refine r_iconst (v := (0)) eX12_until_57 (by decide) ?_
    refine r_aload_n eX12_until_58 rfl ?_
    refine t_gfR eX12_until_59 f_12_49 q (fun v59 q => ?_)
    refine r_iconst (v := (0)) eX12_until_62 (by decide) ?_
    refine t_virtV (As := [_, _, _, _]) (rest := []) (d' := d + 2 + 1) (ci := 12) eX12_until_63 k_12_406 rfl rfl rfl (by omega) (Nat.le_of_ble_eq_true rfl) (Nat.le_of_ble_eq_true rfl) (fun _ q => s_X12_goOn q) q (fun h63 q => ?_)
    refine r_iconst (v := (0)) eX12_until_66 (by decide) ?_
    refine r_istore (lv' := [_, _, _, _, _, _, _, _, _, _, _]) eX12_until_67 (Nat.le_of_ble_eq_true rfl) rfl ?_
    refine sL_X12_until_69 (fun w1 h2 q => ?_) _ _ _ q
    refine r_iinc (v := (1)) (lv' := [_, _, _, _, _, _, _, _, _, _, _]) eX12_until_138 rfl (by decide) rfl ?_
    refine r_goto (t := 31) eX12_until_141 (by decide) ?_
    exact ih _ _ _ q
theorem sJ_X12_until_144 {E : Ev} {d kc ks : Nat} {Φ : Ou → Hp → Prop} {y0 : Nat} {y1 : Int32} {y2 : Int32} {y3 : Int32} {y4 : Nat} {y5 : Int32} {y6 : Nat} {y7 : Int32} {y8 : Int32} {y9 : Int32} {y10 : Option Value} {h : Hp}  (q : OK (J_X12_until_144 E y0 y3 y6 y7 h) Φ) : WE E mX12_until (d + 4) 144 [some (.ref y0), some (.int y1), some (.int y2), some (.int y3), some (.ref y4), some (.int y5), some (.ref y6), some (.int y7), some (.int y8), some (.int y9), y10] [] h kc ks Φ := by
  refine r_iload_n eX12_until_144 rfl ?_
  refine t_if_eq eX12_until_145 (t := 177) (by decide) q (fun q => ?_) (fun q => ?_)
  · refine r_aload eX12_until_177 rfl ?_
    refine r_iload eX12_until_179 rfl ?_
    refine r_aload_n eX12_until_181 rfl ?_
    refine t_gfR eX12_until_182 f_12_52 q (fun v182 q => ?_)
    refine r_iconst (v := (0)) eX12_until_185 (by decide) ?_
    refine t_statV (As := [_, _, _, _]) (rest := []) (d' := d + 3 + 0) eX12_until_186 k_12_377 rfl (by omega) (Nat.le_of_ble_eq_true rfl) (Nat.le_of_ble_eq_true rfl) (fun _ q => s_X12_join q) q (fun h186 q => ?_)
    exact t_rtV eX12_until_189 rfl q
  refine r_aload_n eX12_until_148 rfl ?_
  refine r_aload_n eX12_until_149 rfl ?_
  refine t_gfR eX12_until_150 f_12_52 q (fun v150 q => ?_)
  refine r_iconst (v := (0)) eX12_until_153 (by decide) ?_
  refine r_aload_n eX12_until_154 rfl ?_
  refine t_gfR eX12_until_155 f_12_49 q (fun v155 q => ?_)
  refine r_iconst (v := (0)) eX12_until_158 (by decide) ?_
  refine t_virtV (As := [_, _, _, _]) (rest := []) (d' := d + 2 + 1) (ci := 12) eX12_until_159 k_12_406 rfl rfl rfl (by omega) (Nat.le_of_ble_eq_true rfl) (Nat.le_of_ble_eq_true rfl) (fun _ q => s_X12_goOn q) q (fun h159 q => ?_)
  refine r_aload eX12_until_162 rfl ?_
  refine r_iload eX12_until_164 rfl ?_
  refine r_aload_n eX12_until_166 rfl ?_
  refine t_gfR eX12_until_167 f_12_49 q (fun v167 q => ?_)
  refine r_iconst (v := (0)) eX12_until_170 (by decide) ?_
  refine t_statV (As := [_, _, _, _]) (rest := []) (d' := d + 3 + 0) eX12_until_171 k_12_377 rfl (by omega) (Nat.le_of_ble_eq_true rfl) (Nat.le_of_ble_eq_true rfl) (fun _ q => s_X12_join q) q (fun h171 q => ?_)
  refine r_goto (t := 189) eX12_until_174 (by decide) ?_
  exact t_rtV eX12_until_189 rfl q
theorem s_X12_until {E : Ev} {d : Nat} {a0 : Nat} {x1 : Int32} {x2 : Int32} {x3 : Int32} {a4 : Nat} {x5 : Int32} {a6 : Nat} {x7 : Int32} {h : Hp} {Φ : Ou → Hp → Prop} (q : OK (F_X12_until E a0 x1 x2 x3 a4 x5 a6 x7 h) Φ) : CE E mX12_until (d + 4) [.ref a0, .int x1, .int x2, .int x3, .ref a4, .int x5, .ref a6, .int x7] h 0 0 Φ := by
  show WE E mX12_until (d + 4) 0 [some (.ref a0), some (.int x1), some (.int x2), some (.int x3), some (.ref a4), some (.int x5), some (.ref a6), some (.int x7), none, none, none] [] h 0 0 Φ
  refine r_aload_n eX12_until_0 rfl ?_
  refine r_iload_n eX12_until_1 rfl ?_
  refine r_iload_n eX12_until_2 rfl ?_
  refine t_virtI (As := [_, _]) (rest := []) (d' := d + 0 + 3) (ci := 12) eX12_until_3 k_12_409 rfl rfl rfl (by omega) (Nat.le_of_ble_eq_true rfl) (Nat.le_of_ble_eq_true rfl) (fun _ q => s_X12_standing q) q (fun v3 h3 q => ?_)
  refine r_istore (lv' := [_, _, _, _, _, _, _, _, _, _, _]) eX12_until_6 (Nat.le_of_ble_eq_true rfl) rfl ?_
  refine r_aload_n eX12_until_8 rfl ?_
  refine t_gfR eX12_until_9 f_12_52 q (fun v9 q => ?_)
  refine r_iconst (v := (0)) eX12_until_12 (by decide) ?_
  refine t_statV (As := [_, _]) (rest := []) (d' := d + 3 + 0) eX12_until_13 k_12_218 rfl (by omega) (Nat.le_of_ble_eq_true rfl) (Nat.le_of_ble_eq_true rfl) (fun _ q => s_X12_empty q) q (fun h13 q => ?_)
  refine r_aload_n eX12_until_16 rfl ?_
  refine t_gfR eX12_until_17 f_12_46 q (fun v17 q => ?_)
  refine r_iconst (v := (0)) eX12_until_20 (by decide) ?_
  refine r_aload eX12_until_21 rfl ?_
  refine r_iload eX12_until_23 rfl ?_
  refine t_statV (As := [_, _, _, _]) (rest := []) (d' := d + 3 + 0) eX12_until_25 k_12_403 rfl (by omega) (Nat.le_of_ble_eq_true rfl) (Nat.le_of_ble_eq_true rfl) (fun _ q => s_X12_copy q) q (fun h25 q => ?_)
  refine r_iconst (v := (0)) eX12_until_28 (by decide) ?_
  refine r_istore (lv' := [_, _, _, _, _, _, _, _, _, _, _]) eX12_until_29 (Nat.le_of_ble_eq_true rfl) rfl ?_
  refine sL_X12_until_31 (fun w1 w2 h3 q => ?_) _ _ _ _ q
  exact sJ_X12_until_144  q
theorem sL_X12_word_129 {E : Ev} {d kc ks : Nat} {Φ : Ou → Hp → Prop} {y0 : Nat} {y1 : Int32} {y2 : Int32} {y3 : Int32} {y4 : Int32} {y5 : Nat} {y6 : Int32} {y7 : Nat} {y8 : Int32}  : ∀ (g : Nat) (y9 : Int32) (h : Hp), OK (L_X12_word_129 E y0 y1 y3 y4 y5 y6 y7 y8 g y9 h) Φ → WE E mX12_word (d + 5) 129 [some (.ref y0), some (.int y1), some (.int y2), some (.int y3), some (.int y4), some (.ref y5), some (.int y6), some (.ref y7), some (.int y8), some (.int y9)] [] h kc ks Φ := by
  intro g
  induction g with
  | zero => intro y9 h q; exact q.elim
  | succ g ih =>
    intro y9 h q
    refine r_iload eX12_word_129 rfl ?_
    refine r_sipush (v := (240)) eX12_word_131 (by decide) ?_
    refine t_icmp_ge eX12_word_134 (t := 204) (by decide) q (fun q => ?_) (fun q => ?_)
    · refine r_goto (t := 366) eX12_word_204 (by decide) ?_
      exact t_rtV eX12_word_366 rfl q
    refine r_aload eX12_word_137 rfl ?_
    refine r_iload eX12_word_139 rfl ?_
    refine r_iload eX12_word_141 rfl ?_
    refine t_statI (As := [_, _, _]) (rest := []) (d' := d + 4 + 0) eX12_word_143 k_12_185 rfl (by omega) (Nat.le_of_ble_eq_true rfl) (Nat.le_of_ble_eq_true rfl) (fun _ q => s_X12_has q) q (fun v143 h143 q => ?_)
    refine t_if_eq eX12_word_146 (t := 198) (by decide) q (fun q => ?_) (fun q => ?_)
    · refine r_iinc (v := (1)) (lv' := [_, _, _, _, _, _, _, _, _, _]) eX12_word_198 rfl (by decide) rfl ?_
      refine r_goto (t := 129) eX12_word_201 (by decide) ?_
      exact ih _ _ q
    refine r_iload_n eX12_word_149 rfl ?_
    refine r_iconst (v := (4)) eX12_word_150 (by decide) ?_
    refine t_icmp_ne eX12_word_151 (t := 177) (by decide) q (fun q => ?_) (fun q => ?_)
    · refine r_aload_n eX12_word_177 rfl ?_
      refine r_iload_n eX12_word_178 rfl ?_
      refine r_iload eX12_word_179 rfl ?_
      refine r_iload eX12_word_181 rfl ?_
      refine t_virtI (As := [_, _, _]) (rest := []) (d' := d + 0 + 4) (ci := 12) eX12_word_183 k_12_390 rfl rfl rfl (by omega) (Nat.le_of_ble_eq_true rfl) (Nat.le_of_ble_eq_true rfl) (fun _ q => s_X12_isOver q) q (fun v183 h183 q => ?_)
      refine t_if_eq eX12_word_186 (t := 198) (by decide) q (fun q => ?_) (fun q => ?_)
      · refine r_iinc (v := (1)) (lv' := [_, _, _, _, _, _, _, _, _, _]) eX12_word_198 rfl (by decide) rfl ?_
        refine r_goto (t := 129) eX12_word_201 (by decide) ?_
        exact ih _ _ q
      refine r_aload eX12_word_189 rfl ?_
      refine r_iload eX12_word_191 rfl ?_
      refine r_iload eX12_word_193 rfl ?_
      refine t_statV (As := [_, _, _]) (rest := []) (d' := d + 4 + 0) eX12_word_195 k_12_178 rfl (by omega) (Nat.le_of_ble_eq_true rfl) (Nat.le_of_ble_eq_true rfl) (fun _ q => s_X12_put q) q (fun h195 q => ?_)
      refine r_iinc (v := (1)) (lv' := [_, _, _, _, _, _, _, _, _, _]) eX12_word_198 rfl (by decide) rfl ?_
      refine r_goto (t := 129) eX12_word_201 (by decide) ?_
      exact ih _ _ q
    refine r_aload_n eX12_word_154 rfl ?_
    refine r_iload eX12_word_155 rfl ?_
    refine r_iload_n eX12_word_157 rfl ?_
    refine r_aload_n eX12_word_158 rfl ?_
    refine r_iload eX12_word_159 rfl ?_
    refine t_virtI (As := [_]) (rest := [_, _, _]) (d' := d + 2 + 2) (ci := 12) eX12_word_161 k_12_143 rfl rfl rfl (by omega) (Nat.le_of_ble_eq_true rfl) (Nat.le_of_ble_eq_true rfl) (fun _ q => s_X12_placeOf q) q (fun v161 h161 q => ?_)
    refine r_aload_n eX12_word_164 rfl ?_
    refine t_gfI eX12_word_165 f_12_20 q (fun v165 q => ?_)
    refine t_virtI (As := [_, _, _, _]) (rest := []) (d' := d + 1 + 3) (ci := 12) eX12_word_168 k_12_228 rfl rfl rfl (by omega) (Nat.le_of_ble_eq_true rfl) (Nat.le_of_ble_eq_true rfl) (fun _ q => s_X12_isSeenAt q) q (fun v168 h168 q => ?_)
    refine t_if_eq eX12_word_171 (t := 198) (by decide) q (fun q => ?_) (fun q => ?_)
    · refine r_iinc (v := (1)) (lv' := [_, _, _, _, _, _, _, _, _, _]) eX12_word_198 rfl (by decide) rfl ?_
      refine r_goto (t := 129) eX12_word_201 (by decide) ?_
      exact ih _ _ q
    refine r_goto (t := 189) eX12_word_174 (by decide) ?_
    refine r_aload eX12_word_189 rfl ?_
    refine r_iload eX12_word_191 rfl ?_
    refine r_iload eX12_word_193 rfl ?_
    refine t_statV (As := [_, _, _]) (rest := []) (d' := d + 4 + 0) eX12_word_195 k_12_178 rfl (by omega) (Nat.le_of_ble_eq_true rfl) (Nat.le_of_ble_eq_true rfl) (fun _ q => s_X12_put q) q (fun h195 q => ?_)
    refine r_iinc (v := (1)) (lv' := [_, _, _, _, _, _, _, _, _, _]) eX12_word_198 rfl (by decide) rfl ?_
    refine r_goto (t := 129) eX12_word_201 (by decide) ?_
    exact ih _ _ q
theorem sL_X12_word_224 {E : Ev} {d kc ks : Nat} {Φ : Ou → Hp → Prop} {y0 : Nat} {y1 : Int32} {y2 : Int32} {y3 : Int32} {y4 : Int32} {y5 : Nat} {y6 : Int32} {y7 : Nat} {y8 : Int32}  : ∀ (g : Nat) (y9 : Int32) (h : Hp), OK (L_X12_word_224 E y0 y5 y6 y7 y8 g y9 h) Φ → WE E mX12_word (d + 5) 224 [some (.ref y0), some (.int y1), some (.int y2), some (.int y3), some (.int y4), some (.ref y5), some (.int y6), some (.ref y7), some (.int y8), some (.int y9)] [] h kc ks Φ := by
  intro g
  induction g with
  | zero => intro y9 h q; exact q.elim
  | succ g ih =>
    intro y9 h q
    refine r_iload eX12_word_224 rfl ?_
    refine r_sipush (v := (240)) eX12_word_226 (by decide) ?_
    refine t_icmp_ge eX12_word_229 (t := 280) (by decide) q (fun q => ?_) (fun q => ?_)
    · refine r_goto (t := 366) eX12_word_280 (by decide) ?_
      exact t_rtV eX12_word_366 rfl q
    refine r_aload eX12_word_232 rfl ?_
    refine r_iload eX12_word_234 rfl ?_
    refine r_iload eX12_word_236 rfl ?_
    refine t_statI (As := [_, _, _]) (rest := []) (d' := d + 4 + 0) eX12_word_238 k_12_185 rfl (by omega) (Nat.le_of_ble_eq_true rfl) (Nat.le_of_ble_eq_true rfl) (fun _ q => s_X12_has q) q (fun v238 h238 q => ?_)
    refine t_if_eq eX12_word_241 (t := 274) (by decide) q (fun q => ?_) (fun q => ?_)
    · refine r_iinc (v := (2)) (lv' := [_, _, _, _, _, _, _, _, _, _]) eX12_word_274 rfl (by decide) rfl ?_
      refine r_goto (t := 224) eX12_word_277 (by decide) ?_
      exact ih _ _ q
    refine r_aload_n eX12_word_244 rfl ?_
    refine r_iload eX12_word_245 rfl ?_
    refine r_iconst (v := (4)) eX12_word_247 (by decide) ?_
    refine t_dvI eX12_word_248 q (fun v248 q => ?_)
    refine r_aload_n eX12_word_249 rfl ?_
    refine t_gfI eX12_word_250 f_12_20 q (fun v250 q => ?_)
    refine t_virtI (As := [_, _]) (rest := []) (d' := d + 3 + 1) (ci := 12) eX12_word_253 k_12_146 rfl rfl rfl (by omega) (Nat.le_of_ble_eq_true rfl) (Nat.le_of_ble_eq_true rfl) (fun _ q => s_X12_isThere q) q (fun v253 h253 q => ?_)
    refine t_if_eq eX12_word_256 (t := 274) (by decide) q (fun q => ?_) (fun q => ?_)
    · refine r_iinc (v := (2)) (lv' := [_, _, _, _, _, _, _, _, _, _]) eX12_word_274 rfl (by decide) rfl ?_
      refine r_goto (t := 224) eX12_word_277 (by decide) ?_
      exact ih _ _ q
    refine r_aload eX12_word_259 rfl ?_
    refine r_iload eX12_word_261 rfl ?_
    refine r_iconst (v := (2)) eX12_word_263 (by decide) ?_
    refine r_iload eX12_word_264 rfl ?_
    refine r_iconst (v := (2)) eX12_word_266 (by decide) ?_
    refine t_dvI eX12_word_267 q (fun v267 q => ?_)
    refine r_iconst (v := (1)) eX12_word_268 (by decide) ?_
    refine r_ixor eX12_word_269 ?_
    refine r_imul eX12_word_270 ?_
    refine t_statV (As := [_, _, _]) (rest := []) (d' := d + 4 + 0) eX12_word_271 k_12_178 rfl (by omega) (Nat.le_of_ble_eq_true rfl) (Nat.le_of_ble_eq_true rfl) (fun _ q => s_X12_put q) q (fun h271 q => ?_)
    refine r_iinc (v := (2)) (lv' := [_, _, _, _, _, _, _, _, _, _]) eX12_word_274 rfl (by decide) rfl ?_
    refine r_goto (t := 224) eX12_word_277 (by decide) ?_
    exact ih _ _ q
theorem sL_X12_word_286 {E : Ev} {d kc ks : Nat} {Φ : Ou → Hp → Prop} {y0 : Nat} {y1 : Int32} {y2 : Int32} {y3 : Int32} {y4 : Int32} {y5 : Nat} {y6 : Int32} {y7 : Nat} {y8 : Int32}  : ∀ (g : Nat) (y9 : Int32) (h : Hp), OK (L_X12_word_286 E y0 y2 y4 y5 y6 y7 y8 g y9 h) Φ → WE E mX12_word (d + 5) 286 [some (.ref y0), some (.int y1), some (.int y2), some (.int y3), some (.int y4), some (.ref y5), some (.int y6), some (.ref y7), some (.int y8), some (.int y9)] [] h kc ks Φ := by
  intro g
  induction g with
  | zero => intro y9 h q; exact q.elim
  | succ g ih =>
    intro y9 h q
    refine r_iload eX12_word_286 rfl ?_
    refine r_sipush (v := (240)) eX12_word_288 (by decide) ?_
    refine t_icmp_ge eX12_word_291 (t := 336) (by decide) q (fun q => ?_) (fun q => ?_)
    · refine r_goto (t := 366) eX12_word_336 (by decide) ?_
      exact t_rtV eX12_word_366 rfl q
    refine r_aload eX12_word_294 rfl ?_
    refine r_iload eX12_word_296 rfl ?_
    refine r_iload eX12_word_298 rfl ?_
    refine t_statI (As := [_, _, _]) (rest := []) (d' := d + 4 + 0) eX12_word_300 k_12_185 rfl (by omega) (Nat.le_of_ble_eq_true rfl) (Nat.le_of_ble_eq_true rfl) (fun _ q => s_X12_has q) q (fun v300 h300 q => ?_)
    refine t_if_eq eX12_word_303 (t := 330) (by decide) q (fun q => ?_) (fun q => ?_)
    · refine r_iinc (v := (1)) (lv' := [_, _, _, _, _, _, _, _, _, _]) eX12_word_330 rfl (by decide) rfl ?_
      refine r_goto (t := 286) eX12_word_333 (by decide) ?_
      exact ih _ _ q
    refine r_aload eX12_word_306 rfl ?_
    refine r_iload eX12_word_308 rfl ?_
    refine r_aload_n eX12_word_310 rfl ?_
    refine t_gfR eX12_word_311 f_12_24 q (fun v311 q => ?_)
    refine r_aload_n eX12_word_314 rfl ?_
    refine r_iload_n eX12_word_315 rfl ?_
    refine r_iload eX12_word_316 rfl ?_
    refine t_virtI (As := [_, _]) (rest := [_, _, _]) (d' := d + 4 + 0) (ci := 12) eX12_word_318 k_12_393 rfl rfl rfl (by omega) (Nat.le_of_ble_eq_true rfl) (Nat.le_of_ble_eq_true rfl) (fun _ q => s_X12_sideOf q) q (fun v318 h318 q => ?_)
    refine r_iconst (v := (1)) eX12_word_321 (by decide) ?_
    refine r_iload eX12_word_322 rfl ?_
    refine t_statI (As := [_, _, _]) (rest := [_, _, _]) (d' := d + 4 + 0) eX12_word_324 k_12_174 rfl (by omega) (Nat.le_of_ble_eq_true rfl) (Nat.le_of_ble_eq_true rfl) (fun _ q => s_X12_sideAt q) q (fun v324 h324 q => ?_)
    refine t_statV (As := [_, _, _, _]) (rest := []) (d' := d + 4 + 0) eX12_word_327 k_12_377 rfl (by omega) (Nat.le_of_ble_eq_true rfl) (Nat.le_of_ble_eq_true rfl) (fun _ q => s_X12_join q) q (fun h327 q => ?_)
    refine r_iinc (v := (1)) (lv' := [_, _, _, _, _, _, _, _, _, _]) eX12_word_330 rfl (by decide) rfl ?_
    refine r_goto (t := 286) eX12_word_333 (by decide) ?_
    exact ih _ _ q
theorem s_X12_word {E : Ev} {d : Nat} {a0 : Nat} {x1 : Int32} {x2 : Int32} {x3 : Int32} {x4 : Int32} {a5 : Nat} {x6 : Int32} {a7 : Nat} {x8 : Int32} {h : Hp} {Φ : Ou → Hp → Prop} (q : OK (F_X12_word E a0 x1 x2 x3 x4 a5 x6 a7 x8 h) Φ) : CE E mX12_word (d + 5) [.ref a0, .int x1, .int x2, .int x3, .int x4, .ref a5, .int x6, .ref a7, .int x8] h 0 0 Φ := by
  show WE E mX12_word (d + 5) 0 [some (.ref a0), some (.int x1), some (.int x2), some (.int x3), some (.int x4), some (.ref a5), some (.int x6), some (.ref a7), some (.int x8), none] [] h 0 0 Φ
  refine r_iload_n eX12_word_0 rfl ?_
  refine OK_ite q (fun c0 q => ?_) (fun n0 q => ?_)
  · refine r_tsw 52 eX12_word_1 (by rw [c0]; decide) ?_
    refine r_aload_n eX12_word_52 rfl ?_
    refine r_iload_n eX12_word_53 rfl ?_
    refine r_iload eX12_word_54 rfl ?_
    refine r_aload eX12_word_56 rfl ?_
    refine r_iload eX12_word_58 rfl ?_
    refine r_aload eX12_word_60 rfl ?_
    refine r_iload eX12_word_62 rfl ?_
    refine t_virtV (As := [_, _, _, _, _, _]) (rest := []) (d' := d + 2 + 2) (ci := 12) eX12_word_64 k_12_381 rfl rfl rfl (by omega) (Nat.le_of_ble_eq_true rfl) (Nat.le_of_ble_eq_true rfl) (fun _ q => s_X12_onTimes q) q (fun h64 q => ?_)
    refine r_goto (t := 366) eX12_word_67 (by decide) ?_
    exact t_rtV eX12_word_366 rfl q
  refine OK_ite q (fun c1 q => ?_) (fun n1 q => ?_)
  · refine r_tsw 70 eX12_word_1 (by rw [c1]; decide) ?_
    refine r_aload_n eX12_word_70 rfl ?_
    refine r_iload_n eX12_word_71 rfl ?_
    refine r_iload eX12_word_72 rfl ?_
    refine r_iconst (v := (0)) eX12_word_74 (by decide) ?_
    refine r_aload eX12_word_75 rfl ?_
    refine r_iload eX12_word_77 rfl ?_
    refine r_aload eX12_word_79 rfl ?_
    refine r_iload eX12_word_81 rfl ?_
    refine t_virtV (As := [_, _, _, _, _, _, _]) (rest := []) (d' := d + 0 + 4) (ci := 12) eX12_word_83 k_12_385 rfl rfl rfl (by omega) (Nat.le_of_ble_eq_true rfl) (Nat.le_of_ble_eq_true rfl) (fun _ q => s_X12_until q) q (fun h83 q => ?_)
    refine r_goto (t := 366) eX12_word_86 (by decide) ?_
    exact t_rtV eX12_word_366 rfl q
  refine OK_ite q (fun c2 q => ?_) (fun n2 q => ?_)
  · refine r_tsw 89 eX12_word_1 (by rw [c2]; decide) ?_
    refine r_aload_n eX12_word_89 rfl ?_
    refine r_iload_n eX12_word_90 rfl ?_
    refine r_iload eX12_word_91 rfl ?_
    refine r_iconst (v := (1)) eX12_word_93 (by decide) ?_
    refine r_aload eX12_word_94 rfl ?_
    refine r_iload eX12_word_96 rfl ?_
    refine r_aload eX12_word_98 rfl ?_
    refine r_iload eX12_word_100 rfl ?_
    refine t_virtV (As := [_, _, _, _, _, _, _]) (rest := []) (d' := d + 0 + 4) (ci := 12) eX12_word_102 k_12_385 rfl rfl rfl (by omega) (Nat.le_of_ble_eq_true rfl) (Nat.le_of_ble_eq_true rfl) (fun _ q => s_X12_until q) q (fun h102 q => ?_)
    refine r_goto (t := 366) eX12_word_105 (by decide) ?_
    exact t_rtV eX12_word_366 rfl q
  refine OK_ite q (fun c3 q => ?_) (fun n3 q => ?_)
  · refine r_tsw 108 eX12_word_1 (by rw [c3]; decide) ?_
    refine r_aload_n eX12_word_108 rfl ?_
    refine r_iload_n eX12_word_109 rfl ?_
    refine r_iload eX12_word_110 rfl ?_
    refine r_aload eX12_word_112 rfl ?_
    refine r_iload eX12_word_114 rfl ?_
    refine r_aload eX12_word_116 rfl ?_
    refine r_iload eX12_word_118 rfl ?_
    refine t_virtV (As := [_, _, _, _, _, _]) (rest := []) (d' := d + 1 + 3) (ci := 12) eX12_word_120 k_12_388 rfl rfl rfl (by omega) (Nat.le_of_ble_eq_true rfl) (Nat.le_of_ble_eq_true rfl) (fun _ q => s_X12_far q) q (fun h120 q => ?_)
    refine r_goto (t := 366) eX12_word_123 (by decide) ?_
    exact t_rtV eX12_word_366 rfl q
  refine OK_ite q (fun c4 q => ?_) (fun n4 q => ?_)
  · refine r_tsw 126 eX12_word_1 (by rw [c4]; decide) ?_
    refine r_iconst (v := (0)) eX12_word_126 (by decide) ?_
    refine r_istore (lv' := [_, _, _, _, _, _, _, _, _, _]) eX12_word_127 (Nat.le_of_ble_eq_true rfl) rfl ?_
    exact sL_X12_word_129  _ _ _ q
  refine OK_ite q (fun c5 q => ?_) (fun n5 q => ?_)
  · refine r_tsw 126 eX12_word_1 (by rw [c5]; decide) ?_
    refine r_iconst (v := (0)) eX12_word_126 (by decide) ?_
    refine r_istore (lv' := [_, _, _, _, _, _, _, _, _, _]) eX12_word_127 (Nat.le_of_ble_eq_true rfl) rfl ?_
    exact sL_X12_word_129  _ _ _ q
  refine OK_ite q (fun c6 q => ?_) (fun n6 q => ?_)
  · refine r_tsw 207 eX12_word_1 (by rw [c6]; decide) ?_
    refine r_aload eX12_word_207 rfl ?_
    refine r_iload eX12_word_209 rfl ?_
    refine r_aload eX12_word_211 rfl ?_
    refine r_iload eX12_word_213 rfl ?_
    refine t_statV (As := [_, _, _, _]) (rest := []) (d' := d + 4 + 0) eX12_word_215 k_12_377 rfl (by omega) (Nat.le_of_ble_eq_true rfl) (Nat.le_of_ble_eq_true rfl) (fun _ q => s_X12_join q) q (fun h215 q => ?_)
    refine r_goto (t := 366) eX12_word_218 (by decide) ?_
    exact t_rtV eX12_word_366 rfl q
  refine OK_ite q (fun c7 q => ?_) (fun n7 q => ?_)
  · refine r_tsw 221 eX12_word_1 (by rw [c7]; decide) ?_
    refine r_iconst (v := (0)) eX12_word_221 (by decide) ?_
    refine r_istore (lv' := [_, _, _, _, _, _, _, _, _, _]) eX12_word_222 (Nat.le_of_ble_eq_true rfl) rfl ?_
    exact sL_X12_word_224  _ _ _ q
  refine OK_ite q (fun c8 q => ?_) (fun n8 q => ?_)
  · refine r_tsw 283 eX12_word_1 (by rw [c8]; decide) ?_
    refine r_iconst (v := (0)) eX12_word_283 (by decide) ?_
    refine r_istore (lv' := [_, _, _, _, _, _, _, _, _, _]) eX12_word_284 (Nat.le_of_ble_eq_true rfl) rfl ?_
    exact sL_X12_word_286  _ _ _ q
  refine r_tsw 339 eX12_word_1 (tsw_d (by have z0 := ne_i n0; have z1 := ne_i n1; have z2 := ne_i n2; have z3 := ne_i n3; have z4 := ne_i n4; have z5 := ne_i n5; have z6 := ne_i n6; have z7 := ne_i n7; have z8 := ne_i n8; rw [show (0 : Int32).toInt = 0 from by decide] at z0; rw [show (1 : Int32).toInt = 1 from by decide] at z1; rw [show (2 : Int32).toInt = 2 from by decide] at z2; rw [show (3 : Int32).toInt = 3 from by decide] at z3; rw [show (4 : Int32).toInt = 4 from by decide] at z4; rw [show (5 : Int32).toInt = 5 from by decide] at z5; rw [show (6 : Int32).toInt = 6 from by decide] at z6; rw [show (7 : Int32).toInt = 7 from by decide] at z7; rw [show (8 : Int32).toInt = 8 from by decide] at z8; omega) (by decide) (by decide)) ?_
  refine r_aload_n eX12_word_339 rfl ?_
  refine r_iload_n eX12_word_340 rfl ?_
  refine r_iconst (v := (2)) eX12_word_341 (by decide) ?_
  refine t_dvI eX12_word_342 q (fun v342 q => ?_)
  refine r_aload_n eX12_word_343 rfl ?_
  refine r_iload_n eX12_word_344 rfl ?_
  refine r_iconst (v := (2)) eX12_word_345 (by decide) ?_
  refine t_rmI eX12_word_346 q (fun v346 q => ?_)
  refine r_iload eX12_word_347 rfl ?_
  refine t_virtI (As := [_, _]) (rest := [_, _]) (d' := d + 4 + 0) (ci := 12) eX12_word_349 k_12_393 rfl rfl rfl (by omega) (Nat.le_of_ble_eq_true rfl) (Nat.le_of_ble_eq_true rfl) (fun _ q => s_X12_sideOf q) q (fun v349 h349 q => ?_)
  refine r_iload_n eX12_word_352 rfl ?_
  refine r_iload eX12_word_353 rfl ?_
  refine r_aload eX12_word_355 rfl ?_
  refine r_iload eX12_word_357 rfl ?_
  refine r_aload eX12_word_359 rfl ?_
  refine r_iload eX12_word_361 rfl ?_
  refine t_virtV (As := [_, _, _, _, _, _, _, _]) (rest := []) (d' := d + 0 + 4) (ci := 12) eX12_word_363 k_12_396 rfl rfl rfl (by omega) (Nat.le_of_ble_eq_true rfl) (Nat.le_of_ble_eq_true rfl) (fun _ q => s_X12_nth q) q (fun h363 q => ?_)
  exact t_rtV eX12_word_366 rfl q
theorem sL_X12_says_22 {E : Ev} {d kc ks : Nat} {Φ : Ou → Hp → Prop} {y0 : Nat} {y1 : Int32} {y2 : Int32} {y3 : Int32} {y4 : Int32} {K95 : Hp → Rs} (hK95 : ∀ (w5 : Int32) (w6 : Option Value) (h : Hp), OK (K95 h) Φ → WE E mX12_says (d + 6) 95 [some (.ref y0), some (.int y1), some (.int y2), some (.int y3), some (.int y4), some (.int w5), w6] [] h kc ks Φ) : ∀ (g : Nat) (y5 : Int32) (y6 : Option Value) (h : Hp), OK (L_X12_says_22 E K95 y0 y2 y3 y4 g y5 h) Φ → WE E mX12_says (d + 6) 22 [some (.ref y0), some (.int y1), some (.int y2), some (.int y3), some (.int y4), some (.int y5), y6] [] h kc ks Φ := by
  intro g
  induction g with
  | zero => intro y5 y6 h q; exact q.elim
  | succ g ih =>
    intro y5 y6 h q
    refine r_iload eX12_says_22 rfl ?_
    refine r_aload_n eX12_says_24 rfl ?_
    refine t_gfR eX12_says_25 f_12_9 q (fun v25 q => ?_)
    refine r_iload eX12_says_28 rfl ?_
    refine r_iconst (v := (3)) eX12_says_30 (by decide) ?_
    refine r_iadd eX12_says_31 ?_
    refine r_iload_n eX12_says_32 rfl ?_
    refine r_iadd eX12_says_33 ?_
    refine t_gaI eX12_says_34 q (fun v34 q => ?_)
    refine t_icmp_ge eX12_says_35 (t := 95) (by decide) q (fun q => ?_) (fun q => ?_)
    · exact hK95 _ _ _ q
    refine r_iload eX12_says_38 rfl ?_
    refine r_iload_n eX12_says_40 rfl ?_
    refine r_iload eX12_says_41 rfl ?_
    refine t_statI (As := [_, _]) (rest := [_]) (d' := d + 5 + 0) eX12_says_43 k_12_314 rfl (by omega) (Nat.le_of_ble_eq_true rfl) (Nat.le_of_ble_eq_true rfl) (fun _ q => s_X12_wordAt q) q (fun v43 h43 q => ?_)
    refine r_iadd eX12_says_46 ?_
    refine r_istore (lv' := [_, _, _, _, _, _, _]) eX12_says_47 (Nat.le_of_ble_eq_true rfl) rfl ?_
    refine r_aload_n eX12_says_49 rfl ?_
    refine r_aload_n eX12_says_50 rfl ?_
    refine t_gfR eX12_says_51 f_12_9 q (fun v51 q => ?_)
    refine r_iload eX12_says_54 rfl ?_
    refine t_gaI eX12_says_56 q (fun v56 q => ?_)
    refine r_aload_n eX12_says_57 rfl ?_
    refine t_gfR eX12_says_58 f_12_9 q (fun v58 q => ?_)
    refine r_iload eX12_says_61 rfl ?_
    refine r_iconst (v := (1)) eX12_says_63 (by decide) ?_
    refine r_iadd eX12_says_64 ?_
    refine t_gaI eX12_says_65 q (fun v65 q => ?_)
    refine r_aload_n eX12_says_66 rfl ?_
    refine t_gfR eX12_says_67 f_12_9 q (fun v67 q => ?_)
    refine r_iload eX12_says_70 rfl ?_
    refine r_iconst (v := (2)) eX12_says_72 (by decide) ?_
    refine r_iadd eX12_says_73 ?_
    refine t_gaI eX12_says_74 q (fun v74 q => ?_)
    refine r_iload_n eX12_says_75 rfl ?_
    refine r_aload_n eX12_says_76 rfl ?_
    refine t_gfR eX12_says_77 f_12_61 q (fun v77 q => ?_)
    refine r_iconst (v := (0)) eX12_says_80 (by decide) ?_
    refine r_aload_n eX12_says_81 rfl ?_
    refine t_gfR eX12_says_82 f_12_64 q (fun v82 q => ?_)
    refine r_iconst (v := (0)) eX12_says_85 (by decide) ?_
    refine t_virtV (As := [_, _, _, _, _, _, _, _]) (rest := []) (d' := d + 0 + 5) (ci := 12) eX12_says_86 k_12_423 rfl rfl rfl (by omega) (Nat.le_of_ble_eq_true rfl) (Nat.le_of_ble_eq_true rfl) (fun _ q => s_X12_word q) q (fun h86 q => ?_)
    refine r_iinc (v := (1)) (lv' := [_, _, _, _, _, _, _]) eX12_says_89 rfl (by decide) rfl ?_
    refine r_goto (t := 22) eX12_says_92 (by decide) ?_
    exact ih _ _ _ q
theorem s_X12_says {E : Ev} {d : Nat} {a0 : Nat} {x1 : Int32} {x2 : Int32} {x3 : Int32} {h : Hp} {Φ : Ou → Hp → Prop} (q : OK (F_X12_says E a0 x1 x2 x3 h) Φ) : CE E mX12_says (d + 6) [.ref a0, .int x1, .int x2, .int x3] h 0 0 Φ := by
  show WE E mX12_says (d + 6) 0 [some (.ref a0), some (.int x1), some (.int x2), some (.int x3), none, none, none] [] h 0 0 Φ
  refine r_aload_n eX12_says_0 rfl ?_
  refine t_gfR eX12_says_1 f_12_64 q (fun v1 q => ?_)
  refine r_iconst (v := (0)) eX12_says_4 (by decide) ?_
  refine t_statV (As := [_, _]) (rest := []) (d' := d + 5 + 0) eX12_says_5 k_12_218 rfl (by omega) (Nat.le_of_ble_eq_true rfl) (Nat.le_of_ble_eq_true rfl) (fun _ q => s_X12_empty q) q (fun h5 q => ?_)
  refine r_sipush (v := (762)) eX12_says_8 (by decide) ?_
  refine r_sipush (v := (173)) eX12_says_11 (by decide) ?_
  refine r_iload_n eX12_says_14 rfl ?_
  refine r_imul eX12_says_15 ?_
  refine r_iadd eX12_says_16 ?_
  replace q := OK_lt q
  refine r_istore (lv' := [_, _, _, _, _, _, _]) eX12_says_17 (Nat.le_of_ble_eq_true rfl) rfl ?_
  refine r_iconst (v := (0)) eX12_says_19 (by decide) ?_
  refine r_istore (lv' := [_, _, _, _, _, _, _]) eX12_says_20 (Nat.le_of_ble_eq_true rfl) rfl ?_
  refine sL_X12_says_22 (fun w2 w3 h4 q => ?_) _ _ _ _ q
  refine r_aload_n eX12_says_95 rfl ?_
  refine t_gfR eX12_says_96 f_12_61 q (fun v96 q => ?_)
  refine r_iconst (v := (0)) eX12_says_99 (by decide) ?_
  refine r_aload_n eX12_says_100 rfl ?_
  refine t_gfR eX12_says_101 f_12_64 q (fun v101 q => ?_)
  refine r_iconst (v := (0)) eX12_says_104 (by decide) ?_
  refine t_statV (As := [_, _, _, _]) (rest := []) (d' := d + 5 + 0) eX12_says_105 k_12_403 rfl (by omega) (Nat.le_of_ble_eq_true rfl) (Nat.le_of_ble_eq_true rfl) (fun _ q => s_X12_copy q) q (fun h105 q => ?_)
  exact t_rtV eX12_says_108 rfl q
theorem sL_X12_goes_26 {E : Ev} {d kc ks : Nat} {Φ : Ou → Hp → Prop} {y0 : Nat} {y1 : Int32} {y2 : Int32} {y3 : Int32} {y4 : Int32} {y5 : Int32}  : ∀ (g : Nat) (y6 : Int32) (h : Hp), OK (L_X12_goes_26 E y0 y1 y2 y5 g y6 h) Φ → WE E mX12_goes (d + 7) 26 [some (.ref y0), some (.int y1), some (.int y2), some (.int y3), some (.int y4), some (.int y5), some (.int y6)] [] h kc ks Φ := by
  intro g
  induction g with
  | zero => intro y6 h q; exact q.elim
  | succ g ih =>
    intro y6 h q
    refine r_iload eX12_goes_26 rfl ?_
    refine r_iload eX12_goes_28 rfl ?_
    refine t_icmp_ge eX12_goes_30 (t := 61) (by decide) q (fun q => ?_) (fun q => ?_)
    · refine r_iload eX12_goes_61 rfl ?_
      exact t_rtI eX12_goes_63 rfl q
    refine r_aload_n eX12_goes_33 rfl ?_
    refine r_iload_n eX12_goes_34 rfl ?_
    refine r_iload eX12_goes_35 rfl ?_
    refine r_iload_n eX12_goes_37 rfl ?_
    refine t_virtV (As := [_, _, _]) (rest := []) (d' := d + 0 + 6) (ci := 12) eX12_goes_38 k_12_426 rfl rfl rfl (by omega) (Nat.le_of_ble_eq_true rfl) (Nat.le_of_ble_eq_true rfl) (fun _ q => s_X12_says q) q (fun h38 q => ?_)
    refine r_aload_n eX12_goes_41 rfl ?_
    refine t_gfR eX12_goes_42 f_12_61 q (fun v42 q => ?_)
    refine r_iconst (v := (0)) eX12_goes_45 (by decide) ?_
    refine t_statI (As := [_, _]) (rest := []) (d' := d + 6 + 0) eX12_goes_46 k_12_411 rfl (by omega) (Nat.le_of_ble_eq_true rfl) (Nat.le_of_ble_eq_true rfl) (fun _ q => s_X12_isNone q) q (fun v46 h46 q => ?_)
    refine t_if_eq eX12_goes_49 (t := 55) (by decide) q (fun q => ?_) (fun q => ?_)
    · refine r_iinc (v := (1)) (lv' := [_, _, _, _, _, _, _]) eX12_goes_55 rfl (by decide) rfl ?_
      refine r_goto (t := 26) eX12_goes_58 (by decide) ?_
      exact ih _ _ q
    refine r_iload eX12_goes_52 rfl ?_
    exact t_rtI eX12_goes_54 rfl q
theorem s_X12_goes {E : Ev} {d : Nat} {a0 : Nat} {x1 : Int32} {x2 : Int32} {x3 : Int32} {x4 : Int32} {x5 : Int32} {h : Hp} {Φ : Ou → Hp → Prop} (q : OK (F_X12_goes E a0 x1 x2 x3 x4 x5 h) Φ) : CE E mX12_goes (d + 7) [.ref a0, .int x1, .int x2, .int x3, .int x4, .int x5] h 0 0 Φ := by
  show WE E mX12_goes (d + 7) 0 [some (.ref a0), some (.int x1), some (.int x2), some (.int x3), some (.int x4), some (.int x5), none] [] h 0 0 Φ
  refine r_aload_n eX12_goes_0 rfl ?_
  refine r_iload eX12_goes_1 rfl ?_
  refine t_virtV (As := [_]) (rest := []) (d' := d + 0 + 6) (ci := 12) eX12_goes_3 k_12_193 rfl rfl rfl (by omega) (Nat.le_of_ble_eq_true rfl) (Nat.le_of_ble_eq_true rfl) (fun _ q => s_X12_lay q) q (fun h3 q => ?_)
  refine r_aload_n eX12_goes_6 rfl ?_
  refine t_gfR eX12_goes_7 f_12_61 q (fun v7 q => ?_)
  refine r_iconst (v := (0)) eX12_goes_10 (by decide) ?_
  refine t_statV (As := [_, _]) (rest := []) (d' := d + 6 + 0) eX12_goes_11 k_12_218 rfl (by omega) (Nat.le_of_ble_eq_true rfl) (Nat.le_of_ble_eq_true rfl) (fun _ q => s_X12_empty q) q (fun h11 q => ?_)
  refine r_aload_n eX12_goes_14 rfl ?_
  refine t_gfR eX12_goes_15 f_12_61 q (fun v15 q => ?_)
  refine r_iconst (v := (0)) eX12_goes_18 (by decide) ?_
  refine r_iload_n eX12_goes_19 rfl ?_
  refine t_statV (As := [_, _, _]) (rest := []) (d' := d + 6 + 0) eX12_goes_20 k_12_178 rfl (by omega) (Nat.le_of_ble_eq_true rfl) (Nat.le_of_ble_eq_true rfl) (fun _ q => s_X12_put q) q (fun h20 q => ?_)
  refine r_iconst (v := (0)) eX12_goes_23 (by decide) ?_
  refine r_istore (lv' := [_, _, _, _, _, _, _]) eX12_goes_24 (Nat.le_of_ble_eq_true rfl) rfl ?_
  exact sL_X12_goes_26  _ _ _ q
theorem sL_X12_placesOf_2 {E : Ev} {d kc ks : Nat} {Φ : Ou → Hp → Prop} {y0 : Nat} {y1 : Nat} {K18 : Hp → Rs} (hK18 : ∀ (w2 : Int32) (h : Hp), OK (K18 h) Φ → WE E mX12_placesOf (d + 3) 18 [some (.ref y0), some (.ref y1), some (.int w2), none] [] h kc ks Φ) : ∀ (g : Nat) (y2 : Int32) (h : Hp), OK (L_X12_placesOf_2 E K18 y1 g y2 h) Φ → WE E mX12_placesOf (d + 3) 2 [some (.ref y0), some (.ref y1), some (.int y2), none] [] h kc ks Φ := by
  intro g
  induction g with
  | zero => intro y2 h q; exact q.elim
  | succ g ih =>
    intro y2 h q
    refine r_iload_n eX12_placesOf_2 rfl ?_
    refine r_bipush (v := (40)) eX12_placesOf_3 (by decide) ?_
    refine t_icmp_ge eX12_placesOf_5 (t := 18) (by decide) q (fun q => ?_) (fun q => ?_)
    · exact hK18 _ _ q
    refine r_aload_n eX12_placesOf_8 rfl ?_
    refine r_iload_n eX12_placesOf_9 rfl ?_
    refine r_iconst (v := (0)) eX12_placesOf_10 (by decide) ?_
    refine t_paZ eX12_placesOf_11 q (fun h11 q => ?_)
    refine r_iinc (v := (1)) (lv' := [_, _, _, _]) eX12_placesOf_12 rfl (by decide) rfl ?_
    refine r_goto (t := 2) eX12_placesOf_15 (by decide) ?_
    exact ih _ _ q
theorem sL_X12_placesOf_20 {E : Ev} {d kc ks : Nat} {Φ : Ou → Hp → Prop} {y0 : Nat} {y1 : Nat} {K58 : Hp → Rs} (hK58 : ∀ (w2 : Int32) (h : Hp), OK (K58 h) Φ → WE E mX12_placesOf (d + 3) 58 [some (.ref y0), some (.ref y1), some (.int w2), none] [] h kc ks Φ) : ∀ (g : Nat) (y2 : Int32) (h : Hp), OK (L_X12_placesOf_20 E K58 y0 y1 g y2 h) Φ → WE E mX12_placesOf (d + 3) 20 [some (.ref y0), some (.ref y1), some (.int y2), none] [] h kc ks Φ := by
  intro g
  induction g with
  | zero => intro y2 h q; exact q.elim
  | succ g ih =>
    intro y2 h q
    refine r_iload_n eX12_placesOf_20 rfl ?_
    refine r_iconst (v := (4)) eX12_placesOf_21 (by decide) ?_
    refine r_aload_n eX12_placesOf_22 rfl ?_
    refine t_gfR eX12_placesOf_23 f_12_9 q (fun v23 q => ?_)
    refine r_iconst (v := (1)) eX12_placesOf_26 (by decide) ?_
    refine t_gaI eX12_placesOf_27 q (fun v27 q => ?_)
    refine r_imul eX12_placesOf_28 ?_
    refine t_icmp_ge eX12_placesOf_29 (t := 58) (by decide) q (fun q => ?_) (fun q => ?_)
    · exact hK58 _ _ q
    refine r_aload_n eX12_placesOf_32 rfl ?_
    refine t_gfR eX12_placesOf_33 f_12_61 q (fun v33 q => ?_)
    refine r_iconst (v := (0)) eX12_placesOf_36 (by decide) ?_
    refine r_iload_n eX12_placesOf_37 rfl ?_
    refine t_statI (As := [_, _, _]) (rest := []) (d' := d + 2 + 0) eX12_placesOf_38 k_12_185 rfl (by omega) (Nat.le_of_ble_eq_true rfl) (Nat.le_of_ble_eq_true rfl) (fun _ q => s_X12_has q) q (fun v38 h38 q => ?_)
    refine t_if_eq eX12_placesOf_41 (t := 52) (by decide) q (fun q => ?_) (fun q => ?_)
    · refine r_iinc (v := (1)) (lv' := [_, _, _, _]) eX12_placesOf_52 rfl (by decide) rfl ?_
      refine r_goto (t := 20) eX12_placesOf_55 (by decide) ?_
      exact ih _ _ q
    refine r_aload_n eX12_placesOf_44 rfl ?_
    refine r_aload_n eX12_placesOf_45 rfl ?_
    refine r_iload_n eX12_placesOf_46 rfl ?_
    refine t_virtI (As := [_]) (rest := [_]) (d' := d + 0 + 2) (ci := 12) eX12_placesOf_47 k_12_143 rfl rfl rfl (by omega) (Nat.le_of_ble_eq_true rfl) (Nat.le_of_ble_eq_true rfl) (fun _ q => s_X12_placeOf q) q (fun v47 h47 q => ?_)
    refine r_iconst (v := (1)) eX12_placesOf_50 (by decide) ?_
    refine t_paZ eX12_placesOf_51 q (fun h51 q => ?_)
    refine r_iinc (v := (1)) (lv' := [_, _, _, _]) eX12_placesOf_52 rfl (by decide) rfl ?_
    refine r_goto (t := 20) eX12_placesOf_55 (by decide) ?_
    exact ih _ _ q
theorem sL_X12_placesOf_62 {E : Ev} {d kc ks : Nat} {Φ : Ou → Hp → Prop} {y0 : Nat} {y1 : Nat}  : ∀ (g : Nat) (y2 : Int32) (y3 : Int32) (h : Hp), OK (L_X12_placesOf_62 E y1 g y2 y3 h) Φ → WE E mX12_placesOf (d + 3) 62 [some (.ref y0), some (.ref y1), some (.int y2), some (.int y3)] [] h kc ks Φ := by
  intro g
  induction g with
  | zero => intro y2 y3 h q; exact q.elim
  | succ g ih =>
    intro y2 y3 h q
    refine r_iload_n eX12_placesOf_62 rfl ?_
    refine r_bipush (v := (40)) eX12_placesOf_63 (by decide) ?_
    refine t_icmp_ge eX12_placesOf_65 (t := 88) (by decide) q (fun q => ?_) (fun q => ?_)
    · refine r_iload_n eX12_placesOf_88 rfl ?_
      exact t_rtI eX12_placesOf_89 rfl q
    refine r_iload_n eX12_placesOf_68 rfl ?_
    refine r_aload_n eX12_placesOf_69 rfl ?_
    refine r_iload_n eX12_placesOf_70 rfl ?_
    refine t_gaZ eX12_placesOf_71 q (fun v71 q => ?_)
    refine t_if_eq eX12_placesOf_72 (t := 79) (by decide) q (fun q => ?_) (fun q => ?_)
    · refine r_iconst (v := (0)) eX12_placesOf_79 (by decide) ?_
      refine r_iadd eX12_placesOf_80 ?_
      refine r_istore_n (lv' := [_, _, _, _]) eX12_placesOf_81 (Nat.le_of_ble_eq_true rfl) rfl ?_
      refine r_iinc (v := (1)) (lv' := [_, _, _, _]) eX12_placesOf_82 rfl (by decide) rfl ?_
      refine r_goto (t := 62) eX12_placesOf_85 (by decide) ?_
      exact ih _ _ _ q
    refine r_iconst (v := (1)) eX12_placesOf_75 (by decide) ?_
    refine r_goto (t := 80) eX12_placesOf_76 (by decide) ?_
    refine r_iadd eX12_placesOf_80 ?_
    refine r_istore_n (lv' := [_, _, _, _]) eX12_placesOf_81 (Nat.le_of_ble_eq_true rfl) rfl ?_
    refine r_iinc (v := (1)) (lv' := [_, _, _, _]) eX12_placesOf_82 rfl (by decide) rfl ?_
    refine r_goto (t := 62) eX12_placesOf_85 (by decide) ?_
    exact ih _ _ _ q
theorem s_X12_placesOf {E : Ev} {d : Nat} {a0 : Nat} {a1 : Nat} {h : Hp} {Φ : Ou → Hp → Prop} (q : OK (F_X12_placesOf E a0 a1 h) Φ) : CE E mX12_placesOf (d + 3) [.ref a0, .ref a1] h 0 0 Φ := by
  show WE E mX12_placesOf (d + 3) 0 [some (.ref a0), some (.ref a1), none, none] [] h 0 0 Φ
  refine r_iconst (v := (0)) eX12_placesOf_0 (by decide) ?_
  refine r_istore_n (lv' := [_, _, _, _]) eX12_placesOf_1 (Nat.le_of_ble_eq_true rfl) rfl ?_
  refine sL_X12_placesOf_2 (fun w1 h2 q => ?_) _ _ _ q
  refine r_iconst (v := (0)) eX12_placesOf_18 (by decide) ?_
  refine r_istore_n (lv' := [_, _, _, _]) eX12_placesOf_19 (Nat.le_of_ble_eq_true rfl) rfl ?_
  refine sL_X12_placesOf_20 (fun w3 h4 q => ?_) _ _ _ q
  refine r_iconst (v := (0)) eX12_placesOf_58 (by decide) ?_
  refine r_istore_n (lv' := [_, _, _, _]) eX12_placesOf_59 (Nat.le_of_ble_eq_true rfl) rfl ?_
  refine r_iconst (v := (0)) eX12_placesOf_60 (by decide) ?_
  refine r_istore_n (lv' := [_, _, _, _]) eX12_placesOf_61 (Nat.le_of_ble_eq_true rfl) rfl ?_
  exact sL_X12_placesOf_62  _ _ _ _ q
theorem s_X12_isRight {E : Ev} {d : Nat} {a0 : Nat} {x1 : Int32} {x2 : Int32} {x3 : Int32} {x4 : Int32} {h : Hp} {Φ : Ou → Hp → Prop} (q : OK (F_X12_isRight E a0 x1 x2 x3 x4 h) Φ) : CE E mX12_isRight (d + 8) [.ref a0, .int x1, .int x2, .int x3, .int x4] h 0 0 Φ := by
  show WE E mX12_isRight (d + 8) 0 [some (.ref a0), some (.int x1), some (.int x2), some (.int x3), some (.int x4), none] [] h 0 0 Φ
  refine r_aload_n eX12_isRight_0 rfl ?_
  refine r_iload_n eX12_isRight_1 rfl ?_
  refine r_iload_n eX12_isRight_2 rfl ?_
  refine r_iload_n eX12_isRight_3 rfl ?_
  refine r_iload eX12_isRight_4 rfl ?_
  refine r_aload_n eX12_isRight_6 rfl ?_
  refine r_iload_n eX12_isRight_7 rfl ?_
  refine t_virtI (As := [_]) (rest := [_, _, _, _, _]) (d' := d + 7 + 0) (ci := 12) eX12_isRight_8 k_12_374 rfl rfl rfl (by omega) (Nat.le_of_ble_eq_true rfl) (Nat.le_of_ble_eq_true rfl) (fun _ q => s_X12_sayingsOf q) q (fun v8 h8 q => ?_)
  refine t_virtI (As := [_, _, _, _, _]) (rest := []) (d' := d + 0 + 7) (ci := 12) eX12_isRight_11 k_12_430 rfl rfl rfl (by omega) (Nat.le_of_ble_eq_true rfl) (Nat.le_of_ble_eq_true rfl) (fun _ q => s_X12_goes q) q (fun v11 h11 q => ?_)
  refine r_istore (lv' := [_, _, _, _, _, _]) eX12_isRight_14 (Nat.le_of_ble_eq_true rfl) rfl ?_
  refine r_aload_n eX12_isRight_16 rfl ?_
  refine r_aload_n eX12_isRight_17 rfl ?_
  refine t_gfR eX12_isRight_18 f_12_67 q (fun v18 q => ?_)
  refine t_virtI (As := [_]) (rest := []) (d' := d + 4 + 3) (ci := 12) eX12_isRight_21 k_12_434 rfl rfl rfl (by omega) (Nat.le_of_ble_eq_true rfl) (Nat.le_of_ble_eq_true rfl) (fun _ q => s_X12_placesOf q) q (fun v21 h21 q => ?_)
  refine r_iconst (v := (1)) eX12_isRight_24 (by decide) ?_
  refine t_icmp_ne eX12_isRight_25 (t := 45) (by decide) q (fun q => ?_) (fun q => ?_)
  · refine r_iconst (v := (0)) eX12_isRight_45 (by decide) ?_
    exact t_rtZ eX12_isRight_46 rfl q
  refine r_aload_n eX12_isRight_28 rfl ?_
  refine t_gfR eX12_isRight_29 f_12_67 q (fun v29 q => ?_)
  refine r_aload_n eX12_isRight_32 rfl ?_
  refine r_iload_n eX12_isRight_33 rfl ?_
  refine t_virtI (As := [_]) (rest := [_]) (d' := d + 7 + 0) (ci := 12) eX12_isRight_34 k_12_438 rfl rfl rfl (by omega) (Nat.le_of_ble_eq_true rfl) (Nat.le_of_ble_eq_true rfl) (fun _ q => s_X12_goalOf q) q (fun v34 h34 q => ?_)
  refine t_gaZ eX12_isRight_37 q (fun v37 q => ?_)
  refine t_if_eq eX12_isRight_38 (t := 45) (by decide) q (fun q => ?_) (fun q => ?_)
  · refine r_iconst (v := (0)) eX12_isRight_45 (by decide) ?_
    exact t_rtZ eX12_isRight_46 rfl q
  refine r_iconst (v := (1)) eX12_isRight_41 (by decide) ?_
  refine r_goto (t := 46) eX12_isRight_42 (by decide) ?_
  exact t_rtZ eX12_isRight_46 rfl q
theorem s_X12_areThere {E : Ev} {d : Nat} {a0 : Nat} {x1 : Int32} {x2 : Int32} {x3 : Int32} {h : Hp} {Φ : Ou → Hp → Prop} (q : OK (F_X12_areThere E a0 x1 x2 x3 h) Φ) : CE E mX12_areThere (d + 3) [.ref a0, .int x1, .int x2, .int x3] h 0 0 Φ := by
  show WE E mX12_areThere (d + 3) 0 [some (.ref a0), some (.int x1), some (.int x2), some (.int x3)] [] h 0 0 Φ
  refine r_aload_n eX12_areThere_0 rfl ?_
  refine r_iload_n eX12_areThere_1 rfl ?_
  refine t_virtI (As := [_]) (rest := []) (d' := d + 0 + 2) (ci := 12) eX12_areThere_2 k_12_371 rfl rfl rfl (by omega) (Nat.le_of_ble_eq_true rfl) (Nat.le_of_ble_eq_true rfl) (fun _ q => s_X12_isTelling q) q (fun v2 h2 q => ?_)
  refine t_if_eq eX12_areThere_5 (t := 28) (by decide) q (fun q => ?_) (fun q => ?_)
  · refine r_iconst (v := (0)) eX12_areThere_28 (by decide) ?_
    exact t_rtZ eX12_areThere_29 rfl q
  refine r_aload_n eX12_areThere_8 rfl ?_
  refine r_iload_n eX12_areThere_9 rfl ?_
  refine t_virtI (As := [_]) (rest := []) (d' := d + 0 + 2) (ci := 12) eX12_areThere_10 k_12_222 rfl rfl rfl (by omega) (Nat.le_of_ble_eq_true rfl) (Nat.le_of_ble_eq_true rfl) (fun _ q => s_X12_isWalker q) q (fun v10 h10 q => ?_)
  refine t_if_eq eX12_areThere_13 (t := 28) (by decide) q (fun q => ?_) (fun q => ?_)
  · refine r_iconst (v := (0)) eX12_areThere_28 (by decide) ?_
    exact t_rtZ eX12_areThere_29 rfl q
  refine r_aload_n eX12_areThere_16 rfl ?_
  refine r_iload_n eX12_areThere_17 rfl ?_
  refine t_virtI (As := [_]) (rest := []) (d' := d + 1 + 1) (ci := 12) eX12_areThere_18 k_12_140 rfl rfl rfl (by omega) (Nat.le_of_ble_eq_true rfl) (Nat.le_of_ble_eq_true rfl) (fun _ q => s_X12_isState q) q (fun v18 h18 q => ?_)
  refine t_if_eq eX12_areThere_21 (t := 28) (by decide) q (fun q => ?_) (fun q => ?_)
  · refine r_iconst (v := (0)) eX12_areThere_28 (by decide) ?_
    exact t_rtZ eX12_areThere_29 rfl q
  refine r_iconst (v := (1)) eX12_areThere_24 (by decide) ?_
  refine r_goto (t := 29) eX12_areThere_25 (by decide) ?_
  exact t_rtZ eX12_areThere_29 rfl q
theorem s_X12_leads {E : Ev} {d : Nat} {a0 : Nat} {x1 : Int32} {x2 : Int32} {x3 : Int32} {x4 : Int32} {x5 : Int32} {x6 : Int32} {h : Hp} {Φ : Ou → Hp → Prop} (q : OK (F_X12_leads E a0 x1 x2 x3 x4 x5 x6 h) Φ) : CE E mX12_leads (d + 8) [.ref a0, .int x1, .int x2, .int x3, .int x4, .int x5, .int x6] h 0 0 Φ := by
  show WE E mX12_leads (d + 8) 0 [some (.ref a0), some (.int x1), some (.int x2), some (.int x3), some (.int x4), some (.int x5), some (.int x6), none] [] h 0 0 Φ
  refine r_aload_n eX12_leads_0 rfl ?_
  refine r_iconst (v := (0)) eX12_leads_1 (by decide) ?_
  refine t_pf eX12_leads_2 p_12_97 rfl rfl (fun q => by cases q) q (fun h2 q => ?_)
  refine r_aload_n eX12_leads_5 rfl ?_
  refine r_iload_n eX12_leads_6 rfl ?_
  refine r_iload_n eX12_leads_7 rfl ?_
  refine r_iload_n eX12_leads_8 rfl ?_
  refine t_virtI (As := [_, _, _]) (rest := []) (d' := d + 4 + 3) (ci := 12) eX12_leads_9 k_12_441 rfl rfl rfl (by omega) (Nat.le_of_ble_eq_true rfl) (Nat.le_of_ble_eq_true rfl) (fun _ q => s_X12_areThere q) q (fun v9 h9 q => ?_)
  refine t_if_ne eX12_leads_12 (t := 21) (by decide) q (fun q => ?_) (fun q => ?_)
  · refine r_iload eX12_leads_21 rfl ?_
    refine t_statI (As := [_]) (rest := []) (d' := d + 6 + 1) eX12_leads_23 k_12_127 rfl (by omega) (Nat.le_of_ble_eq_true rfl) (Nat.le_of_ble_eq_true rfl) (fun _ q => s_X12_isYear q) q (fun v23 h23 q => ?_)
    refine t_if_eq eX12_leads_26 (t := 45) (by decide) q (fun q => ?_) (fun q => ?_)
    · refine r_aload_n eX12_leads_45 rfl ?_
      refine r_iconst (v := (2)) eX12_leads_46 (by decide) ?_
      refine t_virtI (As := [_]) (rest := []) (d' := d + 7 + 0) (ci := 12) eX12_leads_47 k_12_114 rfl rfl rfl (by omega) (Nat.le_of_ble_eq_true rfl) (Nat.le_of_ble_eq_true rfl) (fun _ q => s_X12_fails q) q (fun v47 h47 q => ?_)
      exact t_rtI eX12_leads_50 rfl q
    refine r_iload eX12_leads_29 rfl ?_
    refine r_i2l eX12_leads_31 ?_
    refine r_lconst (v := 0) eX12_leads_32 rfl ?_
    refine r_aload_n eX12_leads_33 rfl ?_
    refine r_iload_n eX12_leads_34 rfl ?_
    refine t_virtI (As := [_]) (rest := [_, _]) (d' := d + 7 + 0) (ci := 12) eX12_leads_35 k_12_374 rfl rfl rfl (by omega) (Nat.le_of_ble_eq_true rfl) (Nat.le_of_ble_eq_true rfl) (fun _ q => s_X12_sayingsOf q) q (fun v35 h35 q => ?_)
    refine r_i2l eX12_leads_38 ?_
    refine t_statI (As := [_, _, _]) (rest := []) (d' := d + 7 + 0) eX12_leads_39 k_12_102 rfl (by omega) (Nat.le_of_ble_eq_true rfl) (Nat.le_of_ble_eq_true rfl) (fun _ q => s_X12_within q) q (fun v39 h39 q => ?_)
    refine t_if_ne eX12_leads_42 (t := 51) (by decide) q (fun q => ?_) (fun q => ?_)
    · refine r_aload_n eX12_leads_51 rfl ?_
      refine r_iload_n eX12_leads_52 rfl ?_
      refine r_iload_n eX12_leads_53 rfl ?_
      refine r_iload_n eX12_leads_54 rfl ?_
      refine r_iload eX12_leads_55 rfl ?_
      refine r_iload eX12_leads_57 rfl ?_
      refine t_virtI (As := [_, _, _, _, _]) (rest := []) (d' := d + 0 + 7) (ci := 12) eX12_leads_59 k_12_430 rfl rfl rfl (by omega) (Nat.le_of_ble_eq_true rfl) (Nat.le_of_ble_eq_true rfl) (fun _ q => s_X12_goes q) q (fun v59 h59 q => ?_)
      refine r_istore (lv' := [_, _, _, _, _, _, _, _]) eX12_leads_62 (Nat.le_of_ble_eq_true rfl) rfl ?_
      refine r_aload_n eX12_leads_64 rfl ?_
      refine t_gfR eX12_leads_65 f_12_61 q (fun v65 q => ?_)
      refine r_iconst (v := (0)) eX12_leads_68 (by decide) ?_
      refine r_iload eX12_leads_69 rfl ?_
      refine t_statI (As := [_, _, _]) (rest := []) (d' := d + 5 + 2) eX12_leads_71 k_12_197 rfl (by omega) (Nat.le_of_ble_eq_true rfl) (Nat.le_of_ble_eq_true rfl) (fun _ q => s_X12_numberOf q) q (fun v71 h71 q => ?_)
      exact t_rtI eX12_leads_74 rfl q
    refine r_aload_n eX12_leads_45 rfl ?_
    refine r_iconst (v := (2)) eX12_leads_46 (by decide) ?_
    refine t_virtI (As := [_]) (rest := []) (d' := d + 7 + 0) (ci := 12) eX12_leads_47 k_12_114 rfl rfl rfl (by omega) (Nat.le_of_ble_eq_true rfl) (Nat.le_of_ble_eq_true rfl) (fun _ q => s_X12_fails q) q (fun v47 h47 q => ?_)
    exact t_rtI eX12_leads_50 rfl q
  refine r_aload_n eX12_leads_15 rfl ?_
  refine r_iconst (v := (1)) eX12_leads_16 (by decide) ?_
  refine t_virtI (As := [_]) (rest := []) (d' := d + 7 + 0) (ci := 12) eX12_leads_17 k_12_114 rfl rfl rfl (by omega) (Nat.le_of_ble_eq_true rfl) (Nat.le_of_ble_eq_true rfl) (fun _ q => s_X12_fails q) q (fun v17 h17 q => ?_)
  exact t_rtI eX12_leads_20 rfl q
theorem s_X12_holds {E : Ev} {d : Nat} {a0 : Nat} {x1 : Int32} {x2 : Int32} {x3 : Int32} {x4 : Int32} {h : Hp} {Φ : Ou → Hp → Prop} (q : OK (F_X12_holds E a0 x1 x2 x3 x4 h) Φ) : CE E mX12_holds (d + 8) [.ref a0, .int x1, .int x2, .int x3, .int x4] h 0 0 Φ := by
  show WE E mX12_holds (d + 8) 0 [some (.ref a0), some (.int x1), some (.int x2), some (.int x3), some (.int x4)] [] h 0 0 Φ
  refine r_aload_n eX12_holds_0 rfl ?_
  refine r_iconst (v := (0)) eX12_holds_1 (by decide) ?_
  refine t_pf eX12_holds_2 p_12_97 rfl rfl (fun q => by cases q) q (fun h2 q => ?_)
  refine r_aload_n eX12_holds_5 rfl ?_
  refine r_iload_n eX12_holds_6 rfl ?_
  refine r_iload_n eX12_holds_7 rfl ?_
  refine r_iload_n eX12_holds_8 rfl ?_
  refine t_virtI (As := [_, _, _]) (rest := []) (d' := d + 4 + 3) (ci := 12) eX12_holds_9 k_12_441 rfl rfl rfl (by omega) (Nat.le_of_ble_eq_true rfl) (Nat.le_of_ble_eq_true rfl) (fun _ q => s_X12_areThere q) q (fun v9 h9 q => ?_)
  refine t_if_ne eX12_holds_12 (t := 21) (by decide) q (fun q => ?_) (fun q => ?_)
  · refine r_iload eX12_holds_21 rfl ?_
    refine t_statI (As := [_]) (rest := []) (d' := d + 6 + 1) eX12_holds_23 k_12_127 rfl (by omega) (Nat.le_of_ble_eq_true rfl) (Nat.le_of_ble_eq_true rfl) (fun _ q => s_X12_isYear q) q (fun v23 h23 q => ?_)
    refine t_if_eq eX12_holds_26 (t := 46) (by decide) q (fun q => ?_) (fun q => ?_)
    · refine r_aload_n eX12_holds_46 rfl ?_
      refine r_iconst (v := (2)) eX12_holds_47 (by decide) ?_
      refine t_virtI (As := [_]) (rest := []) (d' := d + 7 + 0) (ci := 12) eX12_holds_48 k_12_114 rfl rfl rfl (by omega) (Nat.le_of_ble_eq_true rfl) (Nat.le_of_ble_eq_true rfl) (fun _ q => s_X12_fails q) q (fun v48 h48 q => ?_)
      exact t_rtI eX12_holds_51 rfl q
    refine r_aload_n eX12_holds_29 rfl ?_
    refine r_iload_n eX12_holds_30 rfl ?_
    refine r_iload_n eX12_holds_31 rfl ?_
    refine r_iload_n eX12_holds_32 rfl ?_
    refine r_iload eX12_holds_33 rfl ?_
    refine r_aload_n eX12_holds_35 rfl ?_
    refine r_iload_n eX12_holds_36 rfl ?_
    refine t_virtI (As := [_]) (rest := [_, _, _, _, _]) (d' := d + 7 + 0) (ci := 12) eX12_holds_37 k_12_374 rfl rfl rfl (by omega) (Nat.le_of_ble_eq_true rfl) (Nat.le_of_ble_eq_true rfl) (fun _ q => s_X12_sayingsOf q) q (fun v37 h37 q => ?_)
    refine t_virtI (As := [_, _, _, _, _]) (rest := []) (d' := d + 0 + 7) (ci := 12) eX12_holds_40 k_12_430 rfl rfl rfl (by omega) (Nat.le_of_ble_eq_true rfl) (Nat.le_of_ble_eq_true rfl) (fun _ q => s_X12_goes q) q (fun v40 h40 q => ?_)
    refine r_goto (t := 51) eX12_holds_43 (by decide) ?_
    exact t_rtI eX12_holds_51 rfl q
  refine r_aload_n eX12_holds_15 rfl ?_
  refine r_iconst (v := (1)) eX12_holds_16 (by decide) ?_
  refine t_virtI (As := [_]) (rest := []) (d' := d + 7 + 0) (ci := 12) eX12_holds_17 k_12_114 rfl rfl rfl (by omega) (Nat.le_of_ble_eq_true rfl) (Nat.le_of_ble_eq_true rfl) (fun _ q => s_X12_fails q) q (fun v17 h17 q => ?_)
  exact t_rtI eX12_holds_20 rfl q
theorem sL_X12_end_76 {E : Ev} {d kc ks : Nat} {Φ : Ou → Hp → Prop} {y0 : Nat} {y1 : Int32} {y2 : Int32} {y3 : Int32} {y4 : Int32} {y5 : Int32} {y6 : Int32} {y7 : Int32}  : ∀ (g : Nat) (y8 : Int32) (y9 : Int32) (h : Hp), OK (L_X12_end_76 E y0 y5 g y8 y9 h) Φ → WE E mX12_end (d + 8) 76 [some (.ref y0), some (.int y1), some (.int y2), some (.int y3), some (.int y4), some (.int y5), some (.int y6), some (.int y7), some (.int y8), some (.int y9)] [] h kc ks Φ := by
  intro g
  induction g with
  | zero => intro y8 y9 h q; exact q.elim
  | succ g ih =>
    intro y8 y9 h q
    refine r_iload eX12_end_76 rfl ?_
    refine r_bipush (v := (40)) eX12_end_78 (by decide) ?_
    refine t_icmp_ge eX12_end_80 (t := 115) (by decide) q (fun q => ?_) (fun q => ?_)
    · refine r_iconst (v := (-1)) eX12_end_115 (by decide) ?_
      exact t_rtI eX12_end_116 rfl q
    refine r_aload_n eX12_end_83 rfl ?_
    refine t_gfR eX12_end_84 f_12_67 q (fun v84 q => ?_)
    refine r_iload eX12_end_87 rfl ?_
    refine t_gaZ eX12_end_89 q (fun v89 q => ?_)
    refine t_if_ne eX12_end_90 (t := 96) (by decide) q (fun q => ?_) (fun q => ?_)
    · refine r_iload eX12_end_96 rfl ?_
      refine r_iload eX12_end_98 rfl ?_
      refine t_icmp_ne eX12_end_100 (t := 106) (by decide) q (fun q => ?_) (fun q => ?_)
      · refine r_iinc (v := (1)) (lv' := [_, _, _, _, _, _, _, _, _, _]) eX12_end_106 rfl (by decide) rfl ?_
        refine r_iinc (v := (1)) (lv' := [_, _, _, _, _, _, _, _, _, _]) eX12_end_109 rfl (by decide) rfl ?_
        refine r_goto (t := 76) eX12_end_112 (by decide) ?_
        exact ih _ _ _ q
      refine r_iload eX12_end_103 rfl ?_
      exact t_rtI eX12_end_105 rfl q
    refine r_goto (t := 109) eX12_end_93 (by decide) ?_
    refine r_iinc (v := (1)) (lv' := [_, _, _, _, _, _, _, _, _, _]) eX12_end_109 rfl (by decide) rfl ?_
    refine r_goto (t := 76) eX12_end_112 (by decide) ?_
    exact ih _ _ _ q
theorem s_X12_end {E : Ev} {d : Nat} {a0 : Nat} {x1 : Int32} {x2 : Int32} {x3 : Int32} {x4 : Int32} {x5 : Int32} {h : Hp} {Φ : Ou → Hp → Prop} (q : OK (F_X12_end E a0 x1 x2 x3 x4 x5 h) Φ) : CE E mX12_end (d + 8) [.ref a0, .int x1, .int x2, .int x3, .int x4, .int x5] h 0 0 Φ := by
  show WE E mX12_end (d + 8) 0 [some (.ref a0), some (.int x1), some (.int x2), some (.int x3), some (.int x4), some (.int x5), none, none, none, none] [] h 0 0 Φ
  refine r_aload_n eX12_end_0 rfl ?_
  refine r_iconst (v := (0)) eX12_end_1 (by decide) ?_
  refine t_pf eX12_end_2 p_12_97 rfl rfl (fun q => by cases q) q (fun h2 q => ?_)
  refine r_aload_n eX12_end_5 rfl ?_
  refine r_iload_n eX12_end_6 rfl ?_
  refine r_iload_n eX12_end_7 rfl ?_
  refine r_iload_n eX12_end_8 rfl ?_
  refine t_virtI (As := [_, _, _]) (rest := []) (d' := d + 4 + 3) (ci := 12) eX12_end_9 k_12_441 rfl rfl rfl (by omega) (Nat.le_of_ble_eq_true rfl) (Nat.le_of_ble_eq_true rfl) (fun _ q => s_X12_areThere q) q (fun v9 h9 q => ?_)
  refine t_if_ne eX12_end_12 (t := 21) (by decide) q (fun q => ?_) (fun q => ?_)
  · refine r_iload eX12_end_21 rfl ?_
    refine t_statI (As := [_]) (rest := []) (d' := d + 6 + 1) eX12_end_23 k_12_127 rfl (by omega) (Nat.le_of_ble_eq_true rfl) (Nat.le_of_ble_eq_true rfl) (fun _ q => s_X12_isYear q) q (fun v23 h23 q => ?_)
    refine t_if_ne eX12_end_26 (t := 35) (by decide) q (fun q => ?_) (fun q => ?_)
    · refine r_aload_n eX12_end_35 rfl ?_
      refine r_iload_n eX12_end_36 rfl ?_
      refine r_iload_n eX12_end_37 rfl ?_
      refine r_iload_n eX12_end_38 rfl ?_
      refine r_iload eX12_end_39 rfl ?_
      refine r_aload_n eX12_end_41 rfl ?_
      refine r_iload_n eX12_end_42 rfl ?_
      refine t_virtI (As := [_]) (rest := [_, _, _, _, _]) (d' := d + 7 + 0) (ci := 12) eX12_end_43 k_12_374 rfl rfl rfl (by omega) (Nat.le_of_ble_eq_true rfl) (Nat.le_of_ble_eq_true rfl) (fun _ q => s_X12_sayingsOf q) q (fun v43 h43 q => ?_)
      refine t_virtI (As := [_, _, _, _, _]) (rest := []) (d' := d + 0 + 7) (ci := 12) eX12_end_46 k_12_430 rfl rfl rfl (by omega) (Nat.le_of_ble_eq_true rfl) (Nat.le_of_ble_eq_true rfl) (fun _ q => s_X12_goes q) q (fun v46 h46 q => ?_)
      refine r_istore (lv' := [_, _, _, _, _, _, _, _, _, _]) eX12_end_49 (Nat.le_of_ble_eq_true rfl) rfl ?_
      refine r_aload_n eX12_end_51 rfl ?_
      refine r_aload_n eX12_end_52 rfl ?_
      refine t_gfR eX12_end_53 f_12_67 q (fun v53 q => ?_)
      refine t_virtI (As := [_]) (rest := []) (d' := d + 4 + 3) (ci := 12) eX12_end_56 k_12_434 rfl rfl rfl (by omega) (Nat.le_of_ble_eq_true rfl) (Nat.le_of_ble_eq_true rfl) (fun _ q => s_X12_placesOf q) q (fun v56 h56 q => ?_)
      refine r_istore (lv' := [_, _, _, _, _, _, _, _, _, _]) eX12_end_59 (Nat.le_of_ble_eq_true rfl) rfl ?_
      refine r_iload eX12_end_61 rfl ?_
      refine r_iconst (v := (-1)) eX12_end_63 (by decide) ?_
      refine t_icmp_ne eX12_end_64 (t := 70) (by decide) q (fun q => ?_) (fun q => ?_)
      · refine r_iconst (v := (0)) eX12_end_70 (by decide) ?_
        refine r_istore (lv' := [_, _, _, _, _, _, _, _, _, _]) eX12_end_71 (Nat.le_of_ble_eq_true rfl) rfl ?_
        refine r_iconst (v := (0)) eX12_end_73 (by decide) ?_
        refine r_istore (lv' := [_, _, _, _, _, _, _, _, _, _]) eX12_end_74 (Nat.le_of_ble_eq_true rfl) rfl ?_
        exact sL_X12_end_76  _ _ _ _ q
      refine r_iload eX12_end_67 rfl ?_
      exact t_rtI eX12_end_69 rfl q
    refine r_aload_n eX12_end_29 rfl ?_
    refine r_iconst (v := (2)) eX12_end_30 (by decide) ?_
    refine t_virtI (As := [_]) (rest := []) (d' := d + 7 + 0) (ci := 12) eX12_end_31 k_12_114 rfl rfl rfl (by omega) (Nat.le_of_ble_eq_true rfl) (Nat.le_of_ble_eq_true rfl) (fun _ q => s_X12_fails q) q (fun v31 h31 q => ?_)
    exact t_rtI eX12_end_34 rfl q
  refine r_aload_n eX12_end_15 rfl ?_
  refine r_iconst (v := (1)) eX12_end_16 (by decide) ?_
  refine t_virtI (As := [_]) (rest := []) (d' := d + 7 + 0) (ci := 12) eX12_end_17 k_12_114 rfl rfl rfl (by omega) (Nat.le_of_ble_eq_true rfl) (Nat.le_of_ble_eq_true rfl) (fun _ q => s_X12_fails q) q (fun v17 h17 q => ?_)
  exact t_rtI eX12_end_20 rfl q
theorem s_X12_right {E : Ev} {d : Nat} {a0 : Nat} {x1 : Int32} {x2 : Int32} {x3 : Int32} {x4 : Int32} {h : Hp} {Φ : Ou → Hp → Prop} (q : OK (F_X12_right E a0 x1 x2 x3 x4 h) Φ) : CE E mX12_right (d + 9) [.ref a0, .int x1, .int x2, .int x3, .int x4] h 0 0 Φ := by
  show WE E mX12_right (d + 9) 0 [some (.ref a0), some (.int x1), some (.int x2), some (.int x3), some (.int x4)] [] h 0 0 Φ
  refine r_aload_n eX12_right_0 rfl ?_
  refine r_iconst (v := (0)) eX12_right_1 (by decide) ?_
  refine t_pf eX12_right_2 p_12_97 rfl rfl (fun q => by cases q) q (fun h2 q => ?_)
  refine r_aload_n eX12_right_5 rfl ?_
  refine r_iload_n eX12_right_6 rfl ?_
  refine r_iload_n eX12_right_7 rfl ?_
  refine r_iload_n eX12_right_8 rfl ?_
  refine t_virtI (As := [_, _, _]) (rest := []) (d' := d + 5 + 3) (ci := 12) eX12_right_9 k_12_441 rfl rfl rfl (by omega) (Nat.le_of_ble_eq_true rfl) (Nat.le_of_ble_eq_true rfl) (fun _ q => s_X12_areThere q) q (fun v9 h9 q => ?_)
  refine t_if_ne eX12_right_12 (t := 21) (by decide) q (fun q => ?_) (fun q => ?_)
  · refine r_iload eX12_right_21 rfl ?_
    refine t_statI (As := [_]) (rest := []) (d' := d + 7 + 1) eX12_right_23 k_12_127 rfl (by omega) (Nat.le_of_ble_eq_true rfl) (Nat.le_of_ble_eq_true rfl) (fun _ q => s_X12_isYear q) q (fun v23 h23 q => ?_)
    refine t_if_eq eX12_right_26 (t := 41) (by decide) q (fun q => ?_) (fun q => ?_)
    · refine r_aload_n eX12_right_41 rfl ?_
      refine r_iconst (v := (2)) eX12_right_42 (by decide) ?_
      refine t_virtI (As := [_]) (rest := []) (d' := d + 8 + 0) (ci := 12) eX12_right_43 k_12_225 rfl rfl rfl (by omega) (Nat.le_of_ble_eq_true rfl) (Nat.le_of_ble_eq_true rfl) (fun _ q => s_X12_fell q) q (fun v43 h43 q => ?_)
      exact t_rtZ eX12_right_46 rfl q
    refine r_aload_n eX12_right_29 rfl ?_
    refine r_iload_n eX12_right_30 rfl ?_
    refine r_iload_n eX12_right_31 rfl ?_
    refine r_iload_n eX12_right_32 rfl ?_
    refine r_iload eX12_right_33 rfl ?_
    refine t_virtI (As := [_, _, _, _]) (rest := []) (d' := d + 0 + 8) (ci := 12) eX12_right_35 k_12_444 rfl rfl rfl (by omega) (Nat.le_of_ble_eq_true rfl) (Nat.le_of_ble_eq_true rfl) (fun _ q => s_X12_isRight q) q (fun v35 h35 q => ?_)
    refine r_goto (t := 46) eX12_right_38 (by decide) ?_
    exact t_rtZ eX12_right_46 rfl q
  refine r_aload_n eX12_right_15 rfl ?_
  refine r_iconst (v := (1)) eX12_right_16 (by decide) ?_
  refine t_virtI (As := [_]) (rest := []) (d' := d + 8 + 0) (ci := 12) eX12_right_17 k_12_225 rfl rfl rfl (by omega) (Nat.le_of_ble_eq_true rfl) (Nat.le_of_ble_eq_true rfl) (fun _ q => s_X12_fell q) q (fun v17 h17 q => ?_)
  exact t_rtZ eX12_right_20 rfl q
theorem sL_X12_parted_22 {E : Ev} {d kc ks : Nat} {Φ : Ou → Hp → Prop} {y0 : Nat} {y1 : Int32} {y2 : Nat} {y3 : Nat} {y4 : Int32}  : ∀ (g : Nat) (y5 : Int32) (y6 : Int32) (h : Hp), OK (L_X12_parted_22 E y1 y2 y3 y4 g y5 y6 h) Φ → WE E mX12_parted (d + 2) 22 [some (.ref y0), some (.int y1), some (.ref y2), some (.ref y3), some (.int y4), some (.int y5), some (.int y6)] [] h kc ks Φ := by
  intro g
  induction g with
  | zero => intro y5 y6 h q; exact q.elim
  | succ g ih =>
    intro y5 y6 h q
    refine r_iload eX12_parted_22 rfl ?_
    refine r_sipush (v := (240)) eX12_parted_24 (by decide) ?_
    refine t_icmp_ge eX12_parted_27 (t := 74) (by decide) q (fun q => ?_) (fun q => ?_)
    · exact t_rtV eX12_parted_74 rfl q
    refine r_aload_n eX12_parted_30 rfl ?_
    refine r_iconst (v := (0)) eX12_parted_31 (by decide) ?_
    refine r_iload eX12_parted_32 rfl ?_
    refine t_statI (As := [_, _, _]) (rest := []) (d' := d + 1 + 0) eX12_parted_34 k_12_185 rfl (by omega) (Nat.le_of_ble_eq_true rfl) (Nat.le_of_ble_eq_true rfl) (fun _ q => s_X12_has q) q (fun v34 h34 q => ?_)
    refine t_if_ne eX12_parted_37 (t := 43) (by decide) q (fun q => ?_) (fun q => ?_)
    · refine r_aload_n eX12_parted_43 rfl ?_
      refine r_iload eX12_parted_44 rfl ?_
      refine r_dup2 eX12_parted_46 rfl rfl ?_
      refine t_gaI eX12_parted_47 q (fun v47 q => ?_)
      refine r_iload_n eX12_parted_48 rfl ?_
      refine r_iload eX12_parted_49 rfl ?_
      refine t_dvI eX12_parted_51 q (fun v51 q => ?_)
      refine r_iload eX12_parted_52 rfl ?_
      refine t_if_le eX12_parted_54 (t := 61) (by decide) q (fun q => ?_) (fun q => ?_)
      · refine r_iconst (v := (0)) eX12_parted_61 (by decide) ?_
        refine r_iadd eX12_parted_62 ?_
        refine r_iadd eX12_parted_63 ?_
        refine t_paI eX12_parted_64 q (fun h64 q => ?_)
        refine r_iinc (v := (-1)) (lv' := [_, _, _, _, _, _, _]) eX12_parted_65 rfl (by decide) rfl ?_
        refine r_iinc (v := (1)) (lv' := [_, _, _, _, _, _, _]) eX12_parted_68 rfl (by decide) rfl ?_
        refine r_goto (t := 22) eX12_parted_71 (by decide) ?_
        exact ih _ _ _ q
      refine r_iconst (v := (1)) eX12_parted_57 (by decide) ?_
      refine r_goto (t := 62) eX12_parted_58 (by decide) ?_
      refine r_iadd eX12_parted_62 ?_
      refine r_iadd eX12_parted_63 ?_
      refine t_paI eX12_parted_64 q (fun h64 q => ?_)
      refine r_iinc (v := (-1)) (lv' := [_, _, _, _, _, _, _]) eX12_parted_65 rfl (by decide) rfl ?_
      refine r_iinc (v := (1)) (lv' := [_, _, _, _, _, _, _]) eX12_parted_68 rfl (by decide) rfl ?_
      refine r_goto (t := 22) eX12_parted_71 (by decide) ?_
      exact ih _ _ _ q
    refine r_goto (t := 68) eX12_parted_40 (by decide) ?_
    refine r_iinc (v := (1)) (lv' := [_, _, _, _, _, _, _]) eX12_parted_68 rfl (by decide) rfl ?_
    refine r_goto (t := 22) eX12_parted_71 (by decide) ?_
    exact ih _ _ _ q
theorem s_X12_parted {E : Ev} {d : Nat} {a0 : Nat} {x1 : Int32} {a2 : Nat} {a3 : Nat} {h : Hp} {Φ : Ou → Hp → Prop} (q : OK (F_X12_parted E a0 x1 a2 a3 h) Φ) : CE E mX12_parted (d + 2) [.ref a0, .int x1, .ref a2, .ref a3] h 0 0 Φ := by
  show WE E mX12_parted (d + 2) 0 [some (.ref a0), some (.int x1), some (.ref a2), some (.ref a3), none, none, none] [] h 0 0 Φ
  refine r_aload_n eX12_parted_0 rfl ?_
  refine r_iconst (v := (0)) eX12_parted_1 (by decide) ?_
  refine t_statI (As := [_, _]) (rest := []) (d' := d + 0 + 1) eX12_parted_2 k_12_189 rfl (by omega) (Nat.le_of_ble_eq_true rfl) (Nat.le_of_ble_eq_true rfl) (fun _ q => s_X12_sizeOf q) q (fun v2 h2 q => ?_)
  refine r_istore (lv' := [_, _, _, _, _, _, _]) eX12_parted_5 (Nat.le_of_ble_eq_true rfl) rfl ?_
  refine r_iload eX12_parted_7 rfl ?_
  refine t_if_ne eX12_parted_9 (t := 13) (by decide) q (fun q => ?_) (fun q => ?_)
  · refine r_iload_n eX12_parted_13 rfl ?_
    refine r_iload eX12_parted_14 rfl ?_
    refine t_rmI eX12_parted_16 q (fun v16 q => ?_)
    refine r_istore (lv' := [_, _, _, _, _, _, _]) eX12_parted_17 (Nat.le_of_ble_eq_true rfl) rfl ?_
    refine r_iconst (v := (0)) eX12_parted_19 (by decide) ?_
    refine r_istore (lv' := [_, _, _, _, _, _, _]) eX12_parted_20 (Nat.le_of_ble_eq_true rfl) rfl ?_
    exact sL_X12_parted_22  _ _ _ _ q
  exact t_rtV eX12_parted_12 rfl q
theorem sL_X12_oddsOn_16 {E : Ev} {d kc ks : Nat} {Φ : Ou → Hp → Prop} {y0 : Nat} {y1 : Int32} {y2 : Int32} {y3 : Int32} {y4 : Int32} {K38 : Hp → Rs} (hK38 : ∀ (w5 : Int32) (h : Hp), OK (K38 h) Φ → WE E mX12_oddsOn (d + 7) 38 [some (.ref y0), some (.int y1), some (.int y2), some (.int y3), some (.int y4), some (.int w5)] [] h kc ks Φ) : ∀ (g : Nat) (y5 : Int32) (h : Hp), OK (L_X12_oddsOn_16 E K38 y0 g y5 h) Φ → WE E mX12_oddsOn (d + 7) 16 [some (.ref y0), some (.int y1), some (.int y2), some (.int y3), some (.int y4), some (.int y5)] [] h kc ks Φ := by
  intro g
  induction g with
  | zero => intro y5 h q; exact q.elim
  | succ g ih =>
    intro y5 h q
    refine r_iload eX12_oddsOn_16 rfl ?_
    refine r_sipush (v := (240)) eX12_oddsOn_18 (by decide) ?_
    refine t_icmp_ge eX12_oddsOn_21 (t := 38) (by decide) q (fun q => ?_) (fun q => ?_)
    · exact hK38 _ _ q
    refine r_aload_n eX12_oddsOn_24 rfl ?_
    refine t_gfR eX12_oddsOn_25 f_12_76 q (fun v25 q => ?_)
    refine r_iload eX12_oddsOn_28 rfl ?_
    refine r_iconst (v := (0)) eX12_oddsOn_30 (by decide) ?_
    refine t_paI eX12_oddsOn_31 q (fun h31 q => ?_)
    refine r_iinc (v := (1)) (lv' := [_, _, _, _, _, _]) eX12_oddsOn_32 rfl (by decide) rfl ?_
    refine r_goto (t := 16) eX12_oddsOn_35 (by decide) ?_
    exact ih _ _ q
theorem sL_X12_oddsOn_41 {E : Ev} {d kc ks : Nat} {Φ : Ou → Hp → Prop} {y0 : Nat} {y1 : Int32} {y2 : Int32} {y3 : Int32} {y4 : Int32} {K113 : Hp → Rs} (hK113 : ∀ (w5 : Int32) (h : Hp), OK (K113 h) Φ → WE E mX12_oddsOn (d + 7) 113 [some (.ref y0), some (.int y1), some (.int y2), some (.int y3), some (.int y4), some (.int w5)] [] h kc ks Φ) : ∀ (g : Nat) (y5 : Int32) (h : Hp), OK (L_X12_oddsOn_41 E K113 y0 y1 y2 y4 g y5 h) Φ → WE E mX12_oddsOn (d + 7) 41 [some (.ref y0), some (.int y1), some (.int y2), some (.int y3), some (.int y4), some (.int y5)] [] h kc ks Φ := by
  intro g
  induction g with
  | zero => intro y5 h q; exact q.elim
  | succ g ih =>
    intro y5 h q
    refine r_iload eX12_oddsOn_41 rfl ?_
    refine r_sipush (v := (240)) eX12_oddsOn_43 (by decide) ?_
    refine t_icmp_ge eX12_oddsOn_46 (t := 113) (by decide) q (fun q => ?_) (fun q => ?_)
    · exact hK113 _ _ q
    refine r_aload_n eX12_oddsOn_49 rfl ?_
    refine t_gfR eX12_oddsOn_50 f_12_73 q (fun v50 q => ?_)
    refine r_iload eX12_oddsOn_53 rfl ?_
    refine t_gaI eX12_oddsOn_55 q (fun v55 q => ?_)
    refine t_if_ne eX12_oddsOn_56 (t := 62) (by decide) q (fun q => ?_) (fun q => ?_)
    · refine r_aload_n eX12_oddsOn_62 rfl ?_
      refine t_gfR eX12_oddsOn_63 f_12_61 q (fun v63 q => ?_)
      refine r_iconst (v := (0)) eX12_oddsOn_66 (by decide) ?_
      refine t_statV (As := [_, _]) (rest := []) (d' := d + 6 + 0) eX12_oddsOn_67 k_12_218 rfl (by omega) (Nat.le_of_ble_eq_true rfl) (Nat.le_of_ble_eq_true rfl) (fun _ q => s_X12_empty q) q (fun h67 q => ?_)
      refine r_aload_n eX12_oddsOn_70 rfl ?_
      refine t_gfR eX12_oddsOn_71 f_12_61 q (fun v71 q => ?_)
      refine r_iconst (v := (0)) eX12_oddsOn_74 (by decide) ?_
      refine r_iload eX12_oddsOn_75 rfl ?_
      refine t_statV (As := [_, _, _]) (rest := []) (d' := d + 6 + 0) eX12_oddsOn_77 k_12_178 rfl (by omega) (Nat.le_of_ble_eq_true rfl) (Nat.le_of_ble_eq_true rfl) (fun _ q => s_X12_put q) q (fun h77 q => ?_)
      refine r_aload_n eX12_oddsOn_80 rfl ?_
      refine r_iload_n eX12_oddsOn_81 rfl ?_
      refine r_iload eX12_oddsOn_82 rfl ?_
      refine r_iload_n eX12_oddsOn_84 rfl ?_
      refine t_virtV (As := [_, _, _]) (rest := []) (d' := d + 0 + 6) (ci := 12) eX12_oddsOn_85 k_12_426 rfl rfl rfl (by omega) (Nat.le_of_ble_eq_true rfl) (Nat.le_of_ble_eq_true rfl) (fun _ q => s_X12_says q) q (fun h85 q => ?_)
      refine r_aload_n eX12_oddsOn_88 rfl ?_
      refine r_aload_n eX12_oddsOn_89 rfl ?_
      refine t_gfR eX12_oddsOn_90 f_12_73 q (fun v90 q => ?_)
      refine r_iload eX12_oddsOn_93 rfl ?_
      refine t_gaI eX12_oddsOn_95 q (fun v95 q => ?_)
      refine r_aload_n eX12_oddsOn_96 rfl ?_
      refine t_gfR eX12_oddsOn_97 f_12_61 q (fun v97 q => ?_)
      refine r_aload_n eX12_oddsOn_100 rfl ?_
      refine t_gfR eX12_oddsOn_101 f_12_76 q (fun v101 q => ?_)
      refine t_virtV (As := [_, _, _]) (rest := []) (d' := d + 4 + 2) (ci := 12) eX12_oddsOn_104 k_12_447 rfl rfl rfl (by omega) (Nat.le_of_ble_eq_true rfl) (Nat.le_of_ble_eq_true rfl) (fun _ q => s_X12_parted q) q (fun h104 q => ?_)
      refine r_iinc (v := (1)) (lv' := [_, _, _, _, _, _]) eX12_oddsOn_107 rfl (by decide) rfl ?_
      refine r_goto (t := 41) eX12_oddsOn_110 (by decide) ?_
      exact ih _ _ q
    refine r_goto (t := 107) eX12_oddsOn_59 (by decide) ?_
    refine r_iinc (v := (1)) (lv' := [_, _, _, _, _, _]) eX12_oddsOn_107 rfl (by decide) rfl ?_
    refine r_goto (t := 41) eX12_oddsOn_110 (by decide) ?_
    exact ih _ _ q
theorem sL_X12_oddsOn_116 {E : Ev} {d kc ks : Nat} {Φ : Ou → Hp → Prop} {y0 : Nat} {y1 : Int32} {y2 : Int32} {y3 : Int32} {y4 : Int32} {K144 : Hp → Rs} (hK144 : ∀ (w5 : Int32) (h : Hp), OK (K144 h) Φ → WE E mX12_oddsOn (d + 7) 144 [some (.ref y0), some (.int y1), some (.int y2), some (.int y3), some (.int y4), some (.int w5)] [] h kc ks Φ) : ∀ (g : Nat) (y5 : Int32) (h : Hp), OK (L_X12_oddsOn_116 E K144 y0 g y5 h) Φ → WE E mX12_oddsOn (d + 7) 116 [some (.ref y0), some (.int y1), some (.int y2), some (.int y3), some (.int y4), some (.int y5)] [] h kc ks Φ := by
  intro g
  induction g with
  | zero => intro y5 h q; exact q.elim
  | succ g ih =>
    intro y5 h q
    refine r_iload eX12_oddsOn_116 rfl ?_
    refine r_sipush (v := (240)) eX12_oddsOn_118 (by decide) ?_
    refine t_icmp_ge eX12_oddsOn_121 (t := 144) (by decide) q (fun q => ?_) (fun q => ?_)
    · exact hK144 _ _ q
    refine r_aload_n eX12_oddsOn_124 rfl ?_
    refine t_gfR eX12_oddsOn_125 f_12_73 q (fun v125 q => ?_)
    refine r_iload eX12_oddsOn_128 rfl ?_
    refine r_aload_n eX12_oddsOn_130 rfl ?_
    refine t_gfR eX12_oddsOn_131 f_12_76 q (fun v131 q => ?_)
    refine r_iload eX12_oddsOn_134 rfl ?_
    refine t_gaI eX12_oddsOn_136 q (fun v136 q => ?_)
    refine t_paI eX12_oddsOn_137 q (fun h137 q => ?_)
    refine r_iinc (v := (1)) (lv' := [_, _, _, _, _, _]) eX12_oddsOn_138 rfl (by decide) rfl ?_
    refine r_goto (t := 116) eX12_oddsOn_141 (by decide) ?_
    exact ih _ _ q
theorem sL_X12_oddsOn_3 {E : Ev} {d kc ks : Nat} {Φ : Ou → Hp → Prop} {y0 : Nat} {y1 : Int32} {y2 : Int32} {y3 : Int32}  : ∀ (g : Nat) (y4 : Int32) (y5 : Option Value) (h : Hp), OK (L_X12_oddsOn_3 E y0 y1 y2 g y4 h) Φ → WE E mX12_oddsOn (d + 7) 3 [some (.ref y0), some (.int y1), some (.int y2), some (.int y3), some (.int y4), y5] [] h kc ks Φ := by
  intro g
  induction g with
  | zero => intro y4 y5 h q; exact q.elim
  | succ g ih =>
    intro y4 y5 h q
    refine r_iload eX12_oddsOn_3 rfl ?_
    refine r_aload_n eX12_oddsOn_5 rfl ?_
    refine r_iload_n eX12_oddsOn_6 rfl ?_
    refine t_virtI (As := [_]) (rest := [_]) (d' := d + 6 + 0) (ci := 12) eX12_oddsOn_7 k_12_374 rfl rfl rfl (by omega) (Nat.le_of_ble_eq_true rfl) (Nat.le_of_ble_eq_true rfl) (fun _ q => s_X12_sayingsOf q) q (fun v7 h7 q => ?_)
    refine t_icmp_ge eX12_oddsOn_10 (t := 150) (by decide) q (fun q => ?_) (fun q => ?_)
    · exact t_rtV eX12_oddsOn_150 rfl q
    refine r_iconst (v := (0)) eX12_oddsOn_13 (by decide) ?_
    refine r_istore (lv' := [_, _, _, _, _, _]) eX12_oddsOn_14 (Nat.le_of_ble_eq_true rfl) rfl ?_
    refine sL_X12_oddsOn_16 (fun w1 h2 q => ?_) _ _ _ q
    refine r_iconst (v := (0)) eX12_oddsOn_38 (by decide) ?_
    refine r_istore (lv' := [_, _, _, _, _, _]) eX12_oddsOn_39 (Nat.le_of_ble_eq_true rfl) rfl ?_
    refine sL_X12_oddsOn_41 (fun w3 h4 q => ?_) _ _ _ q
    refine r_iconst (v := (0)) eX12_oddsOn_113 (by decide) ?_
    refine r_istore (lv' := [_, _, _, _, _, _]) eX12_oddsOn_114 (Nat.le_of_ble_eq_true rfl) rfl ?_
    refine sL_X12_oddsOn_116 (fun w5 h6 q => ?_) _ _ _ q
    refine r_iinc (v := (1)) (lv' := [_, _, _, _, _, _]) eX12_oddsOn_144 rfl (by decide) rfl ?_
    refine r_goto (t := 3) eX12_oddsOn_147 (by decide) ?_
    exact ih _ _ _ q
theorem s_X12_oddsOn {E : Ev} {d : Nat} {a0 : Nat} {x1 : Int32} {x2 : Int32} {x3 : Int32} {h : Hp} {Φ : Ou → Hp → Prop} (q : OK (F_X12_oddsOn E a0 x1 x2 x3 h) Φ) : CE E mX12_oddsOn (d + 7) [.ref a0, .int x1, .int x2, .int x3] h 0 0 Φ := by
  show WE E mX12_oddsOn (d + 7) 0 [some (.ref a0), some (.int x1), some (.int x2), some (.int x3), none, none] [] h 0 0 Φ
  refine r_iload_n eX12_oddsOn_0 rfl ?_
  refine r_istore (lv' := [_, _, _, _, _, _]) eX12_oddsOn_1 (Nat.le_of_ble_eq_true rfl) rfl ?_
  exact sL_X12_oddsOn_3  _ _ _ _ q
theorem sL_X12_shareAt_4 {E : Ev} {d kc ks : Nat} {Φ : Ou → Hp → Prop} {y0 : Nat} {y1 : Int32}  : ∀ (g : Nat) (y2 : Int32) (y3 : Int32) (h : Hp), OK (L_X12_shareAt_4 E y0 y1 g y2 y3 h) Φ → WE E mX12_shareAt (d + 3) 4 [some (.ref y0), some (.int y1), some (.int y2), some (.int y3)] [] h kc ks Φ := by
  intro g
  induction g with
  | zero => intro y2 y3 h q; exact q.elim
  | succ g ih =>
    intro y2 y3 h q
    refine r_iload_n eX12_shareAt_4 rfl ?_
    refine r_iconst (v := (4)) eX12_shareAt_5 (by decide) ?_
    refine r_aload_n eX12_shareAt_6 rfl ?_
    refine t_gfR eX12_shareAt_7 f_12_9 q (fun v7 q => ?_)
    refine r_iconst (v := (1)) eX12_shareAt_10 (by decide) ?_
    refine t_gaI eX12_shareAt_11 q (fun v11 q => ?_)
    refine r_imul eX12_shareAt_12 ?_
    refine t_icmp_ge eX12_shareAt_13 (t := 44) (by decide) q (fun q => ?_) (fun q => ?_)
    · refine r_iload_n eX12_shareAt_44 rfl ?_
      exact t_rtI eX12_shareAt_45 rfl q
    refine r_iload_n eX12_shareAt_16 rfl ?_
    refine r_aload_n eX12_shareAt_17 rfl ?_
    refine r_iload_n eX12_shareAt_18 rfl ?_
    refine t_virtI (As := [_]) (rest := [_]) (d' := d + 0 + 2) (ci := 12) eX12_shareAt_19 k_12_143 rfl rfl rfl (by omega) (Nat.le_of_ble_eq_true rfl) (Nat.le_of_ble_eq_true rfl) (fun _ q => s_X12_placeOf q) q (fun v19 h19 q => ?_)
    refine r_iload_n eX12_shareAt_22 rfl ?_
    refine t_icmp_ne eX12_shareAt_23 (t := 35) (by decide) q (fun q => ?_) (fun q => ?_)
    · refine r_iconst (v := (0)) eX12_shareAt_35 (by decide) ?_
      refine r_iadd eX12_shareAt_36 ?_
      refine r_istore_n (lv' := [_, _, _, _]) eX12_shareAt_37 (Nat.le_of_ble_eq_true rfl) rfl ?_
      refine r_iinc (v := (1)) (lv' := [_, _, _, _]) eX12_shareAt_38 rfl (by decide) rfl ?_
      refine r_goto (t := 4) eX12_shareAt_41 (by decide) ?_
      exact ih _ _ _ q
    refine r_aload_n eX12_shareAt_26 rfl ?_
    refine t_gfR eX12_shareAt_27 f_12_73 q (fun v27 q => ?_)
    refine r_iload_n eX12_shareAt_30 rfl ?_
    refine t_gaI eX12_shareAt_31 q (fun v31 q => ?_)
    refine r_goto (t := 36) eX12_shareAt_32 (by decide) ?_
    refine r_iadd eX12_shareAt_36 ?_
    refine r_istore_n (lv' := [_, _, _, _]) eX12_shareAt_37 (Nat.le_of_ble_eq_true rfl) rfl ?_
    refine r_iinc (v := (1)) (lv' := [_, _, _, _]) eX12_shareAt_38 rfl (by decide) rfl ?_
    refine r_goto (t := 4) eX12_shareAt_41 (by decide) ?_
    exact ih _ _ _ q
theorem s_X12_shareAt {E : Ev} {d : Nat} {a0 : Nat} {x1 : Int32} {h : Hp} {Φ : Ou → Hp → Prop} (q : OK (F_X12_shareAt E a0 x1 h) Φ) : CE E mX12_shareAt (d + 3) [.ref a0, .int x1] h 0 0 Φ := by
  show WE E mX12_shareAt (d + 3) 0 [some (.ref a0), some (.int x1), none, none] [] h 0 0 Φ
  refine r_iconst (v := (0)) eX12_shareAt_0 (by decide) ?_
  refine r_istore_n (lv' := [_, _, _, _]) eX12_shareAt_1 (Nat.le_of_ble_eq_true rfl) rfl ?_
  refine r_iconst (v := (0)) eX12_shareAt_2 (by decide) ?_
  refine r_istore_n (lv' := [_, _, _, _]) eX12_shareAt_3 (Nat.le_of_ble_eq_true rfl) rfl ?_
  exact sL_X12_shareAt_4  _ _ _ _ q
theorem sL_X12_oddsFrom_9 {E : Ev} {d kc ks : Nat} {Φ : Ou → Hp → Prop} {y0 : Nat} {y1 : Int32} {y2 : Int32} {y3 : Int32} {y4 : Int32}  : ∀ (g : Nat) (y5 : Int32) (h : Hp), OK (L_X12_oddsFrom_9 E y0 y1 y2 y3 g y5 h) Φ → WE E mX12_oddsFrom (d + 8) 9 [some (.ref y0), some (.int y1), some (.int y2), some (.int y3), some (.int y4), some (.int y5)] [] h kc ks Φ := by
  intro g
  induction g with
  | zero => intro y5 h q; exact q.elim
  | succ g ih =>
    intro y5 h q
    refine r_iload eX12_oddsFrom_9 rfl ?_
    refine r_sipush (v := (240)) eX12_oddsFrom_11 (by decide) ?_
    refine t_icmp_ge eX12_oddsFrom_14 (t := 43) (by decide) q (fun q => ?_) (fun q => ?_)
    · refine r_aload_n eX12_oddsFrom_43 rfl ?_
      refine r_iload_n eX12_oddsFrom_44 rfl ?_
      refine r_iload_n eX12_oddsFrom_45 rfl ?_
      refine r_iconst (v := (0)) eX12_oddsFrom_46 (by decide) ?_
      refine t_virtV (As := [_, _, _]) (rest := []) (d' := d + 0 + 7) (ci := 12) eX12_oddsFrom_47 k_12_452 rfl rfl rfl (by omega) (Nat.le_of_ble_eq_true rfl) (Nat.le_of_ble_eq_true rfl) (fun _ q => s_X12_oddsOn q) q (fun h47 q => ?_)
      exact t_rtV eX12_oddsFrom_50 rfl q
    refine r_aload_n eX12_oddsFrom_17 rfl ?_
    refine t_gfR eX12_oddsFrom_18 f_12_73 q (fun v18 q => ?_)
    refine r_iload eX12_oddsFrom_21 rfl ?_
    refine r_iload eX12_oddsFrom_23 rfl ?_
    refine r_iload_n eX12_oddsFrom_25 rfl ?_
    refine t_icmp_ne eX12_oddsFrom_26 (t := 35) (by decide) q (fun q => ?_) (fun q => ?_)
    · refine r_iconst (v := (0)) eX12_oddsFrom_35 (by decide) ?_
      refine t_paI eX12_oddsFrom_36 q (fun h36 q => ?_)
      refine r_iinc (v := (1)) (lv' := [_, _, _, _, _, _]) eX12_oddsFrom_37 rfl (by decide) rfl ?_
      refine r_goto (t := 9) eX12_oddsFrom_40 (by decide) ?_
      exact ih _ _ q
    refine r_ldcw eX12_oddsFrom_29 g_12_451 ?_
    refine r_goto (t := 36) eX12_oddsFrom_32 (by decide) ?_
    refine t_paI eX12_oddsFrom_36 q (fun h36 q => ?_)
    refine r_iinc (v := (1)) (lv' := [_, _, _, _, _, _]) eX12_oddsFrom_37 rfl (by decide) rfl ?_
    refine r_goto (t := 9) eX12_oddsFrom_40 (by decide) ?_
    exact ih _ _ q
theorem s_X12_oddsFrom {E : Ev} {d : Nat} {a0 : Nat} {x1 : Int32} {x2 : Int32} {x3 : Int32} {x4 : Int32} {h : Hp} {Φ : Ou → Hp → Prop} (q : OK (F_X12_oddsFrom E a0 x1 x2 x3 x4 h) Φ) : CE E mX12_oddsFrom (d + 8) [.ref a0, .int x1, .int x2, .int x3, .int x4] h 0 0 Φ := by
  show WE E mX12_oddsFrom (d + 8) 0 [some (.ref a0), some (.int x1), some (.int x2), some (.int x3), some (.int x4), none] [] h 0 0 Φ
  refine r_aload_n eX12_oddsFrom_0 rfl ?_
  refine r_iload eX12_oddsFrom_1 rfl ?_
  refine t_virtV (As := [_]) (rest := []) (d' := d + 1 + 6) (ci := 12) eX12_oddsFrom_3 k_12_193 rfl rfl rfl (by omega) (Nat.le_of_ble_eq_true rfl) (Nat.le_of_ble_eq_true rfl) (fun _ q => s_X12_lay q) q (fun h3 q => ?_)
  refine r_iconst (v := (0)) eX12_oddsFrom_6 (by decide) ?_
  refine r_istore (lv' := [_, _, _, _, _, _]) eX12_oddsFrom_7 (Nat.le_of_ble_eq_true rfl) rfl ?_
  exact sL_X12_oddsFrom_9  _ _ _ q
theorem s_X12_odds {E : Ev} {d : Nat} {a0 : Nat} {x1 : Int32} {x2 : Int32} {x3 : Int32} {x4 : Int32} {x5 : Int32} {h : Hp} {Φ : Ou → Hp → Prop} (q : OK (F_X12_odds E a0 x1 x2 x3 x4 x5 h) Φ) : CE E mX12_odds (d + 9) [.ref a0, .int x1, .int x2, .int x3, .int x4, .int x5] h 0 0 Φ := by
  show WE E mX12_odds (d + 9) 0 [some (.ref a0), some (.int x1), some (.int x2), some (.int x3), some (.int x4), some (.int x5)] [] h 0 0 Φ
  refine r_aload_n eX12_odds_0 rfl ?_
  refine r_iconst (v := (0)) eX12_odds_1 (by decide) ?_
  refine t_pf eX12_odds_2 p_12_97 rfl rfl (fun q => by cases q) q (fun h2 q => ?_)
  refine r_aload_n eX12_odds_5 rfl ?_
  refine r_iload_n eX12_odds_6 rfl ?_
  refine r_iload_n eX12_odds_7 rfl ?_
  refine r_iload_n eX12_odds_8 rfl ?_
  refine t_virtI (As := [_, _, _]) (rest := []) (d' := d + 5 + 3) (ci := 12) eX12_odds_9 k_12_441 rfl rfl rfl (by omega) (Nat.le_of_ble_eq_true rfl) (Nat.le_of_ble_eq_true rfl) (fun _ q => s_X12_areThere q) q (fun v9 h9 q => ?_)
  refine t_if_eq eX12_odds_12 (t := 24) (by decide) q (fun q => ?_) (fun q => ?_)
  · refine r_aload_n eX12_odds_24 rfl ?_
    refine r_iconst (v := (1)) eX12_odds_25 (by decide) ?_
    refine t_virtI (As := [_]) (rest := []) (d' := d + 8 + 0) (ci := 12) eX12_odds_26 k_12_114 rfl rfl rfl (by omega) (Nat.le_of_ble_eq_true rfl) (Nat.le_of_ble_eq_true rfl) (fun _ q => s_X12_fails q) q (fun v26 h26 q => ?_)
    exact t_rtI eX12_odds_29 rfl q
  refine r_aload_n eX12_odds_15 rfl ?_
  refine r_iload eX12_odds_16 rfl ?_
  refine t_virtI (As := [_]) (rest := []) (d' := d + 6 + 2) (ci := 12) eX12_odds_18 k_12_121 rfl rfl rfl (by omega) (Nat.le_of_ble_eq_true rfl) (Nat.le_of_ble_eq_true rfl) (fun _ q => s_X12_isPlace q) q (fun v18 h18 q => ?_)
  refine t_if_ne eX12_odds_21 (t := 30) (by decide) q (fun q => ?_) (fun q => ?_)
  · refine r_iload eX12_odds_30 rfl ?_
    refine t_statI (As := [_]) (rest := []) (d' := d + 7 + 1) eX12_odds_32 k_12_127 rfl (by omega) (Nat.le_of_ble_eq_true rfl) (Nat.le_of_ble_eq_true rfl) (fun _ q => s_X12_isYear q) q (fun v32 h32 q => ?_)
    refine t_if_ne eX12_odds_35 (t := 44) (by decide) q (fun q => ?_) (fun q => ?_)
    · refine r_aload_n eX12_odds_44 rfl ?_
      refine r_iload_n eX12_odds_45 rfl ?_
      refine r_iload_n eX12_odds_46 rfl ?_
      refine r_iload_n eX12_odds_47 rfl ?_
      refine r_iload eX12_odds_48 rfl ?_
      refine t_virtV (As := [_, _, _, _]) (rest := []) (d' := d + 0 + 8) (ci := 12) eX12_odds_50 k_12_455 rfl rfl rfl (by omega) (Nat.le_of_ble_eq_true rfl) (Nat.le_of_ble_eq_true rfl) (fun _ q => s_X12_oddsFrom q) q (fun h50 q => ?_)
      refine r_aload_n eX12_odds_53 rfl ?_
      refine r_iload eX12_odds_54 rfl ?_
      refine t_virtI (As := [_]) (rest := []) (d' := d + 5 + 3) (ci := 12) eX12_odds_56 k_12_458 rfl rfl rfl (by omega) (Nat.le_of_ble_eq_true rfl) (Nat.le_of_ble_eq_true rfl) (fun _ q => s_X12_shareAt q) q (fun v56 h56 q => ?_)
      exact t_rtI eX12_odds_59 rfl q
    refine r_aload_n eX12_odds_38 rfl ?_
    refine r_iconst (v := (2)) eX12_odds_39 (by decide) ?_
    refine t_virtI (As := [_]) (rest := []) (d' := d + 8 + 0) (ci := 12) eX12_odds_40 k_12_114 rfl rfl rfl (by omega) (Nat.le_of_ble_eq_true rfl) (Nat.le_of_ble_eq_true rfl) (fun _ q => s_X12_fails q) q (fun v40 h40 q => ?_)
    exact t_rtI eX12_odds_43 rfl q
  refine r_aload_n eX12_odds_24 rfl ?_
  refine r_iconst (v := (1)) eX12_odds_25 (by decide) ?_
  refine t_virtI (As := [_]) (rest := []) (d' := d + 8 + 0) (ci := 12) eX12_odds_26 k_12_114 rfl rfl rfl (by omega) (Nat.le_of_ble_eq_true rfl) (Nat.le_of_ble_eq_true rfl) (fun _ q => s_X12_fails q) q (fun v26 h26 q => ?_)
  exact t_rtI eX12_odds_29 rfl q
theorem sL_X12_parts_64 {E : Ev} {d kc ks : Nat} {Φ : Ou → Hp → Prop} {y0 : Nat} {y1 : Int32} {y2 : Int32} {y3 : Int32} {y4 : Int32} {y5 : Int32} {y6 : Int32} {K133 : Hp → Rs} (hK133 : ∀ (w7 : Int32) (h : Hp), OK (K133 h) Φ → WE E mX12_parts (d + 8) 133 [some (.ref y0), some (.int y1), some (.int y2), some (.int y3), some (.int y4), some (.int y5), some (.int y6), some (.int w7)] [] h kc ks Φ) : ∀ (g : Nat) (y7 : Int32) (h : Hp), OK (L_X12_parts_64 E K133 y0 y2 y4 y5 g y7 h) Φ → WE E mX12_parts (d + 8) 64 [some (.ref y0), some (.int y1), some (.int y2), some (.int y3), some (.int y4), some (.int y5), some (.int y6), some (.int y7)] [] h kc ks Φ := by
  intro g
  induction g with
  | zero => intro y7 h q; exact q.elim
  | succ g ih =>
    intro y7 h q
    refine r_iload eX12_parts_64 rfl ?_
    refine r_sipush (v := (240)) eX12_parts_66 (by decide) ?_
    refine t_icmp_ge eX12_parts_69 (t := 133) (by decide) q (fun q => ?_) (fun q => ?_)
    · exact hK133 _ _ q
    refine r_aload_n eX12_parts_72 rfl ?_
    refine t_gfR eX12_parts_73 f_12_61 q (fun v73 q => ?_)
    refine r_iconst (v := (0)) eX12_parts_76 (by decide) ?_
    refine r_iload eX12_parts_77 rfl ?_
    refine t_statI (As := [_, _, _]) (rest := []) (d' := d + 7 + 0) eX12_parts_79 k_12_185 rfl (by omega) (Nat.le_of_ble_eq_true rfl) (Nat.le_of_ble_eq_true rfl) (fun _ q => s_X12_has q) q (fun v79 h79 q => ?_)
    refine t_if_eq eX12_parts_82 (t := 127) (by decide) q (fun q => ?_) (fun q => ?_)
    · refine r_iinc (v := (1)) (lv' := [_, _, _, _, _, _, _, _]) eX12_parts_127 rfl (by decide) rfl ?_
      refine r_goto (t := 64) eX12_parts_130 (by decide) ?_
      exact ih _ _ q
    refine r_aload_n eX12_parts_85 rfl ?_
    refine r_iload_n eX12_parts_86 rfl ?_
    refine r_iload eX12_parts_87 rfl ?_
    refine r_aload_n eX12_parts_89 rfl ?_
    refine r_iload eX12_parts_90 rfl ?_
    refine t_virtI (As := [_]) (rest := [_, _, _]) (d' := d + 5 + 2) (ci := 12) eX12_parts_92 k_12_143 rfl rfl rfl (by omega) (Nat.le_of_ble_eq_true rfl) (Nat.le_of_ble_eq_true rfl) (fun _ q => s_X12_placeOf q) q (fun v92 h92 q => ?_)
    refine r_iload eX12_parts_95 rfl ?_
    refine t_virtI (As := [_, _, _, _]) (rest := []) (d' := d + 4 + 3) (ci := 12) eX12_parts_97 k_12_228 rfl rfl rfl (by omega) (Nat.le_of_ble_eq_true rfl) (Nat.le_of_ble_eq_true rfl) (fun _ q => s_X12_isSeenAt q) q (fun v97 h97 q => ?_)
    refine t_if_ne eX12_parts_100 (t := 127) (by decide) q (fun q => ?_) (fun q => ?_)
    · refine r_iinc (v := (1)) (lv' := [_, _, _, _, _, _, _, _]) eX12_parts_127 rfl (by decide) rfl ?_
      refine r_goto (t := 64) eX12_parts_130 (by decide) ?_
      exact ih _ _ q
    refine r_aload_n eX12_parts_103 rfl ?_
    refine t_gfR eX12_parts_104 f_12_61 q (fun v104 q => ?_)
    refine r_iload eX12_parts_107 rfl ?_
    refine r_bipush (v := (6)) eX12_parts_109 (by decide) ?_
    refine r_ishr eX12_parts_111 ?_
    refine r_dup2 eX12_parts_112 rfl rfl ?_
    refine t_gaL eX12_parts_113 q (fun v113 q => ?_)
    refine r_lconst (v := 1) eX12_parts_114 rfl ?_
    refine r_iload eX12_parts_115 rfl ?_
    refine r_bipush (v := (63)) eX12_parts_117 (by decide) ?_
    refine r_iand eX12_parts_119 ?_
    refine r_lshl eX12_parts_120 ?_
    refine r_ldc2 eX12_parts_121 g_12_415 ?_
    refine r_lxor eX12_parts_124 ?_
    refine r_land eX12_parts_125 ?_
    refine t_paL eX12_parts_126 q (fun h126 q => ?_)
    refine r_iinc (v := (1)) (lv' := [_, _, _, _, _, _, _, _]) eX12_parts_127 rfl (by decide) rfl ?_
    refine r_goto (t := 64) eX12_parts_130 (by decide) ?_
    exact ih _ _ q
theorem sL_X12_parts_38 {E : Ev} {d kc ks : Nat} {Φ : Ou → Hp → Prop} {y0 : Nat} {y1 : Int32} {y2 : Int32} {y3 : Int32} {y4 : Int32}  : ∀ (g : Nat) (y5 : Int32) (y6 : Option Value) (y7 : Option Value) (h : Hp), OK (L_X12_parts_38 E y0 y1 y2 y3 y4 g y5 h) Φ → WE E mX12_parts (d + 8) 38 [some (.ref y0), some (.int y1), some (.int y2), some (.int y3), some (.int y4), some (.int y5), y6, y7] [] h kc ks Φ := by
  intro g
  induction g with
  | zero => intro y5 y6 y7 h q; exact q.elim
  | succ g ih =>
    intro y5 y6 y7 h q
    refine r_iload eX12_parts_38 rfl ?_
    refine r_bipush (v := (12)) eX12_parts_40 (by decide) ?_
    refine t_icmp_ge eX12_parts_42 (t := 167) (by decide) q (fun q => ?_) (fun q => ?_)
    · refine r_iconst (v := (-1)) eX12_parts_167 (by decide) ?_
      exact t_rtI eX12_parts_168 rfl q
    refine r_aload_n eX12_parts_45 rfl ?_
    refine r_iload_n eX12_parts_46 rfl ?_
    refine r_iload_n eX12_parts_47 rfl ?_
    refine r_iload_n eX12_parts_48 rfl ?_
    refine r_iload eX12_parts_49 rfl ?_
    refine r_aload_n eX12_parts_51 rfl ?_
    refine r_iload_n eX12_parts_52 rfl ?_
    refine t_virtI (As := [_]) (rest := [_, _, _, _, _]) (d' := d + 7 + 0) (ci := 12) eX12_parts_53 k_12_374 rfl rfl rfl (by omega) (Nat.le_of_ble_eq_true rfl) (Nat.le_of_ble_eq_true rfl) (fun _ q => s_X12_sayingsOf q) q (fun v53 h53 q => ?_)
    refine t_virtI (As := [_, _, _, _, _]) (rest := []) (d' := d + 0 + 7) (ci := 12) eX12_parts_56 k_12_430 rfl rfl rfl (by omega) (Nat.le_of_ble_eq_true rfl) (Nat.le_of_ble_eq_true rfl) (fun _ q => s_X12_goes q) q (fun v56 h56 q => ?_)
    refine r_istore (lv' := [_, _, _, _, _, _, _, _]) eX12_parts_59 (Nat.le_of_ble_eq_true rfl) rfl ?_
    refine r_iconst (v := (0)) eX12_parts_61 (by decide) ?_
    refine r_istore (lv' := [_, _, _, _, _, _, _, _]) eX12_parts_62 (Nat.le_of_ble_eq_true rfl) rfl ?_
    refine sL_X12_parts_64 (fun w1 h2 q => ?_) _ _ _ q
    refine r_aload_n eX12_parts_133 rfl ?_
    refine r_aload_n eX12_parts_134 rfl ?_
    refine t_gfR eX12_parts_135 f_12_67 q (fun v135 q => ?_)
    refine t_virtI (As := [_]) (rest := []) (d' := d + 4 + 3) (ci := 12) eX12_parts_138 k_12_434 rfl rfl rfl (by omega) (Nat.le_of_ble_eq_true rfl) (Nat.le_of_ble_eq_true rfl) (fun _ q => s_X12_placesOf q) q (fun v138 h138 q => ?_)
    refine r_iconst (v := (1)) eX12_parts_141 (by decide) ?_
    refine t_icmp_ne eX12_parts_142 (t := 161) (by decide) q (fun q => ?_) (fun q => ?_)
    · refine r_iinc (v := (1)) (lv' := [_, _, _, _, _, _, _, _]) eX12_parts_161 rfl (by decide) rfl ?_
      refine r_goto (t := 38) eX12_parts_164 (by decide) ?_
      exact ih _ _ _ _ q
    refine r_aload_n eX12_parts_145 rfl ?_
    refine t_gfR eX12_parts_146 f_12_67 q (fun v146 q => ?_)
    refine r_aload_n eX12_parts_149 rfl ?_
    refine r_iload_n eX12_parts_150 rfl ?_
    refine t_virtI (As := [_]) (rest := [_]) (d' := d + 7 + 0) (ci := 12) eX12_parts_151 k_12_438 rfl rfl rfl (by omega) (Nat.le_of_ble_eq_true rfl) (Nat.le_of_ble_eq_true rfl) (fun _ q => s_X12_goalOf q) q (fun v151 h151 q => ?_)
    refine t_gaZ eX12_parts_154 q (fun v154 q => ?_)
    refine t_if_eq eX12_parts_155 (t := 161) (by decide) q (fun q => ?_) (fun q => ?_)
    · refine r_iinc (v := (1)) (lv' := [_, _, _, _, _, _, _, _]) eX12_parts_161 rfl (by decide) rfl ?_
      refine r_goto (t := 38) eX12_parts_164 (by decide) ?_
      exact ih _ _ _ _ q
    refine r_iload eX12_parts_158 rfl ?_
    exact t_rtI eX12_parts_160 rfl q
theorem s_X12_parts {E : Ev} {d : Nat} {a0 : Nat} {x1 : Int32} {x2 : Int32} {x3 : Int32} {x4 : Int32} {h : Hp} {Φ : Ou → Hp → Prop} (q : OK (F_X12_parts E a0 x1 x2 x3 x4 h) Φ) : CE E mX12_parts (d + 8) [.ref a0, .int x1, .int x2, .int x3, .int x4] h 0 0 Φ := by
  show WE E mX12_parts (d + 8) 0 [some (.ref a0), some (.int x1), some (.int x2), some (.int x3), some (.int x4), none, none, none] [] h 0 0 Φ
  refine r_aload_n eX12_parts_0 rfl ?_
  refine r_iconst (v := (0)) eX12_parts_1 (by decide) ?_
  refine t_pf eX12_parts_2 p_12_97 rfl rfl (fun q => by cases q) q (fun h2 q => ?_)
  refine r_aload_n eX12_parts_5 rfl ?_
  refine r_iload_n eX12_parts_6 rfl ?_
  refine r_iload_n eX12_parts_7 rfl ?_
  refine r_iload_n eX12_parts_8 rfl ?_
  refine t_virtI (As := [_, _, _]) (rest := []) (d' := d + 4 + 3) (ci := 12) eX12_parts_9 k_12_441 rfl rfl rfl (by omega) (Nat.le_of_ble_eq_true rfl) (Nat.le_of_ble_eq_true rfl) (fun _ q => s_X12_areThere q) q (fun v9 h9 q => ?_)
  refine t_if_ne eX12_parts_12 (t := 21) (by decide) q (fun q => ?_) (fun q => ?_)
  · refine r_iload eX12_parts_21 rfl ?_
    refine t_statI (As := [_]) (rest := []) (d' := d + 6 + 1) eX12_parts_23 k_12_127 rfl (by omega) (Nat.le_of_ble_eq_true rfl) (Nat.le_of_ble_eq_true rfl) (fun _ q => s_X12_isYear q) q (fun v23 h23 q => ?_)
    refine t_if_ne eX12_parts_26 (t := 35) (by decide) q (fun q => ?_) (fun q => ?_)
    · refine r_iconst (v := (0)) eX12_parts_35 (by decide) ?_
      refine r_istore (lv' := [_, _, _, _, _, _, _, _]) eX12_parts_36 (Nat.le_of_ble_eq_true rfl) rfl ?_
      exact sL_X12_parts_38  _ _ _ _ _ q
    refine r_aload_n eX12_parts_29 rfl ?_
    refine r_iconst (v := (2)) eX12_parts_30 (by decide) ?_
    refine t_virtI (As := [_]) (rest := []) (d' := d + 7 + 0) (ci := 12) eX12_parts_31 k_12_114 rfl rfl rfl (by omega) (Nat.le_of_ble_eq_true rfl) (Nat.le_of_ble_eq_true rfl) (fun _ q => s_X12_fails q) q (fun v31 h31 q => ?_)
    exact t_rtI eX12_parts_34 rfl q
  refine r_aload_n eX12_parts_15 rfl ?_
  refine r_iconst (v := (1)) eX12_parts_16 (by decide) ?_
  refine t_virtI (As := [_]) (rest := []) (d' := d + 7 + 0) (ci := 12) eX12_parts_17 k_12_114 rfl rfl rfl (by omega) (Nat.le_of_ble_eq_true rfl) (Nat.le_of_ble_eq_true rfl) (fun _ q => s_X12_fails q) q (fun v17 h17 q => ?_)
  exact t_rtI eX12_parts_20 rfl q
