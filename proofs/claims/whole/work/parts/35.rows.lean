theorem s_X12_sideAt {E : Ev} {d : Nat} {x0 : Int32} {x1 : Int32} {x2 : Int32} {h : Hp} {Φ : Ou → Hp → Prop} (q : OK (F_X12_sideAt E x0 x1 x2 h) Φ) : CE E mX12_sideAt (d + 0) [.int x0, .int x1, .int x2] h 0 0 Φ := by
  show WE E mX12_sideAt (d + 0) 0 [some (.int x0), some (.int x1), some (.int x2)] [] h 0 0 Φ
  refine r_sipush (v := (960)) eX12_sideAt_0 (by decide) ?_
  refine r_iconst (v := (1)) eX12_sideAt_3 (by decide) ?_
  refine r_iload_n eX12_sideAt_4 rfl ?_
  refine r_iadd eX12_sideAt_5 ?_
  refine r_iload_n eX12_sideAt_6 rfl ?_
  refine t_if_eq eX12_sideAt_7 (t := 14) (by decide) q (fun q => ?_) (fun q => ?_)
  · refine r_iconst (v := (2)) eX12_sideAt_14 (by decide) ?_
    refine r_iadd eX12_sideAt_15 ?_
    refine r_imul eX12_sideAt_16 ?_
    refine r_iconst (v := (4)) eX12_sideAt_17 (by decide) ?_
    refine r_iload_n eX12_sideAt_18 rfl ?_
    refine r_imul eX12_sideAt_19 ?_
    refine r_iadd eX12_sideAt_20 ?_
    exact t_rtI eX12_sideAt_21 rfl q
  refine r_iconst (v := (0)) eX12_sideAt_10 (by decide) ?_
  refine r_goto (t := 15) eX12_sideAt_11 (by decide) ?_
  refine r_iadd eX12_sideAt_15 ?_
  refine r_imul eX12_sideAt_16 ?_
  refine r_iconst (v := (4)) eX12_sideAt_17 (by decide) ?_
  refine r_iload_n eX12_sideAt_18 rfl ?_
  refine r_imul eX12_sideAt_19 ?_
  refine r_iadd eX12_sideAt_20 ?_
  exact t_rtI eX12_sideAt_21 rfl q
theorem sJ_X12_layOne_113 {E : Ev} {d kc ks : Nat} {Φ : Ou → Hp → Prop} {y0 : Nat} {y1 : Int32} {y2 : Int32} {y3 : Int32} {y4 : Int32} {y5 : Int32} {t0 : Nat} {t1 : Int32} {h : Hp} {K5 : Int32 → Int32 → Hp → Rs} (hK5 : ∀ (w3 : Int32) (w4 : Int32) (w5 : Option Value) (h : Hp), OK (K5 w3 w4 h) Φ → WE E mX12_layOne (d + 5) 5 [some (.ref y0), some (.int y1), some (.int y2), some (.int w3), some (.int w4), w5, none] [] h kc ks Φ) (q : OK (J_X12_layOne_113 E K5 y0 y1 y2 y3 y4 t0 t1 h) Φ) : WE E mX12_layOne (d + 5) 113 [some (.ref y0), some (.int y1), some (.int y2), some (.int y3), some (.int y4), some (.int y5), none] [.int t1, .ref t0] h kc ks Φ := by
  refine r_iconst (v := (0)) eX12_layOne_113 (by decide) ?_
  refine r_iload_n eX12_layOne_114 rfl ?_
  refine t_statI (As := [_, _, _]) (rest := [_]) (d' := d + 4 + 0) eX12_layOne_115 k_12_174 rfl (by omega) (Nat.le_of_ble_eq_true rfl) (Nat.le_of_ble_eq_true rfl) (fun _ q => s_X12_sideAt q) q (fun v115 h115 q => ?_)
  refine r_iconst (v := (2)) eX12_layOne_118 (by decide) ?_
  refine r_iload eX12_layOne_119 rfl ?_
  refine r_imul eX12_layOne_121 ?_
  refine t_statV (As := [_, _, _]) (rest := []) (d' := d + 4 + 0) eX12_layOne_122 k_12_178 rfl (by omega) (Nat.le_of_ble_eq_true rfl) (Nat.le_of_ble_eq_true rfl) (fun _ q => s_X12_put q) q (fun h122 q => ?_)
  refine r_iinc (v := (1)) (lv' := [_, _, _, _, _, _, _]) eX12_layOne_125 rfl (by decide) rfl ?_
  refine r_goto (t := 5) eX12_layOne_128 (by decide) ?_
  exact hK5 _ _ _ _ q
theorem sJ_X12_layOne_74 {E : Ev} {d kc ks : Nat} {Φ : Ou → Hp → Prop} {y0 : Nat} {y1 : Int32} {y2 : Int32} {y3 : Int32} {y4 : Int32} {y5 : Int32} {t0 : Nat} {t1 : Int32} {h : Hp} {K5 : Int32 → Int32 → Hp → Rs} (hK5 : ∀ (w3 : Int32) (w4 : Int32) (w5 : Option Value) (h : Hp), OK (K5 w3 w4 h) Φ → WE E mX12_layOne (d + 5) 5 [some (.ref y0), some (.int y1), some (.int y2), some (.int w3), some (.int w4), w5, none] [] h kc ks Φ) (q : OK (J_X12_layOne_74 E K5 y0 y1 y2 y3 y4 y5 t0 t1 h) Φ) : WE E mX12_layOne (d + 5) 74 [some (.ref y0), some (.int y1), some (.int y2), some (.int y3), some (.int y4), some (.int y5), none] [.int t1, .ref t0] h kc ks Φ := by
  refine r_iconst (v := (1)) eX12_layOne_74 (by decide) ?_
  refine r_iload_n eX12_layOne_75 rfl ?_
  refine t_statI (As := [_, _, _]) (rest := [_]) (d' := d + 4 + 0) eX12_layOne_76 k_12_174 rfl (by omega) (Nat.le_of_ble_eq_true rfl) (Nat.le_of_ble_eq_true rfl) (fun _ q => s_X12_sideAt q) q (fun v76 h76 q => ?_)
  refine r_iconst (v := (2)) eX12_layOne_79 (by decide) ?_
  refine r_iload eX12_layOne_80 rfl ?_
  refine r_imul eX12_layOne_82 ?_
  refine t_statV (As := [_, _, _]) (rest := []) (d' := d + 4 + 0) eX12_layOne_83 k_12_178 rfl (by omega) (Nat.le_of_ble_eq_true rfl) (Nat.le_of_ble_eq_true rfl) (fun _ q => s_X12_put q) q (fun h83 q => ?_)
  refine r_aload_n eX12_layOne_86 rfl ?_
  refine r_iload eX12_layOne_87 rfl ?_
  refine r_iconst (v := (2)) eX12_layOne_89 (by decide) ?_
  refine t_dvI eX12_layOne_90 q (fun v90 q => ?_)
  refine r_iconst (v := (2)) eX12_layOne_91 (by decide) ?_
  refine t_virtI (As := [_, _]) (rest := []) (d' := d + 4 + 0) (ci := 12) eX12_layOne_92 k_12_130 rfl rfl rfl (by omega) (Nat.le_of_ble_eq_true rfl) (Nat.le_of_ble_eq_true rfl) (fun _ q => s_X12_wayOf q) q (fun v92 h92 q => ?_)
  refine r_iconst (v := (2)) eX12_layOne_95 (by decide) ?_
  refine t_icmp_eq eX12_layOne_96 (t := 125) (by decide) q (fun q => ?_) (fun q => ?_)
  · refine r_iinc (v := (1)) (lv' := [_, _, _, _, _, _, _]) eX12_layOne_125 rfl (by decide) rfl ?_
    refine r_goto (t := 5) eX12_layOne_128 (by decide) ?_
    exact hK5 _ _ _ _ q
  refine r_aload_n eX12_layOne_99 rfl ?_
  refine t_gfR eX12_layOne_100 f_12_24 q (fun v100 q => ?_)
  refine r_iload eX12_layOne_103 rfl ?_
  refine t_if_le eX12_layOne_105 (t := 112) (by decide) q (fun q => ?_) (fun q => ?_)
  · refine r_iconst (v := (1)) eX12_layOne_112 (by decide) ?_
    refine sJ_X12_layOne_113 (fun w1 w2 w3 h4 q => ?_) q
    exact hK5 _ _ _ _ q
  refine r_iconst (v := (0)) eX12_layOne_108 (by decide) ?_
  refine r_goto (t := 113) eX12_layOne_109 (by decide) ?_
  refine sJ_X12_layOne_113 (fun w5 w6 w7 h8 q => ?_) q
  exact hK5 _ _ _ _ q
theorem sL_X12_layOne_5 {E : Ev} {d kc ks : Nat} {Φ : Ou → Hp → Prop} {y0 : Nat} {y1 : Int32} {y2 : Int32} {K131 : Int32 → Hp → Rs} (hK131 : ∀ (w3 : Int32) (w4 : Int32) (w5 : Option Value) (h : Hp), OK (K131 w3 h) Φ → WE E mX12_layOne (d + 5) 131 [some (.ref y0), some (.int y1), some (.int y2), some (.int w3), some (.int w4), w5, none] [] h kc ks Φ) : ∀ (g : Nat) (y3 : Int32) (y4 : Int32) (y5 : Option Value) (h : Hp), OK (L_X12_layOne_5 E K131 y0 y1 y2 g y3 y4 h) Φ → WE E mX12_layOne (d + 5) 5 [some (.ref y0), some (.int y1), some (.int y2), some (.int y3), some (.int y4), y5, none] [] h kc ks Φ := by
  intro g
  induction g with
  | zero => intro y3 y4 y5 h q; exact q.elim
  | succ g ih =>
    intro y3 y4 y5 h q
    refine r_iload eX12_layOne_5 rfl ?_
    refine r_iconst (v := (2)) eX12_layOne_7 (by decide) ?_
    refine r_aload_n eX12_layOne_8 rfl ?_
    refine t_gfR eX12_layOne_9 f_12_9 q (fun v9 q => ?_)
    refine r_iconst (v := (1)) eX12_layOne_12 (by decide) ?_
    refine t_gaI eX12_layOne_13 q (fun v13 q => ?_)
    refine r_imul eX12_layOne_14 ?_
    refine t_icmp_ge eX12_layOne_15 (t := 131) (by decide) q (fun q => ?_) (fun q => ?_)
    · exact hK131 _ _ _ _ q
    refine r_aload_n eX12_layOne_18 rfl ?_
    refine r_iload_n eX12_layOne_19 rfl ?_
    refine r_iload eX12_layOne_20 rfl ?_
    refine r_iload_n eX12_layOne_22 rfl ?_
    refine t_virtI (As := [_, _, _]) (rest := []) (d' := d + 1 + 3) (ci := 12) eX12_layOne_23 k_12_163 rfl rfl rfl (by omega) (Nat.le_of_ble_eq_true rfl) (Nat.le_of_ble_eq_true rfl) (fun _ q => s_X12_isOut q) q (fun v23 h23 q => ?_)
    refine t_if_ne eX12_layOne_26 (t := 32) (by decide) q (fun q => ?_) (fun q => ?_)
    · refine r_aload_n eX12_layOne_32 rfl ?_
      refine t_gfR eX12_layOne_33 f_12_34 q (fun v33 q => ?_)
      refine r_iload_n eX12_layOne_36 rfl ?_
      refine r_iload eX12_layOne_37 rfl ?_
      refine t_paI eX12_layOne_39 q (fun h39 q => ?_)
      refine r_iinc (v := (1)) (lv' := [_, _, _, _, _, _, _]) eX12_layOne_40 rfl (by decide) rfl ?_
      refine r_aload_n eX12_layOne_43 rfl ?_
      refine r_iload_n eX12_layOne_44 rfl ?_
      refine r_iload eX12_layOne_45 rfl ?_
      refine t_virtI (As := [_, _]) (rest := []) (d' := d + 1 + 3) (ci := 12) eX12_layOne_47 k_12_167 rfl rfl rfl (by omega) (Nat.le_of_ble_eq_true rfl) (Nat.le_of_ble_eq_true rfl) (fun _ q => s_X12_cross q) q (fun v47 h47 q => ?_)
      refine r_istore (lv' := [_, _, _, _, _, _, _]) eX12_layOne_50 (Nat.le_of_ble_eq_true rfl) rfl ?_
      refine r_iload eX12_layOne_52 rfl ?_
      refine t_if_ne eX12_layOne_54 (t := 60) (by decide) q (fun q => ?_) (fun q => ?_)
      · refine r_aload_n eX12_layOne_60 rfl ?_
        refine t_gfR eX12_layOne_61 f_12_24 q (fun v61 q => ?_)
        refine r_iload eX12_layOne_64 rfl ?_
        refine t_if_le eX12_layOne_66 (t := 73) (by decide) q (fun q => ?_) (fun q => ?_)
        · refine r_iconst (v := (1)) eX12_layOne_73 (by decide) ?_
          refine sJ_X12_layOne_74 (fun w1 w2 w3 h4 q => ?_) q
          exact ih _ _ _ _ q
        refine r_iconst (v := (0)) eX12_layOne_69 (by decide) ?_
        refine r_goto (t := 74) eX12_layOne_70 (by decide) ?_
        refine sJ_X12_layOne_74 (fun w5 w6 w7 h8 q => ?_) q
        exact ih _ _ _ _ q
      refine r_goto (t := 125) eX12_layOne_57 (by decide) ?_
      refine r_iinc (v := (1)) (lv' := [_, _, _, _, _, _, _]) eX12_layOne_125 rfl (by decide) rfl ?_
      refine r_goto (t := 5) eX12_layOne_128 (by decide) ?_
      exact ih _ _ _ _ q
    refine r_goto (t := 125) eX12_layOne_29 (by decide) ?_
    refine r_iinc (v := (1)) (lv' := [_, _, _, _, _, _, _]) eX12_layOne_125 rfl (by decide) rfl ?_
    refine r_goto (t := 5) eX12_layOne_128 (by decide) ?_
    exact ih _ _ _ _ q
theorem sL_X12_layOne_146 {E : Ev} {d kc ks : Nat} {Φ : Ou → Hp → Prop} {y0 : Nat} {y1 : Int32} {y2 : Int32} {y3 : Int32} {y4 : Int32} {K192 : Int32 → Hp → Rs} (hK192 : ∀ (w5 : Int32) (w6 : Int32) (h : Hp), OK (K192 w5 h) Φ → WE E mX12_layOne (d + 5) 192 [some (.ref y0), some (.int y1), some (.int y2), some (.int y3), some (.int y4), some (.int w5), some (.int w6)] [] h kc ks Φ) : ∀ (g : Nat) (y5 : Int32) (y6 : Int32) (h : Hp), OK (L_X12_layOne_146 E K192 y0 y1 y3 y4 g y5 y6 h) Φ → WE E mX12_layOne (d + 5) 146 [some (.ref y0), some (.int y1), some (.int y2), some (.int y3), some (.int y4), some (.int y5), some (.int y6)] [] h kc ks Φ := by
  intro g
  induction g with
  | zero => intro y5 y6 h q; exact q.elim
  | succ g ih =>
    intro y5 y6 h q
    refine r_iload eX12_layOne_146 rfl ?_
    refine r_iload_n eX12_layOne_148 rfl ?_
    refine t_icmp_ge eX12_layOne_149 (t := 192) (by decide) q (fun q => ?_) (fun q => ?_)
    · exact hK192 _ _ _ q
    refine r_iload eX12_layOne_152 rfl ?_
    refine t_if_eq eX12_layOne_154 (t := 192) (by decide) q (fun q => ?_) (fun q => ?_)
    · exact hK192 _ _ _ q
    refine r_aload_n eX12_layOne_157 rfl ?_
    refine r_iload_n eX12_layOne_158 rfl ?_
    refine r_aload_n eX12_layOne_159 rfl ?_
    refine t_gfR eX12_layOne_160 f_12_34 q (fun v160 q => ?_)
    refine r_iload eX12_layOne_163 rfl ?_
    refine t_gaI eX12_layOne_165 q (fun v165 q => ?_)
    refine r_aload_n eX12_layOne_166 rfl ?_
    refine t_gfR eX12_layOne_167 f_12_34 q (fun v167 q => ?_)
    refine r_iload eX12_layOne_170 rfl ?_
    refine t_gaI eX12_layOne_172 q (fun v172 q => ?_)
    refine t_virtI (As := [_, _, _]) (rest := []) (d' := d + 0 + 4) (ci := 12) eX12_layOne_173 k_12_182 rfl rfl rfl (by omega) (Nat.le_of_ble_eq_true rfl) (Nat.le_of_ble_eq_true rfl) (fun _ q => s_X12_isLessTurned q) q (fun v173 h173 q => ?_)
    refine t_if_ne eX12_layOne_176 (t := 183) (by decide) q (fun q => ?_) (fun q => ?_)
    · refine r_iconst (v := (0)) eX12_layOne_183 (by decide) ?_
      refine r_istore (lv' := [_, _, _, _, _, _, _]) eX12_layOne_184 (Nat.le_of_ble_eq_true rfl) rfl ?_
      refine r_iinc (v := (1)) (lv' := [_, _, _, _, _, _, _]) eX12_layOne_186 rfl (by decide) rfl ?_
      refine r_goto (t := 146) eX12_layOne_189 (by decide) ?_
      exact ih _ _ _ q
    refine r_iconst (v := (1)) eX12_layOne_179 (by decide) ?_
    refine r_goto (t := 184) eX12_layOne_180 (by decide) ?_
    refine r_istore (lv' := [_, _, _, _, _, _, _]) eX12_layOne_184 (Nat.le_of_ble_eq_true rfl) rfl ?_
    refine r_iinc (v := (1)) (lv' := [_, _, _, _, _, _, _]) eX12_layOne_186 rfl (by decide) rfl ?_
    refine r_goto (t := 146) eX12_layOne_189 (by decide) ?_
    exact ih _ _ _ q
theorem sJ_X12_layOne_192 {E : Ev} {d kc ks : Nat} {Φ : Ou → Hp → Prop} {y0 : Nat} {y1 : Int32} {y2 : Int32} {y3 : Int32} {y4 : Int32} {y5 : Int32} {y6 : Int32} {h : Hp} {K134 : Int32 → Hp → Rs} (hK134 : ∀ (w4 : Int32) (w5 : Option Value) (w6 : Option Value) (h : Hp), OK (K134 w4 h) Φ → WE E mX12_layOne (d + 5) 134 [some (.ref y0), some (.int y1), some (.int y2), some (.int y3), some (.int w4), w5, w6] [] h kc ks Φ) (q : OK (J_X12_layOne_192 E K134 y0 y1 y3 y4 y5 h) Φ) : WE E mX12_layOne (d + 5) 192 [some (.ref y0), some (.int y1), some (.int y2), some (.int y3), some (.int y4), some (.int y5), some (.int y6)] [] h kc ks Φ := by
  refine r_iload eX12_layOne_192 rfl ?_
  refine t_if_eq eX12_layOne_194 (t := 218) (by decide) q (fun q => ?_) (fun q => ?_)
  · refine r_iinc (v := (1)) (lv' := [_, _, _, _, _, _, _]) eX12_layOne_218 rfl (by decide) rfl ?_
    refine r_goto (t := 134) eX12_layOne_221 (by decide) ?_
    exact hK134 _ _ _ _ q
  refine r_aload_n eX12_layOne_197 rfl ?_
  refine t_gfR eX12_layOne_198 f_12_24 q (fun v198 q => ?_)
  refine r_iconst (v := (0)) eX12_layOne_201 (by decide) ?_
  refine r_iconst (v := (4)) eX12_layOne_202 (by decide) ?_
  refine r_iload_n eX12_layOne_203 rfl ?_
  refine r_imul eX12_layOne_204 ?_
  refine r_iadd eX12_layOne_205 ?_
  refine r_iconst (v := (2)) eX12_layOne_206 (by decide) ?_
  refine r_aload_n eX12_layOne_207 rfl ?_
  refine t_gfR eX12_layOne_208 f_12_34 q (fun v208 q => ?_)
  refine r_iload eX12_layOne_211 rfl ?_
  refine t_gaI eX12_layOne_213 q (fun v213 q => ?_)
  refine r_imul eX12_layOne_214 ?_
  refine t_statV (As := [_, _, _]) (rest := []) (d' := d + 4 + 0) eX12_layOne_215 k_12_178 rfl (by omega) (Nat.le_of_ble_eq_true rfl) (Nat.le_of_ble_eq_true rfl) (fun _ q => s_X12_put q) q (fun h215 q => ?_)
  refine r_iinc (v := (1)) (lv' := [_, _, _, _, _, _, _]) eX12_layOne_218 rfl (by decide) rfl ?_
  refine r_goto (t := 134) eX12_layOne_221 (by decide) ?_
  exact hK134 _ _ _ _ q
theorem sL_X12_layOne_134 {E : Ev} {d kc ks : Nat} {Φ : Ou → Hp → Prop} {y0 : Nat} {y1 : Int32} {y2 : Int32} {y3 : Int32}  : ∀ (g : Nat) (y4 : Int32) (y5 : Option Value) (y6 : Option Value) (h : Hp), OK (L_X12_layOne_134 E y0 y1 y3 g y4 h) Φ → WE E mX12_layOne (d + 5) 134 [some (.ref y0), some (.int y1), some (.int y2), some (.int y3), some (.int y4), y5, y6] [] h kc ks Φ := by
  intro g
  induction g with
  | zero => intro y4 y5 y6 h q; exact q.elim
  | succ g ih =>
    intro y4 y5 y6 h q
    refine r_iload eX12_layOne_134 rfl ?_
    refine r_iload_n eX12_layOne_136 rfl ?_
    refine t_icmp_ge eX12_layOne_137 (t := 224) (by decide) q (fun q => ?_) (fun q => ?_)
    · exact t_rtV eX12_layOne_224 rfl q
    refine r_iconst (v := (1)) eX12_layOne_140 (by decide) ?_
    refine r_istore (lv' := [_, _, _, _, _, _, _]) eX12_layOne_141 (Nat.le_of_ble_eq_true rfl) rfl ?_
    refine r_iconst (v := (0)) eX12_layOne_143 (by decide) ?_
    refine r_istore (lv' := [_, _, _, _, _, _, _]) eX12_layOne_144 (Nat.le_of_ble_eq_true rfl) rfl ?_
    refine sL_X12_layOne_146 (fun w1 w2 h3 q => ?_) _ _ _ _ q
    refine sJ_X12_layOne_192 (fun w4 w5 w6 h7 q => ?_) q
    exact ih _ _ _ _ q
theorem s_X12_layOne {E : Ev} {d : Nat} {a0 : Nat} {x1 : Int32} {x2 : Int32} {h : Hp} {Φ : Ou → Hp → Prop} (q : OK (F_X12_layOne E a0 x1 x2 h) Φ) : CE E mX12_layOne (d + 5) [.ref a0, .int x1, .int x2] h 0 0 Φ := by
  show WE E mX12_layOne (d + 5) 0 [some (.ref a0), some (.int x1), some (.int x2), none, none, none, none] [] h 0 0 Φ
  refine r_iconst (v := (0)) eX12_layOne_0 (by decide) ?_
  refine r_istore_n (lv' := [_, _, _, _, _, _, _]) eX12_layOne_1 (Nat.le_of_ble_eq_true rfl) rfl ?_
  refine r_iconst (v := (0)) eX12_layOne_2 (by decide) ?_
  refine r_istore (lv' := [_, _, _, _, _, _, _]) eX12_layOne_3 (Nat.le_of_ble_eq_true rfl) rfl ?_
  refine sL_X12_layOne_5 (fun w1 w2 w3 h4 q => ?_) _ _ _ _ _ q
  refine r_iconst (v := (0)) eX12_layOne_131 (by decide) ?_
  refine r_istore (lv' := [_, _, _, _, _, _, _]) eX12_layOne_132 (Nat.le_of_ble_eq_true rfl) rfl ?_
  exact sL_X12_layOne_134  _ _ _ _ _ q
theorem sL_X12_lay_16 {E : Ev} {d kc ks : Nat} {Φ : Ou → Hp → Prop} {y0 : Nat} {y1 : Int32} {K38 : Hp → Rs} (hK38 : ∀ (w2 : Int32) (h : Hp), OK (K38 h) Φ → WE E mX12_lay (d + 6) 38 [some (.ref y0), some (.int y1), some (.int w2)] [] h kc ks Φ) : ∀ (g : Nat) (y2 : Int32) (h : Hp), OK (L_X12_lay_16 E K38 y0 g y2 h) Φ → WE E mX12_lay (d + 6) 16 [some (.ref y0), some (.int y1), some (.int y2)] [] h kc ks Φ := by
  intro g
  induction g with
  | zero => intro y2 h q; exact q.elim
  | succ g ih =>
    intro y2 h q
    refine r_iload_n eX12_lay_16 rfl ?_
    refine r_aload_n eX12_lay_17 rfl ?_
    refine t_gfR eX12_lay_18 f_12_24 q (fun v18 q => ?_)
    refine t_aln eX12_lay_21 (by decide) q (fun v21 q => ?_)
    refine t_icmp_ge eX12_lay_22 (t := 38) (by decide) q (fun q => ?_) (fun q => ?_)
    · exact hK38 _ _ q
    refine r_aload_n eX12_lay_25 rfl ?_
    refine t_gfR eX12_lay_26 f_12_24 q (fun v26 q => ?_)
    refine r_iload_n eX12_lay_29 rfl ?_
    refine r_lconst (v := 0) eX12_lay_30 rfl ?_
    refine t_paL eX12_lay_31 q (fun h31 q => ?_)
    refine r_iinc (v := (1)) (lv' := [_, _, _]) eX12_lay_32 rfl (by decide) rfl ?_
    refine r_goto (t := 16) eX12_lay_35 (by decide) ?_
    exact ih _ _ q
theorem sL_X12_lay_40 {E : Ev} {d kc ks : Nat} {Φ : Ou → Hp → Prop} {y0 : Nat} {y1 : Int32} {K62 : Hp → Rs} (hK62 : ∀ (w2 : Int32) (h : Hp), OK (K62 h) Φ → WE E mX12_lay (d + 6) 62 [some (.ref y0), some (.int y1), some (.int w2)] [] h kc ks Φ) : ∀ (g : Nat) (y2 : Int32) (h : Hp), OK (L_X12_lay_40 E K62 y0 g y2 h) Φ → WE E mX12_lay (d + 6) 40 [some (.ref y0), some (.int y1), some (.int y2)] [] h kc ks Φ := by
  intro g
  induction g with
  | zero => intro y2 h q; exact q.elim
  | succ g ih =>
    intro y2 h q
    refine r_iload_n eX12_lay_40 rfl ?_
    refine r_aload_n eX12_lay_41 rfl ?_
    refine t_gfR eX12_lay_42 f_12_31 q (fun v42 q => ?_)
    refine t_aln eX12_lay_45 (by decide) q (fun v45 q => ?_)
    refine t_icmp_ge eX12_lay_46 (t := 62) (by decide) q (fun q => ?_) (fun q => ?_)
    · exact hK62 _ _ q
    refine r_aload_n eX12_lay_49 rfl ?_
    refine t_gfR eX12_lay_50 f_12_31 q (fun v50 q => ?_)
    refine r_iload_n eX12_lay_53 rfl ?_
    refine r_iconst (v := (0)) eX12_lay_54 (by decide) ?_
    refine t_paZ eX12_lay_55 q (fun h55 q => ?_)
    refine r_iinc (v := (1)) (lv' := [_, _, _]) eX12_lay_56 rfl (by decide) rfl ?_
    refine r_goto (t := 40) eX12_lay_59 (by decide) ?_
    exact ih _ _ q
theorem sL_X12_lay_64 {E : Ev} {d kc ks : Nat} {Φ : Ou → Hp → Prop} {y0 : Nat} {y1 : Int32}  : ∀ (g : Nat) (y2 : Int32) (h : Hp), OK (L_X12_lay_64 E y0 y1 g y2 h) Φ → WE E mX12_lay (d + 6) 64 [some (.ref y0), some (.int y1), some (.int y2)] [] h kc ks Φ := by
  intro g
  induction g with
  | zero => intro y2 h q; exact q.elim
  | succ g ih =>
    intro y2 h q
    refine r_iload_n eX12_lay_64 rfl ?_
    refine r_iconst (v := (4)) eX12_lay_65 (by decide) ?_
    refine r_aload_n eX12_lay_66 rfl ?_
    refine t_gfR eX12_lay_67 f_12_9 q (fun v67 q => ?_)
    refine r_iconst (v := (1)) eX12_lay_70 (by decide) ?_
    refine t_gaI eX12_lay_71 q (fun v71 q => ?_)
    refine r_imul eX12_lay_72 ?_
    refine t_icmp_ge eX12_lay_73 (t := 88) (by decide) q (fun q => ?_) (fun q => ?_)
    · exact t_rtV eX12_lay_88 rfl q
    refine r_aload_n eX12_lay_76 rfl ?_
    refine r_iload_n eX12_lay_77 rfl ?_
    refine r_iload_n eX12_lay_78 rfl ?_
    refine t_virtV (As := [_, _]) (rest := []) (d' := d + 0 + 5) (ci := 12) eX12_lay_79 k_12_170 rfl rfl rfl (by omega) (Nat.le_of_ble_eq_true rfl) (Nat.le_of_ble_eq_true rfl) (fun _ q => s_X12_layOne q) q (fun h79 q => ?_)
    refine r_iinc (v := (1)) (lv' := [_, _, _]) eX12_lay_82 rfl (by decide) rfl ?_
    refine r_goto (t := 64) eX12_lay_85 (by decide) ?_
    exact ih _ _ q
theorem s_X12_lay {E : Ev} {d : Nat} {a0 : Nat} {x1 : Int32} {h : Hp} {Φ : Ou → Hp → Prop} (q : OK (F_X12_lay E a0 x1 h) Φ) : CE E mX12_lay (d + 6) [.ref a0, .int x1] h 0 0 Φ := by
  show WE E mX12_lay (d + 6) 0 [some (.ref a0), some (.int x1), none] [] h 0 0 Φ
  refine r_aload_n eX12_lay_0 rfl ?_
  refine t_gfI eX12_lay_1 f_12_20 q (fun v1 q => ?_)
  refine r_iload_n eX12_lay_4 rfl ?_
  refine t_icmp_ne eX12_lay_5 (t := 9) (by decide) q (fun q => ?_) (fun q => ?_)
  · refine r_aload_n eX12_lay_9 rfl ?_
    refine r_iload_n eX12_lay_10 rfl ?_
    refine t_pf eX12_lay_11 p_12_20 rfl rfl (fun q => by cases q) q (fun h11 q => ?_)
    refine r_iconst (v := (0)) eX12_lay_14 (by decide) ?_
    refine r_istore_n (lv' := [_, _, _]) eX12_lay_15 (Nat.le_of_ble_eq_true rfl) rfl ?_
    refine sL_X12_lay_16 (fun w1 h2 q => ?_) _ _ _ q
    refine r_iconst (v := (0)) eX12_lay_38 (by decide) ?_
    refine r_istore_n (lv' := [_, _, _]) eX12_lay_39 (Nat.le_of_ble_eq_true rfl) rfl ?_
    refine sL_X12_lay_40 (fun w3 h4 q => ?_) _ _ _ q
    refine r_iconst (v := (0)) eX12_lay_62 (by decide) ?_
    refine r_istore_n (lv' := [_, _, _]) eX12_lay_63 (Nat.le_of_ble_eq_true rfl) rfl ?_
    exact sL_X12_lay_64  _ _ _ q
  exact t_rtV eX12_lay_8 rfl q
theorem sL_X12_sizeOf_4 {E : Ev} {d kc ks : Nat} {Φ : Ou → Hp → Prop} {y0 : Nat} {y1 : Int32}  : ∀ (g : Nat) (y2 : Int32) (y3 : Int32) (h : Hp), OK (L_X12_sizeOf_4 E y0 y1 g y2 y3 h) Φ → WE E mX12_sizeOf (d + 1) 4 [some (.ref y0), some (.int y1), some (.int y2), some (.int y3)] [] h kc ks Φ := by
  intro g
  induction g with
  | zero => intro y2 y3 h q; exact q.elim
  | succ g ih =>
    intro y2 y3 h q
    refine r_iload_n eX12_sizeOf_4 rfl ?_
    refine r_sipush (v := (240)) eX12_sizeOf_5 (by decide) ?_
    refine t_icmp_ge eX12_sizeOf_8 (t := 34) (by decide) q (fun q => ?_) (fun q => ?_)
    · refine r_iload_n eX12_sizeOf_34 rfl ?_
      exact t_rtI eX12_sizeOf_35 rfl q
    refine r_iload_n eX12_sizeOf_11 rfl ?_
    refine r_aload_n eX12_sizeOf_12 rfl ?_
    refine r_iload_n eX12_sizeOf_13 rfl ?_
    refine r_iload_n eX12_sizeOf_14 rfl ?_
    refine t_statI (As := [_, _, _]) (rest := [_]) (d' := d + 0 + 0) eX12_sizeOf_15 k_12_185 rfl (by omega) (Nat.le_of_ble_eq_true rfl) (Nat.le_of_ble_eq_true rfl) (fun _ q => s_X12_has q) q (fun v15 h15 q => ?_)
    refine t_if_eq eX12_sizeOf_18 (t := 25) (by decide) q (fun q => ?_) (fun q => ?_)
    · refine r_iconst (v := (0)) eX12_sizeOf_25 (by decide) ?_
      refine r_iadd eX12_sizeOf_26 ?_
      refine r_istore_n (lv' := [_, _, _, _]) eX12_sizeOf_27 (Nat.le_of_ble_eq_true rfl) rfl ?_
      refine r_iinc (v := (1)) (lv' := [_, _, _, _]) eX12_sizeOf_28 rfl (by decide) rfl ?_
      refine r_goto (t := 4) eX12_sizeOf_31 (by decide) ?_
      exact ih _ _ _ q
    refine r_iconst (v := (1)) eX12_sizeOf_21 (by decide) ?_
    refine r_goto (t := 26) eX12_sizeOf_22 (by decide) ?_
    refine r_iadd eX12_sizeOf_26 ?_
    refine r_istore_n (lv' := [_, _, _, _]) eX12_sizeOf_27 (Nat.le_of_ble_eq_true rfl) rfl ?_
    refine r_iinc (v := (1)) (lv' := [_, _, _, _]) eX12_sizeOf_28 rfl (by decide) rfl ?_
    refine r_goto (t := 4) eX12_sizeOf_31 (by decide) ?_
    exact ih _ _ _ q
theorem s_X12_sizeOf {E : Ev} {d : Nat} {a0 : Nat} {x1 : Int32} {h : Hp} {Φ : Ou → Hp → Prop} (q : OK (F_X12_sizeOf E a0 x1 h) Φ) : CE E mX12_sizeOf (d + 1) [.ref a0, .int x1] h 0 0 Φ := by
  show WE E mX12_sizeOf (d + 1) 0 [some (.ref a0), some (.int x1), none, none] [] h 0 0 Φ
  refine r_iconst (v := (0)) eX12_sizeOf_0 (by decide) ?_
  refine r_istore_n (lv' := [_, _, _, _]) eX12_sizeOf_1 (Nat.le_of_ble_eq_true rfl) rfl ?_
  refine r_iconst (v := (0)) eX12_sizeOf_2 (by decide) ?_
  refine r_istore_n (lv' := [_, _, _, _]) eX12_sizeOf_3 (Nat.le_of_ble_eq_true rfl) rfl ?_
  exact sL_X12_sizeOf_4  _ _ _ _ q
theorem sL_X12_numberOf_16 {E : Ev} {d kc ks : Nat} {Φ : Ou → Hp → Prop} {y0 : Nat} {y1 : Int32} {y2 : Int32}  : ∀ (g : Nat) (y3 : Int32) (y4 : Int32) (h : Hp), OK (L_X12_numberOf_16 E y0 y1 y2 g y3 y4 h) Φ → WE E mX12_numberOf (d + 2) 16 [some (.ref y0), some (.int y1), some (.int y2), some (.int y3), some (.int y4)] [] h kc ks Φ := by
  intro g
  induction g with
  | zero => intro y3 y4 h q; exact q.elim
  | succ g ih =>
    intro y3 y4 h q
    refine r_iload eX12_numberOf_16 rfl ?_
    refine r_sipush (v := (240)) eX12_numberOf_18 (by decide) ?_
    refine t_icmp_ge eX12_numberOf_21 (t := 54) (by decide) q (fun q => ?_) (fun q => ?_)
    · refine r_iconst (v := (-1)) eX12_numberOf_54 (by decide) ?_
      exact t_rtI eX12_numberOf_55 rfl q
    refine r_aload_n eX12_numberOf_24 rfl ?_
    refine r_iload_n eX12_numberOf_25 rfl ?_
    refine r_iload eX12_numberOf_26 rfl ?_
    refine t_statI (As := [_, _, _]) (rest := []) (d' := d + 1 + 0) eX12_numberOf_28 k_12_185 rfl (by omega) (Nat.le_of_ble_eq_true rfl) (Nat.le_of_ble_eq_true rfl) (fun _ q => s_X12_has q) q (fun v28 h28 q => ?_)
    refine t_if_ne eX12_numberOf_31 (t := 37) (by decide) q (fun q => ?_) (fun q => ?_)
    · refine r_iload_n eX12_numberOf_37 rfl ?_
      refine r_iload_n eX12_numberOf_38 rfl ?_
      refine t_icmp_ne eX12_numberOf_39 (t := 45) (by decide) q (fun q => ?_) (fun q => ?_)
      · refine r_iinc (v := (1)) (lv' := [_, _, _, _, _]) eX12_numberOf_45 rfl (by decide) rfl ?_
        refine r_iinc (v := (1)) (lv' := [_, _, _, _, _]) eX12_numberOf_48 rfl (by decide) rfl ?_
        refine r_goto (t := 16) eX12_numberOf_51 (by decide) ?_
        exact ih _ _ _ q
      refine r_iload eX12_numberOf_42 rfl ?_
      exact t_rtI eX12_numberOf_44 rfl q
    refine r_goto (t := 48) eX12_numberOf_34 (by decide) ?_
    refine r_iinc (v := (1)) (lv' := [_, _, _, _, _]) eX12_numberOf_48 rfl (by decide) rfl ?_
    refine r_goto (t := 16) eX12_numberOf_51 (by decide) ?_
    exact ih _ _ _ q
theorem s_X12_numberOf {E : Ev} {d : Nat} {a0 : Nat} {x1 : Int32} {x2 : Int32} {h : Hp} {Φ : Ou → Hp → Prop} (q : OK (F_X12_numberOf E a0 x1 x2 h) Φ) : CE E mX12_numberOf (d + 2) [.ref a0, .int x1, .int x2] h 0 0 Φ := by
  show WE E mX12_numberOf (d + 2) 0 [some (.ref a0), some (.int x1), some (.int x2), none, none] [] h 0 0 Φ
  refine r_iload_n eX12_numberOf_0 rfl ?_
  refine r_iconst (v := (-1)) eX12_numberOf_1 (by decide) ?_
  refine t_icmp_ne eX12_numberOf_2 (t := 11) (by decide) q (fun q => ?_) (fun q => ?_)
  · refine r_iconst (v := (0)) eX12_numberOf_11 (by decide) ?_
    refine r_istore_n (lv' := [_, _, _, _, _]) eX12_numberOf_12 (Nat.le_of_ble_eq_true rfl) rfl ?_
    refine r_iconst (v := (0)) eX12_numberOf_13 (by decide) ?_
    refine r_istore (lv' := [_, _, _, _, _]) eX12_numberOf_14 (Nat.le_of_ble_eq_true rfl) rfl ?_
    exact sL_X12_numberOf_16  _ _ _ _ q
  refine r_aload_n eX12_numberOf_5 rfl ?_
  refine r_iload_n eX12_numberOf_6 rfl ?_
  refine t_statI (As := [_, _]) (rest := []) (d' := d + 0 + 1) eX12_numberOf_7 k_12_189 rfl (by omega) (Nat.le_of_ble_eq_true rfl) (Nat.le_of_ble_eq_true rfl) (fun _ q => s_X12_sizeOf q) q (fun v7 h7 q => ?_)
  exact t_rtI eX12_numberOf_10 rfl q
theorem s_X12_on {E : Ev} {d : Nat} {a0 : Nat} {x1 : Int32} {x2 : Int32} {x3 : Int32} {h : Hp} {Φ : Ou → Hp → Prop} (q : OK (F_X12_on E a0 x1 x2 x3 h) Φ) : CE E mX12_on (d + 7) [.ref a0, .int x1, .int x2, .int x3] h 0 0 Φ := by
  show WE E mX12_on (d + 7) 0 [some (.ref a0), some (.int x1), some (.int x2), some (.int x3)] [] h 0 0 Φ
  refine r_aload_n eX12_on_0 rfl ?_
  refine r_iconst (v := (0)) eX12_on_1 (by decide) ?_
  refine t_pf eX12_on_2 p_12_97 rfl rfl (fun q => by cases q) q (fun h2 q => ?_)
  refine r_aload_n eX12_on_5 rfl ?_
  refine r_iload_n eX12_on_6 rfl ?_
  refine t_virtI (As := [_]) (rest := []) (d' := d + 5 + 1) (ci := 12) eX12_on_7 k_12_140 rfl rfl rfl (by omega) (Nat.le_of_ble_eq_true rfl) (Nat.le_of_ble_eq_true rfl) (fun _ q => s_X12_isState q) q (fun v7 h7 q => ?_)
  refine t_if_ne eX12_on_10 (t := 19) (by decide) q (fun q => ?_) (fun q => ?_)
  · refine r_iload_n eX12_on_19 rfl ?_
    refine t_statI (As := [_]) (rest := []) (d' := d + 5 + 1) eX12_on_20 k_12_127 rfl (by omega) (Nat.le_of_ble_eq_true rfl) (Nat.le_of_ble_eq_true rfl) (fun _ q => s_X12_isYear q) q (fun v20 h20 q => ?_)
    refine t_if_ne eX12_on_23 (t := 32) (by decide) q (fun q => ?_) (fun q => ?_)
    · refine r_aload_n eX12_on_32 rfl ?_
      refine r_iload_n eX12_on_33 rfl ?_
      refine t_virtV (As := [_]) (rest := []) (d' := d + 0 + 6) (ci := 12) eX12_on_34 k_12_193 rfl rfl rfl (by omega) (Nat.le_of_ble_eq_true rfl) (Nat.le_of_ble_eq_true rfl) (fun _ q => s_X12_lay q) q (fun h34 q => ?_)
      refine r_aload_n eX12_on_37 rfl ?_
      refine t_gfR eX12_on_38 f_12_24 q (fun v38 q => ?_)
      refine r_iconst (v := (0)) eX12_on_41 (by decide) ?_
      refine r_iconst (v := (4)) eX12_on_42 (by decide) ?_
      refine r_iload_n eX12_on_43 rfl ?_
      refine r_imul eX12_on_44 ?_
      refine r_iadd eX12_on_45 ?_
      refine r_iload_n eX12_on_46 rfl ?_
      refine t_statI (As := [_, _, _]) (rest := []) (d' := d + 4 + 2) eX12_on_47 k_12_197 rfl (by omega) (Nat.le_of_ble_eq_true rfl) (Nat.le_of_ble_eq_true rfl) (fun _ q => s_X12_numberOf q) q (fun v47 h47 q => ?_)
      exact t_rtI eX12_on_50 rfl q
    refine r_aload_n eX12_on_26 rfl ?_
    refine r_iconst (v := (2)) eX12_on_27 (by decide) ?_
    refine t_virtI (As := [_]) (rest := []) (d' := d + 6 + 0) (ci := 12) eX12_on_28 k_12_114 rfl rfl rfl (by omega) (Nat.le_of_ble_eq_true rfl) (Nat.le_of_ble_eq_true rfl) (fun _ q => s_X12_fails q) q (fun v28 h28 q => ?_)
    exact t_rtI eX12_on_31 rfl q
  refine r_aload_n eX12_on_13 rfl ?_
  refine r_iconst (v := (1)) eX12_on_14 (by decide) ?_
  refine t_virtI (As := [_]) (rest := []) (d' := d + 6 + 0) (ci := 12) eX12_on_15 k_12_114 rfl rfl rfl (by omega) (Nat.le_of_ble_eq_true rfl) (Nat.le_of_ble_eq_true rfl) (fun _ q => s_X12_fails q) q (fun v15 h15 q => ?_)
  exact t_rtI eX12_on_18 rfl q
theorem sL_X12_tongue_26 {E : Ev} {d kc ks : Nat} {Φ : Ou → Hp → Prop} {y0 : Nat} {y1 : Int32}  : ∀ (g : Nat) (y2 : Int32) (h : Hp), OK (L_X12_tongue_26 E y0 y1 g y2 h) Φ → WE E mX12_tongue (d + 1) 26 [some (.ref y0), some (.int y1), some (.int y2)] [] h kc ks Φ := by
  intro g
  induction g with
  | zero => intro y2 h q; exact q.elim
  | succ g ih =>
    intro y2 h q
    refine r_iload_n eX12_tongue_26 rfl ?_
    refine r_bipush (v := (12)) eX12_tongue_27 (by decide) ?_
    refine t_icmp_ge eX12_tongue_29 (t := 56) (by decide) q (fun q => ?_) (fun q => ?_)
    · refine r_iload_n eX12_tongue_56 rfl ?_
      exact t_rtI eX12_tongue_57 rfl q
    refine r_aload_n eX12_tongue_32 rfl ?_
    refine t_gfR eX12_tongue_33 f_12_9 q (fun v33 q => ?_)
    refine r_sipush (v := (650)) eX12_tongue_36 (by decide) ?_
    refine r_bipush (v := (12)) eX12_tongue_39 (by decide) ?_
    refine r_iload_n eX12_tongue_41 rfl ?_
    refine r_imul eX12_tongue_42 ?_
    refine r_iadd eX12_tongue_43 ?_
    refine r_iload_n eX12_tongue_44 rfl ?_
    refine r_iadd eX12_tongue_45 ?_
    refine r_iconst (v := (1)) eX12_tongue_46 (by decide) ?_
    refine r_iload_n eX12_tongue_47 rfl ?_
    refine r_ishl eX12_tongue_48 ?_
    refine t_paI eX12_tongue_49 q (fun h49 q => ?_)
    refine r_iinc (v := (1)) (lv' := [_, _, _]) eX12_tongue_50 rfl (by decide) rfl ?_
    refine r_goto (t := 26) eX12_tongue_53 (by decide) ?_
    exact ih _ _ q
theorem s_X12_tongue {E : Ev} {d : Nat} {a0 : Nat} {h : Hp} {Φ : Ou → Hp → Prop} (q : OK (F_X12_tongue E a0 h) Φ) : CE E mX12_tongue (d + 1) [.ref a0] h 0 0 Φ := by
  show WE E mX12_tongue (d + 1) 0 [some (.ref a0), none, none] [] h 0 0 Φ
  refine r_aload_n eX12_tongue_0 rfl ?_
  refine r_iconst (v := (0)) eX12_tongue_1 (by decide) ?_
  refine t_pf eX12_tongue_2 p_12_97 rfl rfl (fun q => by cases q) q (fun h2 q => ?_)
  refine r_aload_n eX12_tongue_5 rfl ?_
  refine t_gfR eX12_tongue_6 f_12_9 q (fun v6 q => ?_)
  refine r_iconst (v := (3)) eX12_tongue_9 (by decide) ?_
  refine t_gaI eX12_tongue_10 q (fun v10 q => ?_)
  refine r_bipush (v := (6)) eX12_tongue_11 (by decide) ?_
  refine t_icmp_ne eX12_tongue_13 (t := 18) (by decide) q (fun q => ?_) (fun q => ?_)
  · refine r_aload_n eX12_tongue_18 rfl ?_
    refine r_iconst (v := (3)) eX12_tongue_19 (by decide) ?_
    refine t_virtI (As := [_]) (rest := []) (d' := d + 0 + 0) (ci := 12) eX12_tongue_20 k_12_118 rfl rfl rfl (by omega) (Nat.le_of_ble_eq_true rfl) (Nat.le_of_ble_eq_true rfl) (fun _ q => s_X12_more q) q (fun v20 h20 q => ?_)
    refine r_istore_n (lv' := [_, _, _]) eX12_tongue_23 (Nat.le_of_ble_eq_true rfl) rfl ?_
    refine r_iconst (v := (0)) eX12_tongue_24 (by decide) ?_
    refine r_istore_n (lv' := [_, _, _]) eX12_tongue_25 (Nat.le_of_ble_eq_true rfl) rfl ?_
    exact sL_X12_tongue_26  _ _ _ q
  refine r_iconst (v := (-1)) eX12_tongue_16 (by decide) ?_
  exact t_rtI eX12_tongue_17 rfl q
theorem s_X12_means {E : Ev} {d : Nat} {a0 : Nat} {x1 : Int32} {x2 : Int32} {x3 : Int32} {h : Hp} {Φ : Ou → Hp → Prop} (q : OK (F_X12_means E a0 x1 x2 x3 h) Φ) : CE E mX12_means (d + 2) [.ref a0, .int x1, .int x2, .int x3] h 0 0 Φ := by
  show WE E mX12_means (d + 2) 0 [some (.ref a0), some (.int x1), some (.int x2), some (.int x3), none] [] h 0 0 Φ
  refine r_aload_n eX12_means_0 rfl ?_
  refine r_iconst (v := (0)) eX12_means_1 (by decide) ?_
  refine t_pf eX12_means_2 p_12_97 rfl rfl (fun q => by cases q) q (fun h2 q => ?_)
  refine r_aload_n eX12_means_5 rfl ?_
  refine r_iconst (v := (3)) eX12_means_6 (by decide) ?_
  refine r_iload_n eX12_means_7 rfl ?_
  refine t_virtI (As := [_, _]) (rest := []) (d' := d + 0 + 1) (ci := 12) eX12_means_8 k_12_106 rfl rfl rfl (by omega) (Nat.le_of_ble_eq_true rfl) (Nat.le_of_ble_eq_true rfl) (fun _ q => s_X12_is q) q (fun v8 h8 q => ?_)
  refine t_if_eq eX12_means_11 (t := 21) (by decide) q (fun q => ?_) (fun q => ?_)
  · refine r_aload_n eX12_means_21 rfl ?_
    refine r_iconst (v := (1)) eX12_means_22 (by decide) ?_
    refine t_virtI (As := [_]) (rest := []) (d' := d + 1 + 0) (ci := 12) eX12_means_23 k_12_114 rfl rfl rfl (by omega) (Nat.le_of_ble_eq_true rfl) (Nat.le_of_ble_eq_true rfl) (fun _ q => s_X12_fails q) q (fun v23 h23 q => ?_)
    exact t_rtI eX12_means_26 rfl q
  refine r_iload_n eX12_means_14 rfl ?_
  refine t_statI (As := [_]) (rest := []) (d' := d + 0 + 1) eX12_means_15 k_12_134 rfl (by omega) (Nat.le_of_ble_eq_true rfl) (Nat.le_of_ble_eq_true rfl) (fun _ q => s_X12_isName q) q (fun v15 h15 q => ?_)
  refine t_if_ne eX12_means_18 (t := 27) (by decide) q (fun q => ?_) (fun q => ?_)
  · refine r_iload_n eX12_means_27 rfl ?_
    refine r_i2l eX12_means_28 ?_
    refine r_lconst (v := 0) eX12_means_29 rfl ?_
    refine r_ldc2 eX12_means_30 g_12_201 ?_
    refine t_statI (As := [_, _, _]) (rest := []) (d' := d + 1 + 0) eX12_means_33 k_12_102 rfl (by omega) (Nat.le_of_ble_eq_true rfl) (Nat.le_of_ble_eq_true rfl) (fun _ q => s_X12_within q) q (fun v33 h33 q => ?_)
    refine t_if_ne eX12_means_36 (t := 45) (by decide) q (fun q => ?_) (fun q => ?_)
    · refine r_aload_n eX12_means_45 rfl ?_
      refine r_iconst (v := (-1)) eX12_means_46 (by decide) ?_
      refine t_pf eX12_means_47 p_12_20 rfl rfl (fun q => by cases q) q (fun h47 q => ?_)
      refine r_aload_n eX12_means_50 rfl ?_
      refine t_gfR eX12_means_51 f_12_9 q (fun v51 q => ?_)
      refine r_sipush (v := (650)) eX12_means_54 (by decide) ?_
      refine r_bipush (v := (12)) eX12_means_57 (by decide) ?_
      refine r_iload_n eX12_means_59 rfl ?_
      refine r_imul eX12_means_60 ?_
      refine r_iadd eX12_means_61 ?_
      refine r_iload_n eX12_means_62 rfl ?_
      refine r_iadd eX12_means_63 ?_
      refine t_gaI eX12_means_64 q (fun v64 q => ?_)
      refine r_istore (lv' := [_, _, _, _, _]) eX12_means_65 (Nat.le_of_ble_eq_true rfl) rfl ?_
      refine r_aload_n eX12_means_67 rfl ?_
      refine t_gfR eX12_means_68 f_12_9 q (fun v68 q => ?_)
      refine r_sipush (v := (650)) eX12_means_71 (by decide) ?_
      refine r_bipush (v := (12)) eX12_means_74 (by decide) ?_
      refine r_iload_n eX12_means_76 rfl ?_
      refine r_imul eX12_means_77 ?_
      refine r_iadd eX12_means_78 ?_
      refine r_iload_n eX12_means_79 rfl ?_
      refine r_iadd eX12_means_80 ?_
      refine r_iload_n eX12_means_81 rfl ?_
      refine t_paI eX12_means_82 q (fun h82 q => ?_)
      refine r_iload eX12_means_83 rfl ?_
      exact t_rtI eX12_means_85 rfl q
    refine r_aload_n eX12_means_39 rfl ?_
    refine r_iconst (v := (2)) eX12_means_40 (by decide) ?_
    refine t_virtI (As := [_]) (rest := []) (d' := d + 1 + 0) (ci := 12) eX12_means_41 k_12_114 rfl rfl rfl (by omega) (Nat.le_of_ble_eq_true rfl) (Nat.le_of_ble_eq_true rfl) (fun _ q => s_X12_fails q) q (fun v41 h41 q => ?_)
    exact t_rtI eX12_means_44 rfl q
  refine r_aload_n eX12_means_21 rfl ?_
  refine r_iconst (v := (1)) eX12_means_22 (by decide) ?_
  refine t_virtI (As := [_]) (rest := []) (d' := d + 1 + 0) (ci := 12) eX12_means_23 k_12_114 rfl rfl rfl (by omega) (Nat.le_of_ble_eq_true rfl) (Nat.le_of_ble_eq_true rfl) (fun _ q => s_X12_fails q) q (fun v23 h23 q => ?_)
  exact t_rtI eX12_means_26 rfl q
theorem sJ_X12_walker_149 {E : Ev} {d kc ks : Nat} {Φ : Ou → Hp → Prop} {y0 : Nat} {y1 : Int32} {y2 : Int32} {y3 : Int32} {y4 : Int32} {y5 : Int32} {y6 : Int32} {t0 : Nat} {t1 : Int32} {t2 : Int32} {h : Hp}  (q : OK (J_X12_walker_149 E y0 y5 y6 t0 t1 t2 h) Φ) : WE E mX12_walker (d + 2) 149 [some (.ref y0), some (.int y1), some (.int y2), some (.int y3), some (.int y4), some (.int y5), some (.int y6)] [.int t2, .int t1, .ref t0] h kc ks Φ := by
  refine t_paI eX12_walker_149 q (fun h149 q => ?_)
  refine r_aload_n eX12_walker_150 rfl ?_
  refine t_gfR eX12_walker_151 f_12_9 q (fun v151 q => ?_)
  refine r_sipush (v := (722)) eX12_walker_154 (by decide) ?_
  refine r_iconst (v := (5)) eX12_walker_157 (by decide) ?_
  refine r_iload eX12_walker_158 rfl ?_
  refine r_imul eX12_walker_160 ?_
  refine r_iadd eX12_walker_161 ?_
  refine r_iconst (v := (4)) eX12_walker_162 (by decide) ?_
  refine r_iadd eX12_walker_163 ?_
  refine r_iload eX12_walker_164 rfl ?_
  refine t_paI eX12_walker_166 q (fun h166 q => ?_)
  refine r_iload eX12_walker_167 rfl ?_
  exact t_rtI eX12_walker_169 rfl q
theorem sJ_X12_walker_124 {E : Ev} {d kc ks : Nat} {Φ : Ou → Hp → Prop} {y0 : Nat} {y1 : Int32} {y2 : Int32} {y3 : Int32} {y4 : Int32} {y5 : Int32} {y6 : Int32} {t0 : Nat} {t1 : Int32} {t2 : Int32} {h : Hp}  (q : OK (J_X12_walker_124 E y0 y4 y5 y6 t0 t1 t2 h) Φ) : WE E mX12_walker (d + 2) 124 [some (.ref y0), some (.int y1), some (.int y2), some (.int y3), some (.int y4), some (.int y5), some (.int y6)] [.int t2, .int t1, .ref t0] h kc ks Φ := by
  refine t_paI eX12_walker_124 q (fun h124 q => ?_)
  refine r_aload_n eX12_walker_125 rfl ?_
  refine t_gfR eX12_walker_126 f_12_9 q (fun v126 q => ?_)
  refine r_sipush (v := (722)) eX12_walker_129 (by decide) ?_
  refine r_iconst (v := (5)) eX12_walker_132 (by decide) ?_
  refine r_iload eX12_walker_133 rfl ?_
  refine r_imul eX12_walker_135 ?_
  refine r_iadd eX12_walker_136 ?_
  refine r_iconst (v := (3)) eX12_walker_137 (by decide) ?_
  refine r_iadd eX12_walker_138 ?_
  refine r_iload eX12_walker_139 rfl ?_
  refine t_if_eq eX12_walker_141 (t := 148) (by decide) q (fun q => ?_) (fun q => ?_)
  · refine r_iconst (v := (0)) eX12_walker_148 (by decide) ?_
    exact sJ_X12_walker_149  q
  refine r_iconst (v := (1)) eX12_walker_144 (by decide) ?_
  refine r_goto (t := 149) eX12_walker_145 (by decide) ?_
  exact sJ_X12_walker_149  q
theorem s_X12_walker {E : Ev} {d : Nat} {a0 : Nat} {x1 : Int32} {x2 : Int32} {x3 : Int32} {x4 : Int32} {x5 : Int32} {h : Hp} {Φ : Ou → Hp → Prop} (q : OK (F_X12_walker E a0 x1 x2 x3 x4 x5 h) Φ) : CE E mX12_walker (d + 2) [.ref a0, .int x1, .int x2, .int x3, .int x4, .int x5] h 0 0 Φ := by
  show WE E mX12_walker (d + 2) 0 [some (.ref a0), some (.int x1), some (.int x2), some (.int x3), some (.int x4), some (.int x5), none] [] h 0 0 Φ
  refine r_aload_n eX12_walker_0 rfl ?_
  refine r_iconst (v := (0)) eX12_walker_1 (by decide) ?_
  refine t_pf eX12_walker_2 p_12_97 rfl rfl (fun q => by cases q) q (fun h2 q => ?_)
  refine r_aload_n eX12_walker_5 rfl ?_
  refine r_iconst (v := (3)) eX12_walker_6 (by decide) ?_
  refine r_iload_n eX12_walker_7 rfl ?_
  refine t_virtI (As := [_, _]) (rest := []) (d' := d + 0 + 1) (ci := 12) eX12_walker_8 k_12_106 rfl rfl rfl (by omega) (Nat.le_of_ble_eq_true rfl) (Nat.le_of_ble_eq_true rfl) (fun _ q => s_X12_is q) q (fun v8 h8 q => ?_)
  refine t_if_ne eX12_walker_11 (t := 20) (by decide) q (fun q => ?_) (fun q => ?_)
  · refine r_iload_n eX12_walker_20 rfl ?_
    refine r_i2l eX12_walker_21 ?_
    refine r_lconst (v := 0) eX12_walker_22 rfl ?_
    refine r_ldc2 eX12_walker_23 g_12_201 ?_
    refine t_statI (As := [_, _, _]) (rest := []) (d' := d + 1 + 0) eX12_walker_26 k_12_102 rfl (by omega) (Nat.le_of_ble_eq_true rfl) (Nat.le_of_ble_eq_true rfl) (fun _ q => s_X12_within q) q (fun v26 h26 q => ?_)
    refine t_if_eq eX12_walker_29 (t := 45) (by decide) q (fun q => ?_) (fun q => ?_)
    · refine r_aload_n eX12_walker_45 rfl ?_
      refine r_iconst (v := (2)) eX12_walker_46 (by decide) ?_
      refine t_virtI (As := [_]) (rest := []) (d' := d + 1 + 0) (ci := 12) eX12_walker_47 k_12_114 rfl rfl rfl (by omega) (Nat.le_of_ble_eq_true rfl) (Nat.le_of_ble_eq_true rfl) (fun _ q => s_X12_fails q) q (fun v47 h47 q => ?_)
      exact t_rtI eX12_walker_50 rfl q
    refine r_iload eX12_walker_32 rfl ?_
    refine r_i2l eX12_walker_34 ?_
    refine r_lconst (v := 1) eX12_walker_35 rfl ?_
    refine r_ldc2 eX12_walker_36 g_12_203 ?_
    refine t_statI (As := [_, _, _]) (rest := []) (d' := d + 1 + 0) eX12_walker_39 k_12_102 rfl (by omega) (Nat.le_of_ble_eq_true rfl) (Nat.le_of_ble_eq_true rfl) (fun _ q => s_X12_within q) q (fun v39 h39 q => ?_)
    refine t_if_ne eX12_walker_42 (t := 51) (by decide) q (fun q => ?_) (fun q => ?_)
    · refine r_aload_n eX12_walker_51 rfl ?_
      refine t_gfR eX12_walker_52 f_12_9 q (fun v52 q => ?_)
      refine r_iconst (v := (4)) eX12_walker_55 (by decide) ?_
      refine t_gaI eX12_walker_56 q (fun v56 q => ?_)
      refine r_bipush (v := (8)) eX12_walker_57 (by decide) ?_
      refine t_icmp_ne eX12_walker_59 (t := 64) (by decide) q (fun q => ?_) (fun q => ?_)
      · refine r_aload_n eX12_walker_64 rfl ?_
        refine r_iconst (v := (4)) eX12_walker_65 (by decide) ?_
        refine t_virtI (As := [_]) (rest := []) (d' := d + 1 + 0) (ci := 12) eX12_walker_66 k_12_118 rfl rfl rfl (by omega) (Nat.le_of_ble_eq_true rfl) (Nat.le_of_ble_eq_true rfl) (fun _ q => s_X12_more q) q (fun v66 h66 q => ?_)
        refine r_istore (lv' := [_, _, _, _, _, _, _]) eX12_walker_69 (Nat.le_of_ble_eq_true rfl) rfl ?_
        refine r_aload_n eX12_walker_71 rfl ?_
        refine t_gfR eX12_walker_72 f_12_9 q (fun v72 q => ?_)
        refine r_sipush (v := (722)) eX12_walker_75 (by decide) ?_
        refine r_iconst (v := (5)) eX12_walker_78 (by decide) ?_
        refine r_iload eX12_walker_79 rfl ?_
        refine r_imul eX12_walker_81 ?_
        refine r_iadd eX12_walker_82 ?_
        refine r_iload_n eX12_walker_83 rfl ?_
        refine t_paI eX12_walker_84 q (fun h84 q => ?_)
        refine r_aload_n eX12_walker_85 rfl ?_
        refine t_gfR eX12_walker_86 f_12_9 q (fun v86 q => ?_)
        refine r_sipush (v := (722)) eX12_walker_89 (by decide) ?_
        refine r_iconst (v := (5)) eX12_walker_92 (by decide) ?_
        refine r_iload eX12_walker_93 rfl ?_
        refine r_imul eX12_walker_95 ?_
        refine r_iadd eX12_walker_96 ?_
        refine r_iconst (v := (1)) eX12_walker_97 (by decide) ?_
        refine r_iadd eX12_walker_98 ?_
        refine r_iload_n eX12_walker_99 rfl ?_
        refine t_paI eX12_walker_100 q (fun h100 q => ?_)
        refine r_aload_n eX12_walker_101 rfl ?_
        refine t_gfR eX12_walker_102 f_12_9 q (fun v102 q => ?_)
        refine r_sipush (v := (722)) eX12_walker_105 (by decide) ?_
        refine r_iconst (v := (5)) eX12_walker_108 (by decide) ?_
        refine r_iload eX12_walker_109 rfl ?_
        refine r_imul eX12_walker_111 ?_
        refine r_iadd eX12_walker_112 ?_
        refine r_iconst (v := (2)) eX12_walker_113 (by decide) ?_
        refine r_iadd eX12_walker_114 ?_
        refine r_iload_n eX12_walker_115 rfl ?_
        refine t_if_eq eX12_walker_116 (t := 123) (by decide) q (fun q => ?_) (fun q => ?_)
        · refine r_iconst (v := (0)) eX12_walker_123 (by decide) ?_
          exact sJ_X12_walker_124  q
        refine r_iconst (v := (1)) eX12_walker_119 (by decide) ?_
        refine r_goto (t := 124) eX12_walker_120 (by decide) ?_
        exact sJ_X12_walker_124  q
      refine r_iconst (v := (-1)) eX12_walker_62 (by decide) ?_
      exact t_rtI eX12_walker_63 rfl q
    refine r_aload_n eX12_walker_45 rfl ?_
    refine r_iconst (v := (2)) eX12_walker_46 (by decide) ?_
    refine t_virtI (As := [_]) (rest := []) (d' := d + 1 + 0) (ci := 12) eX12_walker_47 k_12_114 rfl rfl rfl (by omega) (Nat.le_of_ble_eq_true rfl) (Nat.le_of_ble_eq_true rfl) (fun _ q => s_X12_fails q) q (fun v47 h47 q => ?_)
    exact t_rtI eX12_walker_50 rfl q
  refine r_aload_n eX12_walker_14 rfl ?_
  refine r_iconst (v := (1)) eX12_walker_15 (by decide) ?_
  refine t_virtI (As := [_]) (rest := []) (d' := d + 1 + 0) (ci := 12) eX12_walker_16 k_12_114 rfl rfl rfl (by omega) (Nat.le_of_ble_eq_true rfl) (Nat.le_of_ble_eq_true rfl) (fun _ q => s_X12_fails q) q (fun v16 h16 q => ?_)
  exact t_rtI eX12_walker_19 rfl q
theorem s_X12_patience {E : Ev} {d : Nat} {a0 : Nat} {x1 : Int32} {h : Hp} {Φ : Ou → Hp → Prop} (q : OK (F_X12_patience E a0 x1 h) Φ) : CE E mX12_patience (d + 0) [.ref a0, .int x1] h 0 0 Φ := by
  show WE E mX12_patience (d + 0) 0 [some (.ref a0), some (.int x1)] [] h 0 0 Φ
  refine r_aload_n eX12_patience_0 rfl ?_
  refine t_gfR eX12_patience_1 f_12_9 q (fun v1 q => ?_)
  refine r_sipush (v := (722)) eX12_patience_4 (by decide) ?_
  refine r_iconst (v := (5)) eX12_patience_7 (by decide) ?_
  refine r_iload_n eX12_patience_8 rfl ?_
  refine r_imul eX12_patience_9 ?_
  refine r_iadd eX12_patience_10 ?_
  refine r_iconst (v := (4)) eX12_patience_11 (by decide) ?_
  refine r_iadd eX12_patience_12 ?_
  refine t_gaI eX12_patience_13 q (fun v13 q => ?_)
  exact t_rtI eX12_patience_14 rfl q
theorem s_X12_countsPaths {E : Ev} {d : Nat} {a0 : Nat} {x1 : Int32} {h : Hp} {Φ : Ou → Hp → Prop} (q : OK (F_X12_countsPaths E a0 x1 h) Φ) : CE E mX12_countsPaths (d + 0) [.ref a0, .int x1] h 0 0 Φ := by
  show WE E mX12_countsPaths (d + 0) 0 [some (.ref a0), some (.int x1)] [] h 0 0 Φ
  refine r_aload_n eX12_countsPaths_0 rfl ?_
  refine t_gfR eX12_countsPaths_1 f_12_9 q (fun v1 q => ?_)
  refine r_sipush (v := (722)) eX12_countsPaths_4 (by decide) ?_
  refine r_iconst (v := (5)) eX12_countsPaths_7 (by decide) ?_
  refine r_iload_n eX12_countsPaths_8 rfl ?_
  refine r_imul eX12_countsPaths_9 ?_
  refine r_iadd eX12_countsPaths_10 ?_
  refine r_iconst (v := (3)) eX12_countsPaths_11 (by decide) ?_
  refine r_iadd eX12_countsPaths_12 ?_
  refine t_gaI eX12_countsPaths_13 q (fun v13 q => ?_)
  refine r_iconst (v := (1)) eX12_countsPaths_14 (by decide) ?_
  refine t_icmp_ne eX12_countsPaths_15 (t := 22) (by decide) q (fun q => ?_) (fun q => ?_)
  · refine r_iconst (v := (0)) eX12_countsPaths_22 (by decide) ?_
    exact t_rtZ eX12_countsPaths_23 rfl q
  refine r_iconst (v := (1)) eX12_countsPaths_18 (by decide) ?_
  refine r_goto (t := 23) eX12_countsPaths_19 (by decide) ?_
  exact t_rtZ eX12_countsPaths_23 rfl q
theorem s_X12_kindsOf {E : Ev} {d : Nat} {a0 : Nat} {x1 : Int32} {x2 : Int32} {h : Hp} {Φ : Ou → Hp → Prop} (q : OK (F_X12_kindsOf E a0 x1 x2 h) Φ) : CE E mX12_kindsOf (d + 0) [.ref a0, .int x1, .int x2] h 0 0 Φ := by
  show WE E mX12_kindsOf (d + 0) 0 [some (.ref a0), some (.int x1), some (.int x2)] [] h 0 0 Φ
  refine r_aload_n eX12_kindsOf_0 rfl ?_
  refine t_gfR eX12_kindsOf_1 f_12_9 q (fun v1 q => ?_)
  refine r_sipush (v := (650)) eX12_kindsOf_4 (by decide) ?_
  refine r_bipush (v := (12)) eX12_kindsOf_7 (by decide) ?_
  refine r_aload_n eX12_kindsOf_9 rfl ?_
  refine t_gfR eX12_kindsOf_10 f_12_9 q (fun v10 q => ?_)
  refine r_sipush (v := (722)) eX12_kindsOf_13 (by decide) ?_
  refine r_iconst (v := (5)) eX12_kindsOf_16 (by decide) ?_
  refine r_iload_n eX12_kindsOf_17 rfl ?_
  refine r_imul eX12_kindsOf_18 ?_
  refine r_iadd eX12_kindsOf_19 ?_
  refine t_gaI eX12_kindsOf_20 q (fun v20 q => ?_)
  refine r_imul eX12_kindsOf_21 ?_
  refine r_iadd eX12_kindsOf_22 ?_
  refine r_iload_n eX12_kindsOf_23 rfl ?_
  refine r_iadd eX12_kindsOf_24 ?_
  refine t_gaI eX12_kindsOf_25 q (fun v25 q => ?_)
  refine r_aload_n eX12_kindsOf_26 rfl ?_
  refine t_gfR eX12_kindsOf_27 f_12_9 q (fun v27 q => ?_)
  refine r_sipush (v := (722)) eX12_kindsOf_30 (by decide) ?_
  refine r_iconst (v := (5)) eX12_kindsOf_33 (by decide) ?_
  refine r_iload_n eX12_kindsOf_34 rfl ?_
  refine r_imul eX12_kindsOf_35 ?_
  refine r_iadd eX12_kindsOf_36 ?_
  refine r_iconst (v := (1)) eX12_kindsOf_37 (by decide) ?_
  refine r_iadd eX12_kindsOf_38 ?_
  refine t_gaI eX12_kindsOf_39 q (fun v39 q => ?_)
  refine r_iand eX12_kindsOf_40 ?_
  exact t_rtI eX12_kindsOf_41 rfl q
theorem s_X12_isMark {E : Ev} {d : Nat} {a0 : Nat} {x1 : Int32} {x2 : Int32} {x3 : Int32} {h : Hp} {Φ : Ou → Hp → Prop} (q : OK (F_X12_isMark E a0 x1 x2 x3 h) Φ) : CE E mX12_isMark (d + 1) [.ref a0, .int x1, .int x2, .int x3] h 0 0 Φ := by
  show WE E mX12_isMark (d + 1) 0 [some (.ref a0), some (.int x1), some (.int x2), some (.int x3)] [] h 0 0 Φ
  refine r_iload_n eX12_isMark_0 rfl ?_
  refine r_aload_n eX12_isMark_1 rfl ?_
  refine t_gfR eX12_isMark_2 f_12_9 q (fun v2 q => ?_)
  refine r_sipush (v := (450)) eX12_isMark_5 (by decide) ?_
  refine r_iconst (v := (5)) eX12_isMark_8 (by decide) ?_
  refine r_iload_n eX12_isMark_9 rfl ?_
  refine r_imul eX12_isMark_10 ?_
  refine r_iadd eX12_isMark_11 ?_
  refine r_iconst (v := (1)) eX12_isMark_12 (by decide) ?_
  refine r_iadd eX12_isMark_13 ?_
  refine t_gaI eX12_isMark_14 q (fun v14 q => ?_)
  refine r_ishr eX12_isMark_15 ?_
  refine r_iconst (v := (1)) eX12_isMark_16 (by decide) ?_
  refine r_iand eX12_isMark_17 ?_
  refine r_iconst (v := (1)) eX12_isMark_18 (by decide) ?_
  refine t_icmp_ne eX12_isMark_19 (t := 64) (by decide) q (fun q => ?_) (fun q => ?_)
  · refine r_iconst (v := (0)) eX12_isMark_64 (by decide) ?_
    exact t_rtZ eX12_isMark_65 rfl q
  refine r_iload_n eX12_isMark_22 rfl ?_
  refine r_i2l eX12_isMark_23 ?_
  refine r_aload_n eX12_isMark_24 rfl ?_
  refine t_gfR eX12_isMark_25 f_12_9 q (fun v25 q => ?_)
  refine r_sipush (v := (450)) eX12_isMark_28 (by decide) ?_
  refine r_iconst (v := (5)) eX12_isMark_31 (by decide) ?_
  refine r_iload_n eX12_isMark_32 rfl ?_
  refine r_imul eX12_isMark_33 ?_
  refine r_iadd eX12_isMark_34 ?_
  refine r_iconst (v := (3)) eX12_isMark_35 (by decide) ?_
  refine r_iadd eX12_isMark_36 ?_
  refine t_gaI eX12_isMark_37 q (fun v37 q => ?_)
  refine r_i2l eX12_isMark_38 ?_
  refine r_aload_n eX12_isMark_39 rfl ?_
  refine t_gfR eX12_isMark_40 f_12_9 q (fun v40 q => ?_)
  refine r_sipush (v := (450)) eX12_isMark_43 (by decide) ?_
  refine r_iconst (v := (5)) eX12_isMark_46 (by decide) ?_
  refine r_iload_n eX12_isMark_47 rfl ?_
  refine r_imul eX12_isMark_48 ?_
  refine r_iadd eX12_isMark_49 ?_
  refine r_iconst (v := (4)) eX12_isMark_50 (by decide) ?_
  refine r_iadd eX12_isMark_51 ?_
  refine t_gaI eX12_isMark_52 q (fun v52 q => ?_)
  refine r_i2l eX12_isMark_53 ?_
  refine t_statI (As := [_, _, _]) (rest := []) (d' := d + 0 + 0) eX12_isMark_54 k_12_102 rfl (by omega) (Nat.le_of_ble_eq_true rfl) (Nat.le_of_ble_eq_true rfl) (fun _ q => s_X12_within q) q (fun v54 h54 q => ?_)
  refine t_if_eq eX12_isMark_57 (t := 64) (by decide) q (fun q => ?_) (fun q => ?_)
  · refine r_iconst (v := (0)) eX12_isMark_64 (by decide) ?_
    exact t_rtZ eX12_isMark_65 rfl q
  refine r_iconst (v := (1)) eX12_isMark_60 (by decide) ?_
  refine r_goto (t := 65) eX12_isMark_61 (by decide) ?_
  exact t_rtZ eX12_isMark_65 rfl q
theorem sL_X12_standsAt_11 {E : Ev} {d kc ks : Nat} {Φ : Ou → Hp → Prop} {y0 : Nat} {y1 : Int32} {y2 : Int32} {y3 : Int32} {y4 : Int32} {y5 : Int32}  : ∀ (g : Nat) (y6 : Int32) (h : Hp), OK (L_X12_standsAt_11 E y0 y3 y4 y5 g y6 h) Φ → WE E mX12_standsAt (d + 2) 11 [some (.ref y0), some (.int y1), some (.int y2), some (.int y3), some (.int y4), some (.int y5), some (.int y6)] [] h kc ks Φ := by
  intro g
  induction g with
  | zero => intro y6 h q; exact q.elim
  | succ g ih =>
    intro y6 h q
    refine r_iload eX12_standsAt_11 rfl ?_
    refine r_aload_n eX12_standsAt_13 rfl ?_
    refine t_gfR eX12_standsAt_14 f_12_9 q (fun v14 q => ?_)
    refine r_iconst (v := (2)) eX12_standsAt_17 (by decide) ?_
    refine t_gaI eX12_standsAt_18 q (fun v18 q => ?_)
    refine t_icmp_ge eX12_standsAt_19 (t := 60) (by decide) q (fun q => ?_) (fun q => ?_)
    · refine r_iconst (v := (0)) eX12_standsAt_60 (by decide) ?_
      exact t_rtZ eX12_standsAt_61 rfl q
    refine r_aload_n eX12_standsAt_22 rfl ?_
    refine t_gfR eX12_standsAt_23 f_12_9 q (fun v23 q => ?_)
    refine r_sipush (v := (450)) eX12_standsAt_26 (by decide) ?_
    refine r_iconst (v := (5)) eX12_standsAt_29 (by decide) ?_
    refine r_iload eX12_standsAt_30 rfl ?_
    refine r_imul eX12_standsAt_32 ?_
    refine r_iadd eX12_standsAt_33 ?_
    refine t_gaI eX12_standsAt_34 q (fun v34 q => ?_)
    refine r_iload_n eX12_standsAt_35 rfl ?_
    refine t_icmp_ne eX12_standsAt_36 (t := 54) (by decide) q (fun q => ?_) (fun q => ?_)
    · refine r_iinc (v := (1)) (lv' := [_, _, _, _, _, _, _]) eX12_standsAt_54 rfl (by decide) rfl ?_
      refine r_goto (t := 11) eX12_standsAt_57 (by decide) ?_
      exact ih _ _ q
    refine r_aload_n eX12_standsAt_39 rfl ?_
    refine r_iload eX12_standsAt_40 rfl ?_
    refine r_iload eX12_standsAt_42 rfl ?_
    refine r_iload eX12_standsAt_44 rfl ?_
    refine t_virtI (As := [_, _, _]) (rest := []) (d' := d + 0 + 1) (ci := 12) eX12_standsAt_46 k_12_208 rfl rfl rfl (by omega) (Nat.le_of_ble_eq_true rfl) (Nat.le_of_ble_eq_true rfl) (fun _ q => s_X12_isMark q) q (fun v46 h46 q => ?_)
    refine t_if_eq eX12_standsAt_49 (t := 54) (by decide) q (fun q => ?_) (fun q => ?_)
    · refine r_iinc (v := (1)) (lv' := [_, _, _, _, _, _, _]) eX12_standsAt_54 rfl (by decide) rfl ?_
      refine r_goto (t := 11) eX12_standsAt_57 (by decide) ?_
      exact ih _ _ q
    refine r_iconst (v := (1)) eX12_standsAt_52 (by decide) ?_
    exact t_rtZ eX12_standsAt_53 rfl q
theorem s_X12_standsAt {E : Ev} {d : Nat} {a0 : Nat} {x1 : Int32} {x2 : Int32} {x3 : Int32} {x4 : Int32} {h : Hp} {Φ : Ou → Hp → Prop} (q : OK (F_X12_standsAt E a0 x1 x2 x3 x4 h) Φ) : CE E mX12_standsAt (d + 2) [.ref a0, .int x1, .int x2, .int x3, .int x4] h 0 0 Φ := by
  show WE E mX12_standsAt (d + 2) 0 [some (.ref a0), some (.int x1), some (.int x2), some (.int x3), some (.int x4), none, none] [] h 0 0 Φ
  refine r_aload_n eX12_standsAt_0 rfl ?_
  refine r_iload_n eX12_standsAt_1 rfl ?_
  refine r_iload_n eX12_standsAt_2 rfl ?_
  refine t_virtI (As := [_, _]) (rest := []) (d' := d + 1 + 0) (ci := 12) eX12_standsAt_3 k_12_205 rfl rfl rfl (by omega) (Nat.le_of_ble_eq_true rfl) (Nat.le_of_ble_eq_true rfl) (fun _ q => s_X12_kindsOf q) q (fun v3 h3 q => ?_)
  refine r_istore (lv' := [_, _, _, _, _, _, _]) eX12_standsAt_6 (Nat.le_of_ble_eq_true rfl) rfl ?_
  refine r_iconst (v := (0)) eX12_standsAt_8 (by decide) ?_
  refine r_istore (lv' := [_, _, _, _, _, _, _]) eX12_standsAt_9 (Nat.le_of_ble_eq_true rfl) rfl ?_
  exact sL_X12_standsAt_11  _ _ _ q
theorem sJ_X12_areJoined_46 {E : Ev} {d kc ks : Nat} {Φ : Ou → Hp → Prop} {y0 : Nat} {y1 : Int32} {y2 : Int32} {y3 : Int32} {y4 : Int32} {h : Hp} {K3 : Int32 → Hp → Rs} (hK3 : ∀ (w4 : Int32) (h : Hp), OK (K3 w4 h) Φ → WE E mX12_areJoined (d + 2) 3 [some (.ref y0), some (.int y1), some (.int y2), some (.int y3), some (.int w4)] [] h kc ks Φ) (q : OK (J_X12_areJoined_46 E K3 y0 y1 y2 y3 y4 h) Φ) : WE E mX12_areJoined (d + 2) 46 [some (.ref y0), some (.int y1), some (.int y2), some (.int y3), some (.int y4)] [] h kc ks Φ := by
  refine r_aload_n eX12_areJoined_46 rfl ?_
  refine r_iload eX12_areJoined_47 rfl ?_
  refine r_iconst (v := (0)) eX12_areJoined_49 (by decide) ?_
  refine t_virtI (As := [_, _]) (rest := []) (d' := d + 1 + 0) (ci := 12) eX12_areJoined_50 k_12_130 rfl rfl rfl (by omega) (Nat.le_of_ble_eq_true rfl) (Nat.le_of_ble_eq_true rfl) (fun _ q => s_X12_wayOf q) q (fun v50 h50 q => ?_)
  refine r_iload_n eX12_areJoined_53 rfl ?_
  refine t_icmp_ne eX12_areJoined_54 (t := 70) (by decide) q (fun q => ?_) (fun q => ?_)
  · refine r_iinc (v := (1)) (lv' := [_, _, _, _, _]) eX12_areJoined_70 rfl (by decide) rfl ?_
    refine r_goto (t := 3) eX12_areJoined_73 (by decide) ?_
    exact hK3 _ _ q
  refine r_aload_n eX12_areJoined_57 rfl ?_
  refine r_iload eX12_areJoined_58 rfl ?_
  refine r_iconst (v := (1)) eX12_areJoined_60 (by decide) ?_
  refine t_virtI (As := [_, _]) (rest := []) (d' := d + 1 + 0) (ci := 12) eX12_areJoined_61 k_12_130 rfl rfl rfl (by omega) (Nat.le_of_ble_eq_true rfl) (Nat.le_of_ble_eq_true rfl) (fun _ q => s_X12_wayOf q) q (fun v61 h61 q => ?_)
  refine r_iload_n eX12_areJoined_64 rfl ?_
  refine t_icmp_ne eX12_areJoined_65 (t := 70) (by decide) q (fun q => ?_) (fun q => ?_)
  · refine r_iinc (v := (1)) (lv' := [_, _, _, _, _]) eX12_areJoined_70 rfl (by decide) rfl ?_
    refine r_goto (t := 3) eX12_areJoined_73 (by decide) ?_
    exact hK3 _ _ q
  refine r_iconst (v := (1)) eX12_areJoined_68 (by decide) ?_
  exact t_rtZ eX12_areJoined_69 rfl q
theorem sL_X12_areJoined_3 {E : Ev} {d kc ks : Nat} {Φ : Ou → Hp → Prop} {y0 : Nat} {y1 : Int32} {y2 : Int32} {y3 : Int32}  : ∀ (g : Nat) (y4 : Int32) (h : Hp), OK (L_X12_areJoined_3 E y0 y1 y2 y3 g y4 h) Φ → WE E mX12_areJoined (d + 2) 3 [some (.ref y0), some (.int y1), some (.int y2), some (.int y3), some (.int y4)] [] h kc ks Φ := by
  intro g
  induction g with
  | zero => intro y4 h q; exact q.elim
  | succ g ih =>
    intro y4 h q
    refine r_iload eX12_areJoined_3 rfl ?_
    refine r_aload_n eX12_areJoined_5 rfl ?_
    refine t_gfR eX12_areJoined_6 f_12_9 q (fun v6 q => ?_)
    refine r_iconst (v := (1)) eX12_areJoined_9 (by decide) ?_
    refine t_gaI eX12_areJoined_10 q (fun v10 q => ?_)
    refine t_icmp_ge eX12_areJoined_11 (t := 76) (by decide) q (fun q => ?_) (fun q => ?_)
    · refine r_iconst (v := (0)) eX12_areJoined_76 (by decide) ?_
      exact t_rtZ eX12_areJoined_77 rfl q
    refine r_aload_n eX12_areJoined_14 rfl ?_
    refine r_iload eX12_areJoined_15 rfl ?_
    refine r_iload_n eX12_areJoined_17 rfl ?_
    refine t_virtI (As := [_, _]) (rest := []) (d' := d + 0 + 1) (ci := 12) eX12_areJoined_18 k_12_146 rfl rfl rfl (by omega) (Nat.le_of_ble_eq_true rfl) (Nat.le_of_ble_eq_true rfl) (fun _ q => s_X12_isThere q) q (fun v18 h18 q => ?_)
    refine t_if_eq eX12_areJoined_21 (t := 70) (by decide) q (fun q => ?_) (fun q => ?_)
    · refine r_iinc (v := (1)) (lv' := [_, _, _, _, _]) eX12_areJoined_70 rfl (by decide) rfl ?_
      refine r_goto (t := 3) eX12_areJoined_73 (by decide) ?_
      exact ih _ _ q
    refine r_aload_n eX12_areJoined_24 rfl ?_
    refine r_iload eX12_areJoined_25 rfl ?_
    refine r_iconst (v := (0)) eX12_areJoined_27 (by decide) ?_
    refine t_virtI (As := [_, _]) (rest := []) (d' := d + 1 + 0) (ci := 12) eX12_areJoined_28 k_12_130 rfl rfl rfl (by omega) (Nat.le_of_ble_eq_true rfl) (Nat.le_of_ble_eq_true rfl) (fun _ q => s_X12_wayOf q) q (fun v28 h28 q => ?_)
    refine r_iload_n eX12_areJoined_31 rfl ?_
    refine t_icmp_ne eX12_areJoined_32 (t := 46) (by decide) q (fun q => ?_) (fun q => ?_)
    · refine sJ_X12_areJoined_46 (fun w1 h2 q => ?_) q
      exact ih _ _ q
    refine r_aload_n eX12_areJoined_35 rfl ?_
    refine r_iload eX12_areJoined_36 rfl ?_
    refine r_iconst (v := (1)) eX12_areJoined_38 (by decide) ?_
    refine t_virtI (As := [_, _]) (rest := []) (d' := d + 1 + 0) (ci := 12) eX12_areJoined_39 k_12_130 rfl rfl rfl (by omega) (Nat.le_of_ble_eq_true rfl) (Nat.le_of_ble_eq_true rfl) (fun _ q => s_X12_wayOf q) q (fun v39 h39 q => ?_)
    refine r_iload_n eX12_areJoined_42 rfl ?_
    refine t_icmp_eq eX12_areJoined_43 (t := 68) (by decide) q (fun q => ?_) (fun q => ?_)
    · refine r_iconst (v := (1)) eX12_areJoined_68 (by decide) ?_
      exact t_rtZ eX12_areJoined_69 rfl q
    refine sJ_X12_areJoined_46 (fun w3 h4 q => ?_) q
    exact ih _ _ q
theorem s_X12_areJoined {E : Ev} {d : Nat} {a0 : Nat} {x1 : Int32} {x2 : Int32} {x3 : Int32} {h : Hp} {Φ : Ou → Hp → Prop} (q : OK (F_X12_areJoined E a0 x1 x2 x3 h) Φ) : CE E mX12_areJoined (d + 2) [.ref a0, .int x1, .int x2, .int x3] h 0 0 Φ := by
  show WE E mX12_areJoined (d + 2) 0 [some (.ref a0), some (.int x1), some (.int x2), some (.int x3), none] [] h 0 0 Φ
  refine r_iconst (v := (0)) eX12_areJoined_0 (by decide) ?_
  refine r_istore (lv' := [_, _, _, _, _]) eX12_areJoined_1 (Nat.le_of_ble_eq_true rfl) rfl ?_
  exact sL_X12_areJoined_3  _ _ _ q
theorem sL_X12_isSeenAt_25 {E : Ev} {d kc ks : Nat} {Φ : Ou → Hp → Prop} {y0 : Nat} {y1 : Int32} {y2 : Int32} {y3 : Int32} {y4 : Int32} {y5 : Int32}  : ∀ (g : Nat) (y6 : Int32) (h : Hp), OK (L_X12_isSeenAt_25 E y0 y3 y4 y5 g y6 h) Φ → WE E mX12_isSeenAt (d + 3) 25 [some (.ref y0), some (.int y1), some (.int y2), some (.int y3), some (.int y4), some (.int y5), some (.int y6)] [] h kc ks Φ := by
  intro g
  induction g with
  | zero => intro y6 h q; exact q.elim
  | succ g ih =>
    intro y6 h q
    refine r_iload eX12_isSeenAt_25 rfl ?_
    refine r_aload_n eX12_isSeenAt_27 rfl ?_
    refine t_gfR eX12_isSeenAt_28 f_12_9 q (fun v28 q => ?_)
    refine r_iconst (v := (2)) eX12_isSeenAt_31 (by decide) ?_
    refine t_gaI eX12_isSeenAt_32 q (fun v32 q => ?_)
    refine t_icmp_ge eX12_isSeenAt_33 (t := 99) (by decide) q (fun q => ?_) (fun q => ?_)
    · refine r_iconst (v := (0)) eX12_isSeenAt_99 (by decide) ?_
      exact t_rtZ eX12_isSeenAt_100 rfl q
    refine r_aload_n eX12_isSeenAt_36 rfl ?_
    refine t_gfR eX12_isSeenAt_37 f_12_9 q (fun v37 q => ?_)
    refine r_sipush (v := (450)) eX12_isSeenAt_40 (by decide) ?_
    refine r_iconst (v := (5)) eX12_isSeenAt_43 (by decide) ?_
    refine r_iload eX12_isSeenAt_44 rfl ?_
    refine r_imul eX12_isSeenAt_46 ?_
    refine r_iadd eX12_isSeenAt_47 ?_
    refine r_iconst (v := (2)) eX12_isSeenAt_48 (by decide) ?_
    refine r_iadd eX12_isSeenAt_49 ?_
    refine t_gaI eX12_isSeenAt_50 q (fun v50 q => ?_)
    refine r_iconst (v := (1)) eX12_isSeenAt_51 (by decide) ?_
    refine t_icmp_ne eX12_isSeenAt_52 (t := 93) (by decide) q (fun q => ?_) (fun q => ?_)
    · refine r_iinc (v := (1)) (lv' := [_, _, _, _, _, _, _]) eX12_isSeenAt_93 rfl (by decide) rfl ?_
      refine r_goto (t := 25) eX12_isSeenAt_96 (by decide) ?_
      exact ih _ _ q
    refine r_aload_n eX12_isSeenAt_55 rfl ?_
    refine r_iload eX12_isSeenAt_56 rfl ?_
    refine r_iload eX12_isSeenAt_58 rfl ?_
    refine r_iload eX12_isSeenAt_60 rfl ?_
    refine t_virtI (As := [_, _, _]) (rest := []) (d' := d + 1 + 1) (ci := 12) eX12_isSeenAt_62 k_12_208 rfl rfl rfl (by omega) (Nat.le_of_ble_eq_true rfl) (Nat.le_of_ble_eq_true rfl) (fun _ q => s_X12_isMark q) q (fun v62 h62 q => ?_)
    refine t_if_eq eX12_isSeenAt_65 (t := 93) (by decide) q (fun q => ?_) (fun q => ?_)
    · refine r_iinc (v := (1)) (lv' := [_, _, _, _, _, _, _]) eX12_isSeenAt_93 rfl (by decide) rfl ?_
      refine r_goto (t := 25) eX12_isSeenAt_96 (by decide) ?_
      exact ih _ _ q
    refine r_aload_n eX12_isSeenAt_68 rfl ?_
    refine r_aload_n eX12_isSeenAt_69 rfl ?_
    refine t_gfR eX12_isSeenAt_70 f_12_9 q (fun v70 q => ?_)
    refine r_sipush (v := (450)) eX12_isSeenAt_73 (by decide) ?_
    refine r_iconst (v := (5)) eX12_isSeenAt_76 (by decide) ?_
    refine r_iload eX12_isSeenAt_77 rfl ?_
    refine r_imul eX12_isSeenAt_79 ?_
    refine r_iadd eX12_isSeenAt_80 ?_
    refine t_gaI eX12_isSeenAt_81 q (fun v81 q => ?_)
    refine r_iload_n eX12_isSeenAt_82 rfl ?_
    refine r_iload eX12_isSeenAt_83 rfl ?_
    refine t_virtI (As := [_, _, _]) (rest := []) (d' := d + 0 + 2) (ci := 12) eX12_isSeenAt_85 k_12_215 rfl rfl rfl (by omega) (Nat.le_of_ble_eq_true rfl) (Nat.le_of_ble_eq_true rfl) (fun _ q => s_X12_areJoined q) q (fun v85 h85 q => ?_)
    refine t_if_eq eX12_isSeenAt_88 (t := 93) (by decide) q (fun q => ?_) (fun q => ?_)
    · refine r_iinc (v := (1)) (lv' := [_, _, _, _, _, _, _]) eX12_isSeenAt_93 rfl (by decide) rfl ?_
      refine r_goto (t := 25) eX12_isSeenAt_96 (by decide) ?_
      exact ih _ _ q
    refine r_iconst (v := (1)) eX12_isSeenAt_91 (by decide) ?_
    exact t_rtZ eX12_isSeenAt_92 rfl q
theorem s_X12_isSeenAt {E : Ev} {d : Nat} {a0 : Nat} {x1 : Int32} {x2 : Int32} {x3 : Int32} {x4 : Int32} {h : Hp} {Φ : Ou → Hp → Prop} (q : OK (F_X12_isSeenAt E a0 x1 x2 x3 x4 h) Φ) : CE E mX12_isSeenAt (d + 3) [.ref a0, .int x1, .int x2, .int x3, .int x4] h 0 0 Φ := by
  show WE E mX12_isSeenAt (d + 3) 0 [some (.ref a0), some (.int x1), some (.int x2), some (.int x3), some (.int x4), none, none] [] h 0 0 Φ
  refine r_aload_n eX12_isSeenAt_0 rfl ?_
  refine r_iload_n eX12_isSeenAt_1 rfl ?_
  refine r_iload_n eX12_isSeenAt_2 rfl ?_
  refine r_iload_n eX12_isSeenAt_3 rfl ?_
  refine r_iload eX12_isSeenAt_4 rfl ?_
  refine t_virtI (As := [_, _, _, _]) (rest := []) (d' := d + 0 + 2) (ci := 12) eX12_isSeenAt_6 k_12_211 rfl rfl rfl (by omega) (Nat.le_of_ble_eq_true rfl) (Nat.le_of_ble_eq_true rfl) (fun _ q => s_X12_standsAt q) q (fun v6 h6 q => ?_)
  refine t_if_eq eX12_isSeenAt_9 (t := 14) (by decide) q (fun q => ?_) (fun q => ?_)
  · refine r_aload_n eX12_isSeenAt_14 rfl ?_
    refine r_iload_n eX12_isSeenAt_15 rfl ?_
    refine r_iload_n eX12_isSeenAt_16 rfl ?_
    refine t_virtI (As := [_, _]) (rest := []) (d' := d + 2 + 0) (ci := 12) eX12_isSeenAt_17 k_12_205 rfl rfl rfl (by omega) (Nat.le_of_ble_eq_true rfl) (Nat.le_of_ble_eq_true rfl) (fun _ q => s_X12_kindsOf q) q (fun v17 h17 q => ?_)
    refine r_istore (lv' := [_, _, _, _, _, _, _]) eX12_isSeenAt_20 (Nat.le_of_ble_eq_true rfl) rfl ?_
    refine r_iconst (v := (0)) eX12_isSeenAt_22 (by decide) ?_
    refine r_istore (lv' := [_, _, _, _, _, _, _]) eX12_isSeenAt_23 (Nat.le_of_ble_eq_true rfl) rfl ?_
    exact sL_X12_isSeenAt_25  _ _ _ q
  refine r_iconst (v := (1)) eX12_isSeenAt_12 (by decide) ?_
  exact t_rtZ eX12_isSeenAt_13 rfl q
theorem sL_X12_standing_72 {E : Ev} {d kc ks : Nat} {Φ : Ou → Hp → Prop} {y0 : Nat} {y1 : Int32} {y2 : Int32} {y3 : Int32} {y4 : Int32} {K114 : Hp → Rs} (hK114 : ∀ (w5 : Int32) (h : Hp), OK (K114 h) Φ → WE E mX12_standing (d + 3) 114 [some (.ref y0), some (.int y1), some (.int y2), some (.int y3), some (.int y4), some (.int w5)] [] h kc ks Φ) : ∀ (g : Nat) (y5 : Int32) (h : Hp), OK (L_X12_standing_72 E K114 y0 y3 y4 g y5 h) Φ → WE E mX12_standing (d + 3) 72 [some (.ref y0), some (.int y1), some (.int y2), some (.int y3), some (.int y4), some (.int y5)] [] h kc ks Φ := by
  intro g
  induction g with
  | zero => intro y5 h q; exact q.elim
  | succ g ih =>
    intro y5 h q
    refine r_iload eX12_standing_72 rfl ?_
    refine r_iconst (v := (4)) eX12_standing_74 (by decide) ?_
    refine r_aload_n eX12_standing_75 rfl ?_
    refine t_gfR eX12_standing_76 f_12_9 q (fun v76 q => ?_)
    refine r_iconst (v := (1)) eX12_standing_79 (by decide) ?_
    refine t_gaI eX12_standing_80 q (fun v80 q => ?_)
    refine r_imul eX12_standing_81 ?_
    refine t_icmp_ge eX12_standing_82 (t := 114) (by decide) q (fun q => ?_) (fun q => ?_)
    · exact hK114 _ _ q
    refine r_aload_n eX12_standing_85 rfl ?_
    refine r_iload eX12_standing_86 rfl ?_
    refine t_virtI (As := [_]) (rest := []) (d' := d + 0 + 2) (ci := 12) eX12_standing_88 k_12_143 rfl rfl rfl (by omega) (Nat.le_of_ble_eq_true rfl) (Nat.le_of_ble_eq_true rfl) (fun _ q => s_X12_placeOf q) q (fun v88 h88 q => ?_)
    refine r_iload eX12_standing_91 rfl ?_
    refine t_icmp_ne eX12_standing_93 (t := 108) (by decide) q (fun q => ?_) (fun q => ?_)
    · refine r_iinc (v := (1)) (lv' := [_, _, _, _, _, _]) eX12_standing_108 rfl (by decide) rfl ?_
      refine r_goto (t := 72) eX12_standing_111 (by decide) ?_
      exact ih _ _ q
    refine r_aload_n eX12_standing_96 rfl ?_
    refine t_gfR eX12_standing_97 f_12_28 q (fun v97 q => ?_)
    refine r_iconst (v := (4)) eX12_standing_100 (by decide) ?_
    refine r_iload_n eX12_standing_101 rfl ?_
    refine r_imul eX12_standing_102 ?_
    refine r_iload eX12_standing_103 rfl ?_
    refine t_statV (As := [_, _, _]) (rest := []) (d' := d + 2 + 0) eX12_standing_105 k_12_178 rfl (by omega) (Nat.le_of_ble_eq_true rfl) (Nat.le_of_ble_eq_true rfl) (fun _ q => s_X12_put q) q (fun h105 q => ?_)
    refine r_iinc (v := (1)) (lv' := [_, _, _, _, _, _]) eX12_standing_108 rfl (by decide) rfl ?_
    refine r_goto (t := 72) eX12_standing_111 (by decide) ?_
    exact ih _ _ q
theorem sL_X12_standing_40 {E : Ev} {d kc ks : Nat} {Φ : Ou → Hp → Prop} {y0 : Nat} {y1 : Int32} {y2 : Int32} {y3 : Int32}  : ∀ (g : Nat) (y4 : Int32) (y5 : Option Value) (h : Hp), OK (L_X12_standing_40 E y0 y1 y2 y3 g y4 h) Φ → WE E mX12_standing (d + 3) 40 [some (.ref y0), some (.int y1), some (.int y2), some (.int y3), some (.int y4), y5] [] h kc ks Φ := by
  intro g
  induction g with
  | zero => intro y4 y5 h q; exact q.elim
  | succ g ih =>
    intro y4 y5 h q
    refine r_iload eX12_standing_40 rfl ?_
    refine r_aload_n eX12_standing_42 rfl ?_
    refine t_gfR eX12_standing_43 f_12_9 q (fun v43 q => ?_)
    refine r_iconst (v := (0)) eX12_standing_46 (by decide) ?_
    refine t_gaI eX12_standing_47 q (fun v47 q => ?_)
    refine t_icmp_ge eX12_standing_48 (t := 120) (by decide) q (fun q => ?_) (fun q => ?_)
    · refine r_iconst (v := (4)) eX12_standing_120 (by decide) ?_
      refine r_iload_n eX12_standing_121 rfl ?_
      refine r_imul eX12_standing_122 ?_
      exact t_rtI eX12_standing_123 rfl q
    refine r_aload_n eX12_standing_51 rfl ?_
    refine r_iload_n eX12_standing_52 rfl ?_
    refine r_iload_n eX12_standing_53 rfl ?_
    refine r_iload eX12_standing_54 rfl ?_
    refine r_aload_n eX12_standing_56 rfl ?_
    refine t_gfI eX12_standing_57 f_12_20 q (fun v57 q => ?_)
    refine t_virtI (As := [_, _, _, _]) (rest := []) (d' := d + 0 + 2) (ci := 12) eX12_standing_60 k_12_211 rfl rfl rfl (by omega) (Nat.le_of_ble_eq_true rfl) (Nat.le_of_ble_eq_true rfl) (fun _ q => s_X12_standsAt q) q (fun v60 h60 q => ?_)
    refine t_if_ne eX12_standing_63 (t := 69) (by decide) q (fun q => ?_) (fun q => ?_)
    · refine r_iconst (v := (0)) eX12_standing_69 (by decide) ?_
      refine r_istore (lv' := [_, _, _, _, _, _]) eX12_standing_70 (Nat.le_of_ble_eq_true rfl) rfl ?_
      refine sL_X12_standing_72 (fun w1 h2 q => ?_) _ _ _ q
      refine r_iinc (v := (1)) (lv' := [_, _, _, _, _, _]) eX12_standing_114 rfl (by decide) rfl ?_
      refine r_goto (t := 40) eX12_standing_117 (by decide) ?_
      exact ih _ _ _ q
    refine r_goto (t := 114) eX12_standing_66 (by decide) ?_
    refine r_iinc (v := (1)) (lv' := [_, _, _, _, _, _]) eX12_standing_114 rfl (by decide) rfl ?_
    refine r_goto (t := 40) eX12_standing_117 (by decide) ?_
    exact ih _ _ _ q
theorem s_X12_standing {E : Ev} {d : Nat} {a0 : Nat} {x1 : Int32} {x2 : Int32} {h : Hp} {Φ : Ou → Hp → Prop} (q : OK (F_X12_standing E a0 x1 x2 h) Φ) : CE E mX12_standing (d + 3) [.ref a0, .int x1, .int x2] h 0 0 Φ := by
  show WE E mX12_standing (d + 3) 0 [some (.ref a0), some (.int x1), some (.int x2), none, none, none] [] h 0 0 Φ
  refine r_bipush (v := (12)) eX12_standing_0 (by decide) ?_
  refine r_iload_n eX12_standing_2 rfl ?_
  refine r_imul eX12_standing_3 ?_
  refine r_iload_n eX12_standing_4 rfl ?_
  refine r_iadd eX12_standing_5 ?_
  replace q := OK_lt q
  refine r_istore_n (lv' := [_, _, _, _, _, _]) eX12_standing_6 (Nat.le_of_ble_eq_true rfl) rfl ?_
  refine r_aload_n eX12_standing_7 rfl ?_
  refine t_gfR eX12_standing_8 f_12_31 q (fun v8 q => ?_)
  refine r_iload_n eX12_standing_11 rfl ?_
  refine t_gaZ eX12_standing_12 q (fun v12 q => ?_)
  refine t_if_eq eX12_standing_13 (t := 20) (by decide) q (fun q => ?_) (fun q => ?_)
  · refine r_aload_n eX12_standing_20 rfl ?_
    refine t_gfR eX12_standing_21 f_12_31 q (fun v21 q => ?_)
    refine r_iload_n eX12_standing_24 rfl ?_
    refine r_iconst (v := (1)) eX12_standing_25 (by decide) ?_
    refine t_paZ eX12_standing_26 q (fun h26 q => ?_)
    refine r_aload_n eX12_standing_27 rfl ?_
    refine t_gfR eX12_standing_28 f_12_28 q (fun v28 q => ?_)
    refine r_iconst (v := (4)) eX12_standing_31 (by decide) ?_
    refine r_iload_n eX12_standing_32 rfl ?_
    refine r_imul eX12_standing_33 ?_
    refine t_statV (As := [_, _]) (rest := []) (d' := d + 2 + 0) eX12_standing_34 k_12_218 rfl (by omega) (Nat.le_of_ble_eq_true rfl) (Nat.le_of_ble_eq_true rfl) (fun _ q => s_X12_empty q) q (fun h34 q => ?_)
    refine r_iconst (v := (0)) eX12_standing_37 (by decide) ?_
    refine r_istore (lv' := [_, _, _, _, _, _]) eX12_standing_38 (Nat.le_of_ble_eq_true rfl) rfl ?_
    exact sL_X12_standing_40  _ _ _ _ q
  refine r_iconst (v := (4)) eX12_standing_16 (by decide) ?_
  refine r_iload_n eX12_standing_17 rfl ?_
  refine r_imul eX12_standing_18 ?_
  exact t_rtI eX12_standing_19 rfl q
theorem s_X12_stands {E : Ev} {d : Nat} {a0 : Nat} {x1 : Int32} {x2 : Int32} {x3 : Int32} {x4 : Int32} {x5 : Int32} {h : Hp} {Φ : Ou → Hp → Prop} (q : OK (F_X12_stands E a0 x1 x2 x3 x4 x5 h) Φ) : CE E mX12_stands (d + 4) [.ref a0, .int x1, .int x2, .int x3, .int x4, .int x5] h 0 0 Φ := by
  show WE E mX12_stands (d + 4) 0 [some (.ref a0), some (.int x1), some (.int x2), some (.int x3), some (.int x4), some (.int x5)] [] h 0 0 Φ
  refine r_aload_n eX12_stands_0 rfl ?_
  refine r_iconst (v := (0)) eX12_stands_1 (by decide) ?_
  refine t_pf eX12_stands_2 p_12_97 rfl rfl (fun q => by cases q) q (fun h2 q => ?_)
  refine r_aload_n eX12_stands_5 rfl ?_
  refine r_iload_n eX12_stands_6 rfl ?_
  refine t_virtI (As := [_]) (rest := []) (d' := d + 1 + 2) (ci := 12) eX12_stands_7 k_12_222 rfl rfl rfl (by omega) (Nat.le_of_ble_eq_true rfl) (Nat.le_of_ble_eq_true rfl) (fun _ q => s_X12_isWalker q) q (fun v7 h7 q => ?_)
  refine t_if_eq eX12_stands_10 (t := 28) (by decide) q (fun q => ?_) (fun q => ?_)
  · refine r_aload_n eX12_stands_28 rfl ?_
    refine r_iconst (v := (1)) eX12_stands_29 (by decide) ?_
    refine t_virtI (As := [_]) (rest := []) (d' := d + 3 + 0) (ci := 12) eX12_stands_30 k_12_225 rfl rfl rfl (by omega) (Nat.le_of_ble_eq_true rfl) (Nat.le_of_ble_eq_true rfl) (fun _ q => s_X12_fell q) q (fun v30 h30 q => ?_)
    exact t_rtZ eX12_stands_33 rfl q
  refine r_iload_n eX12_stands_13 rfl ?_
  refine t_statI (As := [_]) (rest := []) (d' := d + 2 + 1) eX12_stands_14 k_12_134 rfl (by omega) (Nat.le_of_ble_eq_true rfl) (Nat.le_of_ble_eq_true rfl) (fun _ q => s_X12_isName q) q (fun v14 h14 q => ?_)
  refine t_if_eq eX12_stands_17 (t := 28) (by decide) q (fun q => ?_) (fun q => ?_)
  · refine r_aload_n eX12_stands_28 rfl ?_
    refine r_iconst (v := (1)) eX12_stands_29 (by decide) ?_
    refine t_virtI (As := [_]) (rest := []) (d' := d + 3 + 0) (ci := 12) eX12_stands_30 k_12_225 rfl rfl rfl (by omega) (Nat.le_of_ble_eq_true rfl) (Nat.le_of_ble_eq_true rfl) (fun _ q => s_X12_fell q) q (fun v30 h30 q => ?_)
    exact t_rtZ eX12_stands_33 rfl q
  refine r_aload_n eX12_stands_20 rfl ?_
  refine r_iload_n eX12_stands_21 rfl ?_
  refine t_virtI (As := [_]) (rest := []) (d' := d + 1 + 2) (ci := 12) eX12_stands_22 k_12_121 rfl rfl rfl (by omega) (Nat.le_of_ble_eq_true rfl) (Nat.le_of_ble_eq_true rfl) (fun _ q => s_X12_isPlace q) q (fun v22 h22 q => ?_)
  refine t_if_ne eX12_stands_25 (t := 34) (by decide) q (fun q => ?_) (fun q => ?_)
  · refine r_iload eX12_stands_34 rfl ?_
    refine t_statI (As := [_]) (rest := []) (d' := d + 2 + 1) eX12_stands_36 k_12_127 rfl (by omega) (Nat.le_of_ble_eq_true rfl) (Nat.le_of_ble_eq_true rfl) (fun _ q => s_X12_isYear q) q (fun v36 h36 q => ?_)
    refine t_if_ne eX12_stands_39 (t := 48) (by decide) q (fun q => ?_) (fun q => ?_)
    · refine r_iload eX12_stands_48 rfl ?_
      refine t_if_eq eX12_stands_50 (t := 65) (by decide) q (fun q => ?_) (fun q => ?_)
      · refine r_aload_n eX12_stands_65 rfl ?_
        refine r_iload_n eX12_stands_66 rfl ?_
        refine r_iload_n eX12_stands_67 rfl ?_
        refine r_iload_n eX12_stands_68 rfl ?_
        refine r_iload eX12_stands_69 rfl ?_
        refine t_virtI (As := [_, _, _, _]) (rest := []) (d' := d + 1 + 2) (ci := 12) eX12_stands_71 k_12_211 rfl rfl rfl (by omega) (Nat.le_of_ble_eq_true rfl) (Nat.le_of_ble_eq_true rfl) (fun _ q => s_X12_standsAt q) q (fun v71 h71 q => ?_)
        exact t_rtZ eX12_stands_74 rfl q
      refine r_aload_n eX12_stands_53 rfl ?_
      refine r_iload_n eX12_stands_54 rfl ?_
      refine r_iload_n eX12_stands_55 rfl ?_
      refine r_iload_n eX12_stands_56 rfl ?_
      refine r_iload eX12_stands_57 rfl ?_
      refine t_virtI (As := [_, _, _, _]) (rest := []) (d' := d + 0 + 3) (ci := 12) eX12_stands_59 k_12_228 rfl rfl rfl (by omega) (Nat.le_of_ble_eq_true rfl) (Nat.le_of_ble_eq_true rfl) (fun _ q => s_X12_isSeenAt q) q (fun v59 h59 q => ?_)
      refine r_goto (t := 74) eX12_stands_62 (by decide) ?_
      exact t_rtZ eX12_stands_74 rfl q
    refine r_aload_n eX12_stands_42 rfl ?_
    refine r_iconst (v := (2)) eX12_stands_43 (by decide) ?_
    refine t_virtI (As := [_]) (rest := []) (d' := d + 3 + 0) (ci := 12) eX12_stands_44 k_12_225 rfl rfl rfl (by omega) (Nat.le_of_ble_eq_true rfl) (Nat.le_of_ble_eq_true rfl) (fun _ q => s_X12_fell q) q (fun v44 h44 q => ?_)
    exact t_rtZ eX12_stands_47 rfl q
  refine r_aload_n eX12_stands_28 rfl ?_
  refine r_iconst (v := (1)) eX12_stands_29 (by decide) ?_
  refine t_virtI (As := [_]) (rest := []) (d' := d + 3 + 0) (ci := 12) eX12_stands_30 k_12_225 rfl rfl rfl (by omega) (Nat.le_of_ble_eq_true rfl) (Nat.le_of_ble_eq_true rfl) (fun _ q => s_X12_fell q) q (fun v30 h30 q => ?_)
  exact t_rtZ eX12_stands_33 rfl q
theorem sL_X12_worth_86 {E : Ev} {d kc ks : Nat} {Φ : Ou → Hp → Prop} {y0 : Nat} {y1 : Int32} {y2 : Int32} {y3 : Int32} {y4 : Int32}  : ∀ (g : Nat) (y5 : Int32) (y6 : Int32) (h : Hp), OK (L_X12_worth_86 E y0 y1 y3 g y5 y6 h) Φ → WE E mX12_worth (d + 2) 86 [some (.ref y0), some (.int y1), some (.int y2), some (.int y3), some (.int y4), some (.int y5), some (.int y6), none, none] [] h kc ks Φ := by
  intro g
  induction g with
  | zero => intro y5 y6 h q; exact q.elim
  | succ g ih =>
    intro y5 y6 h q
    refine r_iload eX12_worth_86 rfl ?_
    refine r_aload_n eX12_worth_88 rfl ?_
    refine t_gfR eX12_worth_89 f_12_9 q (fun v89 q => ?_)
    refine r_iconst (v := (2)) eX12_worth_92 (by decide) ?_
    refine t_gaI eX12_worth_93 q (fun v93 q => ?_)
    refine t_icmp_ge eX12_worth_94 (t := 164) (by decide) q (fun q => ?_) (fun q => ?_)
    · refine r_iload eX12_worth_164 rfl ?_
      exact t_rtI eX12_worth_166 rfl q
    refine r_iload eX12_worth_97 rfl ?_
    refine r_iload eX12_worth_99 rfl ?_
    refine r_iload_n eX12_worth_101 rfl ?_
    refine t_icmp_eq eX12_worth_102 (t := 154) (by decide) q (fun q => ?_) (fun q => ?_)
    · refine r_iconst (v := (0)) eX12_worth_154 (by decide) ?_
      refine r_iadd eX12_worth_155 ?_
      refine r_istore (lv' := [_, _, _, _, _, _, _, _, _]) eX12_worth_156 (Nat.le_of_ble_eq_true rfl) rfl ?_
      refine r_iinc (v := (1)) (lv' := [_, _, _, _, _, _, _, _, _]) eX12_worth_158 rfl (by decide) rfl ?_
      refine r_goto (t := 86) eX12_worth_161 (by decide) ?_
      exact ih _ _ _ q
    refine r_aload_n eX12_worth_105 rfl ?_
    refine t_gfR eX12_worth_106 f_12_9 q (fun v106 q => ?_)
    refine r_sipush (v := (450)) eX12_worth_109 (by decide) ?_
    refine r_iconst (v := (5)) eX12_worth_112 (by decide) ?_
    refine r_iload eX12_worth_113 rfl ?_
    refine r_imul eX12_worth_115 ?_
    refine r_iadd eX12_worth_116 ?_
    refine r_iconst (v := (1)) eX12_worth_117 (by decide) ?_
    refine r_iadd eX12_worth_118 ?_
    refine t_gaI eX12_worth_119 q (fun v119 q => ?_)
    refine r_aload_n eX12_worth_120 rfl ?_
    refine t_gfR eX12_worth_121 f_12_9 q (fun v121 q => ?_)
    refine r_sipush (v := (450)) eX12_worth_124 (by decide) ?_
    refine r_iconst (v := (5)) eX12_worth_127 (by decide) ?_
    refine r_iload_n eX12_worth_128 rfl ?_
    refine r_imul eX12_worth_129 ?_
    refine r_iadd eX12_worth_130 ?_
    refine r_iconst (v := (1)) eX12_worth_131 (by decide) ?_
    refine r_iadd eX12_worth_132 ?_
    refine t_gaI eX12_worth_133 q (fun v133 q => ?_)
    refine t_icmp_ne eX12_worth_134 (t := 154) (by decide) q (fun q => ?_) (fun q => ?_)
    · refine r_iconst (v := (0)) eX12_worth_154 (by decide) ?_
      refine r_iadd eX12_worth_155 ?_
      refine r_istore (lv' := [_, _, _, _, _, _, _, _, _]) eX12_worth_156 (Nat.le_of_ble_eq_true rfl) rfl ?_
      refine r_iinc (v := (1)) (lv' := [_, _, _, _, _, _, _, _, _]) eX12_worth_158 rfl (by decide) rfl ?_
      refine r_goto (t := 86) eX12_worth_161 (by decide) ?_
      exact ih _ _ _ q
    refine r_aload_n eX12_worth_137 rfl ?_
    refine r_iload eX12_worth_138 rfl ?_
    refine r_sipush (v := (4095)) eX12_worth_140 (by decide) ?_
    refine r_iload_n eX12_worth_143 rfl ?_
    refine t_virtI (As := [_, _, _]) (rest := [_]) (d' := d + 0 + 1) (ci := 12) eX12_worth_144 k_12_208 rfl rfl rfl (by omega) (Nat.le_of_ble_eq_true rfl) (Nat.le_of_ble_eq_true rfl) (fun _ q => s_X12_isMark q) q (fun v144 h144 q => ?_)
    refine t_if_eq eX12_worth_147 (t := 154) (by decide) q (fun q => ?_) (fun q => ?_)
    · refine r_iconst (v := (0)) eX12_worth_154 (by decide) ?_
      refine r_iadd eX12_worth_155 ?_
      refine r_istore (lv' := [_, _, _, _, _, _, _, _, _]) eX12_worth_156 (Nat.le_of_ble_eq_true rfl) rfl ?_
      refine r_iinc (v := (1)) (lv' := [_, _, _, _, _, _, _, _, _]) eX12_worth_158 rfl (by decide) rfl ?_
      refine r_goto (t := 86) eX12_worth_161 (by decide) ?_
      exact ih _ _ _ q
    refine r_iconst (v := (1)) eX12_worth_150 (by decide) ?_
    refine r_goto (t := 155) eX12_worth_151 (by decide) ?_
    refine r_iadd eX12_worth_155 ?_
    refine r_istore (lv' := [_, _, _, _, _, _, _, _, _]) eX12_worth_156 (Nat.le_of_ble_eq_true rfl) rfl ?_
    refine r_iinc (v := (1)) (lv' := [_, _, _, _, _, _, _, _, _]) eX12_worth_158 rfl (by decide) rfl ?_
    refine r_goto (t := 86) eX12_worth_161 (by decide) ?_
    exact ih _ _ _ q
theorem sL_X12_worth_187 {E : Ev} {d kc ks : Nat} {Φ : Ou → Hp → Prop} {y0 : Nat} {y1 : Int32} {y2 : Int32} {y3 : Int32} {y4 : Int32} {y5 : Int32} {y6 : Int32} {K213 : Int32 → Hp → Rs} (hK213 : ∀ (w7 : Int32) (w8 : Int32) (h : Hp), OK (K213 w7 h) Φ → WE E mX12_worth (d + 2) 213 [some (.ref y0), some (.int y1), some (.int y2), some (.int y3), some (.int y4), some (.int y5), some (.int y6), some (.int w7), some (.int w8)] [] h kc ks Φ) : ∀ (g : Nat) (y7 : Int32) (y8 : Int32) (h : Hp), OK (L_X12_worth_187 E K213 y0 y6 g y7 y8 h) Φ → WE E mX12_worth (d + 2) 187 [some (.ref y0), some (.int y1), some (.int y2), some (.int y3), some (.int y4), some (.int y5), some (.int y6), some (.int y7), some (.int y8)] [] h kc ks Φ := by
  intro g
  induction g with
  | zero => intro y7 y8 h q; exact q.elim
  | succ g ih =>
    intro y7 y8 h q
    refine r_iload eX12_worth_187 rfl ?_
    refine r_bipush (v := (12)) eX12_worth_189 (by decide) ?_
    refine t_icmp_ge eX12_worth_191 (t := 213) (by decide) q (fun q => ?_) (fun q => ?_)
    · exact hK213 _ _ _ q
    refine r_iload eX12_worth_194 rfl ?_
    refine r_aload_n eX12_worth_196 rfl ?_
    refine r_iload eX12_worth_197 rfl ?_
    refine r_iload eX12_worth_199 rfl ?_
    refine t_virtI (As := [_, _]) (rest := [_]) (d' := d + 1 + 0) (ci := 12) eX12_worth_201 k_12_205 rfl rfl rfl (by omega) (Nat.le_of_ble_eq_true rfl) (Nat.le_of_ble_eq_true rfl) (fun _ q => s_X12_kindsOf q) q (fun v201 h201 q => ?_)
    refine r_ior eX12_worth_204 ?_
    refine r_istore (lv' := [_, _, _, _, _, _, _, _, _]) eX12_worth_205 (Nat.le_of_ble_eq_true rfl) rfl ?_
    refine r_iinc (v := (1)) (lv' := [_, _, _, _, _, _, _, _, _]) eX12_worth_207 rfl (by decide) rfl ?_
    refine r_goto (t := 187) eX12_worth_210 (by decide) ?_
    exact ih _ _ _ q
theorem sL_X12_worth_170 {E : Ev} {d kc ks : Nat} {Φ : Ou → Hp → Prop} {y0 : Nat} {y1 : Int32} {y2 : Int32} {y3 : Int32} {y4 : Int32}  : ∀ (g : Nat) (y5 : Int32) (y6 : Int32) (y7 : Option Value) (y8 : Option Value) (h : Hp), OK (L_X12_worth_170 E y0 y1 y2 y3 g y5 y6 h) Φ → WE E mX12_worth (d + 2) 170 [some (.ref y0), some (.int y1), some (.int y2), some (.int y3), some (.int y4), some (.int y5), some (.int y6), y7, y8] [] h kc ks Φ := by
  intro g
  induction g with
  | zero => intro y5 y6 y7 y8 h q; exact q.elim
  | succ g ih =>
    intro y5 y6 y7 y8 h q
    refine r_iload eX12_worth_170 rfl ?_
    refine r_aload_n eX12_worth_172 rfl ?_
    refine t_gfR eX12_worth_173 f_12_9 q (fun v173 q => ?_)
    refine r_iconst (v := (4)) eX12_worth_176 (by decide) ?_
    refine t_gaI eX12_worth_177 q (fun v177 q => ?_)
    refine t_icmp_ge eX12_worth_178 (t := 250) (by decide) q (fun q => ?_) (fun q => ?_)
    · refine r_iload eX12_worth_250 rfl ?_
      exact t_rtI eX12_worth_252 rfl q
    refine r_iconst (v := (0)) eX12_worth_181 (by decide) ?_
    refine r_istore (lv' := [_, _, _, _, _, _, _, _, _]) eX12_worth_182 (Nat.le_of_ble_eq_true rfl) rfl ?_
    refine r_iconst (v := (0)) eX12_worth_184 (by decide) ?_
    refine r_istore (lv' := [_, _, _, _, _, _, _, _, _]) eX12_worth_185 (Nat.le_of_ble_eq_true rfl) rfl ?_
    refine sL_X12_worth_187 (fun w1 w2 h3 q => ?_) _ _ _ _ q
    refine r_iload eX12_worth_213 rfl ?_
    refine r_iload_n eX12_worth_215 rfl ?_
    refine r_iload eX12_worth_216 rfl ?_
    refine r_ishr eX12_worth_218 ?_
    refine r_iconst (v := (1)) eX12_worth_219 (by decide) ?_
    refine r_iand eX12_worth_220 ?_
    refine r_iconst (v := (1)) eX12_worth_221 (by decide) ?_
    refine t_icmp_ne eX12_worth_222 (t := 240) (by decide) q (fun q => ?_) (fun q => ?_)
    · refine r_iconst (v := (0)) eX12_worth_240 (by decide) ?_
      refine r_iadd eX12_worth_241 ?_
      refine r_istore (lv' := [_, _, _, _, _, _, _, _, _]) eX12_worth_242 (Nat.le_of_ble_eq_true rfl) rfl ?_
      refine r_iinc (v := (1)) (lv' := [_, _, _, _, _, _, _, _, _]) eX12_worth_244 rfl (by decide) rfl ?_
      refine r_goto (t := 170) eX12_worth_247 (by decide) ?_
      exact ih _ _ _ _ _ q
    refine r_aload_n eX12_worth_225 rfl ?_
    refine r_iload_n eX12_worth_226 rfl ?_
    refine r_iload eX12_worth_227 rfl ?_
    refine r_iload_n eX12_worth_229 rfl ?_
    refine t_virtI (As := [_, _, _]) (rest := [_]) (d' := d + 0 + 1) (ci := 12) eX12_worth_230 k_12_208 rfl rfl rfl (by omega) (Nat.le_of_ble_eq_true rfl) (Nat.le_of_ble_eq_true rfl) (fun _ q => s_X12_isMark q) q (fun v230 h230 q => ?_)
    refine t_if_eq eX12_worth_233 (t := 240) (by decide) q (fun q => ?_) (fun q => ?_)
    · refine r_iconst (v := (0)) eX12_worth_240 (by decide) ?_
      refine r_iadd eX12_worth_241 ?_
      refine r_istore (lv' := [_, _, _, _, _, _, _, _, _]) eX12_worth_242 (Nat.le_of_ble_eq_true rfl) rfl ?_
      refine r_iinc (v := (1)) (lv' := [_, _, _, _, _, _, _, _, _]) eX12_worth_244 rfl (by decide) rfl ?_
      refine r_goto (t := 170) eX12_worth_247 (by decide) ?_
      exact ih _ _ _ _ _ q
    refine r_iconst (v := (1)) eX12_worth_236 (by decide) ?_
    refine r_goto (t := 241) eX12_worth_237 (by decide) ?_
    refine r_iadd eX12_worth_241 ?_
    refine r_istore (lv' := [_, _, _, _, _, _, _, _, _]) eX12_worth_242 (Nat.le_of_ble_eq_true rfl) rfl ?_
    refine r_iinc (v := (1)) (lv' := [_, _, _, _, _, _, _, _, _]) eX12_worth_244 rfl (by decide) rfl ?_
    refine r_goto (t := 170) eX12_worth_247 (by decide) ?_
    exact ih _ _ _ _ _ q
theorem s_X12_worth {E : Ev} {d : Nat} {a0 : Nat} {x1 : Int32} {x2 : Int32} {x3 : Int32} {x4 : Int32} {h : Hp} {Φ : Ou → Hp → Prop} (q : OK (F_X12_worth E a0 x1 x2 x3 x4 h) Φ) : CE E mX12_worth (d + 2) [.ref a0, .int x1, .int x2, .int x3, .int x4] h 0 0 Φ := by
  show WE E mX12_worth (d + 2) 0 [some (.ref a0), some (.int x1), some (.int x2), some (.int x3), some (.int x4), none, none, none, none] [] h 0 0 Φ
  refine r_aload_n eX12_worth_0 rfl ?_
  refine r_iconst (v := (0)) eX12_worth_1 (by decide) ?_
  refine t_pf eX12_worth_2 p_12_97 rfl rfl (fun q => by cases q) q (fun h2 q => ?_)
  refine r_aload_n eX12_worth_5 rfl ?_
  refine r_iconst (v := (2)) eX12_worth_6 (by decide) ?_
  refine r_iload_n eX12_worth_7 rfl ?_
  refine t_virtI (As := [_, _]) (rest := []) (d' := d + 0 + 1) (ci := 12) eX12_worth_8 k_12_106 rfl rfl rfl (by omega) (Nat.le_of_ble_eq_true rfl) (Nat.le_of_ble_eq_true rfl) (fun _ q => s_X12_is q) q (fun v8 h8 q => ?_)
  refine t_if_ne eX12_worth_11 (t := 20) (by decide) q (fun q => ?_) (fun q => ?_)
  · refine r_iload_n eX12_worth_20 rfl ?_
    refine t_if_lt eX12_worth_21 (t := 54) (by decide) q (fun q => ?_) (fun q => ?_)
    · refine r_aload_n eX12_worth_54 rfl ?_
      refine r_iconst (v := (2)) eX12_worth_55 (by decide) ?_
      refine t_virtI (As := [_]) (rest := []) (d' := d + 1 + 0) (ci := 12) eX12_worth_56 k_12_114 rfl rfl rfl (by omega) (Nat.le_of_ble_eq_true rfl) (Nat.le_of_ble_eq_true rfl) (fun _ q => s_X12_fails q) q (fun v56 h56 q => ?_)
      exact t_rtI eX12_worth_59 rfl q
    refine r_iload_n eX12_worth_24 rfl ?_
    refine r_iconst (v := (1)) eX12_worth_25 (by decide) ?_
    refine r_aload_n eX12_worth_26 rfl ?_
    refine t_gfR eX12_worth_27 f_12_9 q (fun v27 q => ?_)
    refine r_iconst (v := (4)) eX12_worth_30 (by decide) ?_
    refine t_gaI eX12_worth_31 q (fun v31 q => ?_)
    refine r_ishl eX12_worth_32 ?_
    refine t_icmp_ge eX12_worth_33 (t := 54) (by decide) q (fun q => ?_) (fun q => ?_)
    · refine r_aload_n eX12_worth_54 rfl ?_
      refine r_iconst (v := (2)) eX12_worth_55 (by decide) ?_
      refine t_virtI (As := [_]) (rest := []) (d' := d + 1 + 0) (ci := 12) eX12_worth_56 k_12_114 rfl rfl rfl (by omega) (Nat.le_of_ble_eq_true rfl) (Nat.le_of_ble_eq_true rfl) (fun _ q => s_X12_fails q) q (fun v56 h56 q => ?_)
      exact t_rtI eX12_worth_59 rfl q
    refine r_iload_n eX12_worth_36 rfl ?_
    refine t_statI (As := [_]) (rest := []) (d' := d + 0 + 1) eX12_worth_37 k_12_127 rfl (by omega) (Nat.le_of_ble_eq_true rfl) (Nat.le_of_ble_eq_true rfl) (fun _ q => s_X12_isYear q) q (fun v37 h37 q => ?_)
    refine t_if_eq eX12_worth_40 (t := 54) (by decide) q (fun q => ?_) (fun q => ?_)
    · refine r_aload_n eX12_worth_54 rfl ?_
      refine r_iconst (v := (2)) eX12_worth_55 (by decide) ?_
      refine t_virtI (As := [_]) (rest := []) (d' := d + 1 + 0) (ci := 12) eX12_worth_56 k_12_114 rfl rfl rfl (by omega) (Nat.le_of_ble_eq_true rfl) (Nat.le_of_ble_eq_true rfl) (fun _ q => s_X12_fails q) q (fun v56 h56 q => ?_)
      exact t_rtI eX12_worth_59 rfl q
    refine r_iload eX12_worth_43 rfl ?_
    refine r_i2l eX12_worth_45 ?_
    refine r_lconst (v := 0) eX12_worth_46 rfl ?_
    refine r_lconst (v := 1) eX12_worth_47 rfl ?_
    refine t_statI (As := [_, _, _]) (rest := []) (d' := d + 1 + 0) eX12_worth_48 k_12_102 rfl (by omega) (Nat.le_of_ble_eq_true rfl) (Nat.le_of_ble_eq_true rfl) (fun _ q => s_X12_within q) q (fun v48 h48 q => ?_)
    refine t_if_ne eX12_worth_51 (t := 60) (by decide) q (fun q => ?_) (fun q => ?_)
    · refine r_aload_n eX12_worth_60 rfl ?_
      refine r_iload_n eX12_worth_61 rfl ?_
      refine r_sipush (v := (4095)) eX12_worth_62 (by decide) ?_
      refine r_iload_n eX12_worth_65 rfl ?_
      refine t_virtI (As := [_, _, _]) (rest := []) (d' := d + 0 + 1) (ci := 12) eX12_worth_66 k_12_208 rfl rfl rfl (by omega) (Nat.le_of_ble_eq_true rfl) (Nat.le_of_ble_eq_true rfl) (fun _ q => s_X12_isMark q) q (fun v66 h66 q => ?_)
      refine t_if_ne eX12_worth_69 (t := 74) (by decide) q (fun q => ?_) (fun q => ?_)
      · refine r_iconst (v := (0)) eX12_worth_74 (by decide) ?_
        refine r_istore (lv' := [_, _, _, _, _, _, _, _, _]) eX12_worth_75 (Nat.le_of_ble_eq_true rfl) rfl ?_
        refine r_iload eX12_worth_77 rfl ?_
        refine r_iconst (v := (1)) eX12_worth_79 (by decide) ?_
        refine t_icmp_ne eX12_worth_80 (t := 167) (by decide) q (fun q => ?_) (fun q => ?_)
        · refine r_iconst (v := (0)) eX12_worth_167 (by decide) ?_
          refine r_istore (lv' := [_, _, _, _, _, _, _, _, _]) eX12_worth_168 (Nat.le_of_ble_eq_true rfl) rfl ?_
          exact sL_X12_worth_170  _ _ _ _ _ _ q
        refine r_iconst (v := (0)) eX12_worth_83 (by decide) ?_
        refine r_istore (lv' := [_, _, _, _, _, _, _, _, _]) eX12_worth_84 (Nat.le_of_ble_eq_true rfl) rfl ?_
        exact sL_X12_worth_86  _ _ _ _ q
      refine r_iconst (v := (-1)) eX12_worth_72 (by decide) ?_
      exact t_rtI eX12_worth_73 rfl q
    refine r_aload_n eX12_worth_54 rfl ?_
    refine r_iconst (v := (2)) eX12_worth_55 (by decide) ?_
    refine t_virtI (As := [_]) (rest := []) (d' := d + 1 + 0) (ci := 12) eX12_worth_56 k_12_114 rfl rfl rfl (by omega) (Nat.le_of_ble_eq_true rfl) (Nat.le_of_ble_eq_true rfl) (fun _ q => s_X12_fails q) q (fun v56 h56 q => ?_)
    exact t_rtI eX12_worth_59 rfl q
  refine r_aload_n eX12_worth_14 rfl ?_
  refine r_iconst (v := (1)) eX12_worth_15 (by decide) ?_
  refine t_virtI (As := [_]) (rest := []) (d' := d + 1 + 0) (ci := 12) eX12_worth_16 k_12_114 rfl rfl rfl (by omega) (Nat.le_of_ble_eq_true rfl) (Nat.le_of_ble_eq_true rfl) (fun _ q => s_X12_fails q) q (fun v16 h16 q => ?_)
  exact t_rtI eX12_worth_19 rfl q
theorem sJ_X12_feed_76 {E : Ev} {d kc ks : Nat} {Φ : Ou → Hp → Prop} {y0 : Nat} {y1 : Int32} {y2 : Int32} {y3 : Int32} {y4 : Int32} {y5 : Int32} {y6 : Int32} {y7 : Option Value} {t0 : Int32} {h : Hp} {K23 : Int32 → Hp → Rs} (hK23 : ∀ (w6 : Int32) (w7 : Option Value) (h : Hp), OK (K23 w6 h) Φ → WE E mX12_feed (d + 0) 23 [some (.ref y0), some (.int y1), some (.int y2), some (.int y3), some (.int y4), some (.int y5), some (.int w6), w7] [] h kc ks Φ) (q : OK (J_X12_feed_76 E K23 y0 y1 y2 y3 y4 y5 y6 t0 h) Φ) : WE E mX12_feed (d + 0) 76 [some (.ref y0), some (.int y1), some (.int y2), some (.int y3), some (.int y4), some (.int y5), some (.int y6), y7] [.int t0] h kc ks Φ := by
  refine r_istore (lv' := [_, _, _, _, _, _, _, _]) eX12_feed_76 (Nat.le_of_ble_eq_true rfl) rfl ?_
  refine r_aload_n eX12_feed_78 rfl ?_
  refine t_gfR eX12_feed_79 f_12_37 q (fun v79 q => ?_)
  refine r_aload_n eX12_feed_82 rfl ?_
  refine t_gfI eX12_feed_83 f_12_231 q (fun v83 q => ?_)
  refine r_iload eX12_feed_86 rfl ?_
  refine r_bipush (v := (24)) eX12_feed_88 (by decide) ?_
  refine r_bipush (v := (8)) eX12_feed_90 (by decide) ?_
  refine r_iload eX12_feed_92 rfl ?_
  refine r_iconst (v := (3)) eX12_feed_94 (by decide) ?_
  refine r_iand eX12_feed_95 ?_
  refine r_imul eX12_feed_96 ?_
  refine r_isub eX12_feed_97 ?_
  refine r_iushr eX12_feed_98 ?_
  refine r_sipush (v := (255)) eX12_feed_99 (by decide) ?_
  refine r_iand eX12_feed_102 ?_
  refine t_paI eX12_feed_103 q (fun h103 q => ?_)
  refine r_aload_n eX12_feed_104 rfl ?_
  refine r_dup eX12_feed_105 rfl ?_
  refine t_gfI eX12_feed_106 f_12_231 q (fun v106 q => ?_)
  refine r_iconst (v := (1)) eX12_feed_109 (by decide) ?_
  refine r_iadd eX12_feed_110 ?_
  refine t_pf eX12_feed_111 p_12_231 rfl rfl (fun q => by cases q) q (fun h111 q => ?_)
  refine r_iinc (v := (1)) (lv' := [_, _, _, _, _, _, _, _]) eX12_feed_114 rfl (by decide) rfl ?_
  refine r_goto (t := 23) eX12_feed_117 (by decide) ?_
  exact hK23 _ _ _ q
theorem sL_X12_feed_23 {E : Ev} {d kc ks : Nat} {Φ : Ou → Hp → Prop} {y0 : Nat} {y1 : Int32} {y2 : Int32} {y3 : Int32} {y4 : Int32} {y5 : Int32}  : ∀ (g : Nat) (y6 : Int32) (y7 : Option Value) (h : Hp), OK (L_X12_feed_23 E y0 y1 y2 y3 y4 y5 g y6 h) Φ → WE E mX12_feed (d + 0) 23 [some (.ref y0), some (.int y1), some (.int y2), some (.int y3), some (.int y4), some (.int y5), some (.int y6), y7] [] h kc ks Φ := by
  intro g
  induction g with
  | zero => intro y6 y7 h q; exact q.elim
  | succ g ih =>
    intro y6 y7 h q
    refine r_iload eX12_feed_23 rfl ?_
    refine r_bipush (v := (20)) eX12_feed_25 (by decide) ?_
    refine t_icmp_ge eX12_feed_27 (t := 120) (by decide) q (fun q => ?_) (fun q => ?_)
    · refine r_aload_n eX12_feed_120 rfl ?_
      refine t_gfI eX12_feed_121 f_12_231 q (fun v121 q => ?_)
      exact t_rtI eX12_feed_124 rfl q
    refine r_iload eX12_feed_30 rfl ?_
    refine r_iconst (v := (4)) eX12_feed_32 (by decide) ?_
    refine t_icmp_ge eX12_feed_33 (t := 40) (by decide) q (fun q => ?_) (fun q => ?_)
    · refine r_iload eX12_feed_40 rfl ?_
      refine r_bipush (v := (8)) eX12_feed_42 (by decide) ?_
      refine t_icmp_ge eX12_feed_44 (t := 51) (by decide) q (fun q => ?_) (fun q => ?_)
      · refine r_iload eX12_feed_51 rfl ?_
        refine r_bipush (v := (12)) eX12_feed_53 (by decide) ?_
        refine t_icmp_ge eX12_feed_55 (t := 62) (by decide) q (fun q => ?_) (fun q => ?_)
        · refine r_iload eX12_feed_62 rfl ?_
          refine r_bipush (v := (16)) eX12_feed_64 (by decide) ?_
          refine t_icmp_ge eX12_feed_66 (t := 74) (by decide) q (fun q => ?_) (fun q => ?_)
          · refine r_iload eX12_feed_74 rfl ?_
            refine sJ_X12_feed_76 (fun w1 w2 h3 q => ?_) q
            exact ih _ _ _ q
          refine r_iload eX12_feed_69 rfl ?_
          refine r_goto (t := 76) eX12_feed_71 (by decide) ?_
          refine sJ_X12_feed_76 (fun w4 w5 h6 q => ?_) q
          exact ih _ _ _ q
        refine r_iload_n eX12_feed_58 rfl ?_
        refine r_goto (t := 76) eX12_feed_59 (by decide) ?_
        refine sJ_X12_feed_76 (fun w7 w8 h9 q => ?_) q
        exact ih _ _ _ q
      refine r_iload_n eX12_feed_47 rfl ?_
      refine r_goto (t := 76) eX12_feed_48 (by decide) ?_
      refine sJ_X12_feed_76 (fun w10 w11 h12 q => ?_) q
      exact ih _ _ _ q
    refine r_iload_n eX12_feed_36 rfl ?_
    refine r_goto (t := 76) eX12_feed_37 (by decide) ?_
    refine sJ_X12_feed_76 (fun w13 w14 h15 q => ?_) q
    exact ih _ _ _ q
theorem s_X12_feed {E : Ev} {d : Nat} {a0 : Nat} {x1 : Int32} {x2 : Int32} {x3 : Int32} {x4 : Int32} {x5 : Int32} {h : Hp} {Φ : Ou → Hp → Prop} (q : OK (F_X12_feed E a0 x1 x2 x3 x4 x5 h) Φ) : CE E mX12_feed (d + 0) [.ref a0, .int x1, .int x2, .int x3, .int x4, .int x5] h 0 0 Φ := by
  show WE E mX12_feed (d + 0) 0 [some (.ref a0), some (.int x1), some (.int x2), some (.int x3), some (.int x4), some (.int x5), none, none] [] h 0 0 Φ
  refine r_aload_n eX12_feed_0 rfl ?_
  refine r_iconst (v := (0)) eX12_feed_1 (by decide) ?_
  refine t_pf eX12_feed_2 p_12_97 rfl rfl (fun q => by cases q) q (fun h2 q => ?_)
  refine r_aload_n eX12_feed_5 rfl ?_
  refine t_gfI eX12_feed_6 f_12_231 q (fun v6 q => ?_)
  refine r_bipush (v := (20)) eX12_feed_9 (by decide) ?_
  refine r_iadd eX12_feed_11 ?_
  refine r_sipush (v := (200)) eX12_feed_12 (by decide) ?_
  refine t_icmp_le eX12_feed_15 (t := 20) (by decide) q (fun q => ?_) (fun q => ?_)
  · refine r_iconst (v := (0)) eX12_feed_20 (by decide) ?_
    refine r_istore (lv' := [_, _, _, _, _, _, _, _]) eX12_feed_21 (Nat.le_of_ble_eq_true rfl) rfl ?_
    exact sL_X12_feed_23  _ _ _ _ q
  refine r_iconst (v := (-1)) eX12_feed_18 (by decide) ?_
  exact t_rtI eX12_feed_19 rfl q
theorem s_X12_see {E : Ev} {d : Nat} {a0 : Nat} {x1 : Int32} {h : Hp} {Φ : Ou → Hp → Prop} (q : OK (F_X12_see E a0 x1 h) Φ) : CE E mX12_see (d + 0) [.ref a0, .int x1] h 0 0 Φ := by
  show WE E mX12_see (d + 0) 0 [some (.ref a0), some (.int x1)] [] h 0 0 Φ
  refine r_iload_n eX12_see_0 rfl ?_
  refine r_aload_n eX12_see_1 rfl ?_
  refine t_gfI eX12_see_2 f_12_234 q (fun v2 q => ?_)
  refine t_icmp_ge eX12_see_5 (t := 17) (by decide) q (fun q => ?_) (fun q => ?_)
  · refine r_iconst (v := (0)) eX12_see_17 (by decide) ?_
    exact t_rtI eX12_see_18 rfl q
  refine r_aload_n eX12_see_8 rfl ?_
  refine t_gfR eX12_see_9 f_12_37 q (fun v9 q => ?_)
  refine r_iload_n eX12_see_12 rfl ?_
  refine t_gaI eX12_see_13 q (fun v13 q => ?_)
  refine r_goto (t := 18) eX12_see_14 (by decide) ?_
  exact t_rtI eX12_see_18 rfl q
theorem s_X12_isLetter {E : Ev} {d : Nat} {x0 : Int32} {h : Hp} {Φ : Ou → Hp → Prop} (q : OK (F_X12_isLetter E x0 h) Φ) : CE E mX12_isLetter (d + 0) [.int x0] h 0 0 Φ := by
  show WE E mX12_isLetter (d + 0) 0 [some (.int x0)] [] h 0 0 Φ
  refine r_iload_n eX12_isLetter_0 rfl ?_
  refine r_bipush (v := (97)) eX12_isLetter_1 (by decide) ?_
  refine t_icmp_lt eX12_isLetter_3 (t := 16) (by decide) q (fun q => ?_) (fun q => ?_)
  · refine r_iconst (v := (0)) eX12_isLetter_16 (by decide) ?_
    exact t_rtZ eX12_isLetter_17 rfl q
  refine r_iload_n eX12_isLetter_6 rfl ?_
  refine r_bipush (v := (122)) eX12_isLetter_7 (by decide) ?_
  refine t_icmp_gt eX12_isLetter_9 (t := 16) (by decide) q (fun q => ?_) (fun q => ?_)
  · refine r_iconst (v := (0)) eX12_isLetter_16 (by decide) ?_
    exact t_rtZ eX12_isLetter_17 rfl q
  refine r_iconst (v := (1)) eX12_isLetter_12 (by decide) ?_
  refine r_goto (t := 17) eX12_isLetter_13 (by decide) ?_
  exact t_rtZ eX12_isLetter_17 rfl q
theorem s_X12_isDigit {E : Ev} {d : Nat} {x0 : Int32} {h : Hp} {Φ : Ou → Hp → Prop} (q : OK (F_X12_isDigit E x0 h) Φ) : CE E mX12_isDigit (d + 0) [.int x0] h 0 0 Φ := by
  show WE E mX12_isDigit (d + 0) 0 [some (.int x0)] [] h 0 0 Φ
  refine r_iload_n eX12_isDigit_0 rfl ?_
  refine r_bipush (v := (48)) eX12_isDigit_1 (by decide) ?_
  refine t_icmp_lt eX12_isDigit_3 (t := 16) (by decide) q (fun q => ?_) (fun q => ?_)
  · refine r_iconst (v := (0)) eX12_isDigit_16 (by decide) ?_
    exact t_rtZ eX12_isDigit_17 rfl q
  refine r_iload_n eX12_isDigit_6 rfl ?_
  refine r_bipush (v := (57)) eX12_isDigit_7 (by decide) ?_
  refine t_icmp_gt eX12_isDigit_9 (t := 16) (by decide) q (fun q => ?_) (fun q => ?_)
  · refine r_iconst (v := (0)) eX12_isDigit_16 (by decide) ?_
    exact t_rtZ eX12_isDigit_17 rfl q
  refine r_iconst (v := (1)) eX12_isDigit_12 (by decide) ?_
  refine r_goto (t := 17) eX12_isDigit_13 (by decide) ?_
  exact t_rtZ eX12_isDigit_17 rfl q
theorem sJ_X12_next_39 {E : Ev} {d kc ks : Nat} {Φ : Ou → Hp → Prop} {y0 : Nat} {h : Hp} {K0 : Hp → Rs} (hK0 : ∀  (h : Hp), OK (K0 h) Φ → WE E mX12_next (d + 1) 0 [some (.ref y0), none] [] h kc ks Φ) (q : OK (J_X12_next_39 E K0 y0 h) Φ) : WE E mX12_next (d + 1) 39 [some (.ref y0), none] [] h kc ks Φ := by
  refine r_aload_n eX12_next_39 rfl ?_
  refine r_dup eX12_next_40 rfl ?_
  refine t_gfI eX12_next_41 f_12_237 q (fun v41 q => ?_)
  refine r_iconst (v := (1)) eX12_next_44 (by decide) ?_
  refine r_iadd eX12_next_45 ?_
  refine t_pf eX12_next_46 p_12_237 rfl rfl (fun q => by cases q) q (fun h46 q => ?_)
  refine r_goto (t := 0) eX12_next_49 (by decide) ?_
  exact hK0 _ q
theorem sL_X12_next_0 {E : Ev} {d kc ks : Nat} {Φ : Ou → Hp → Prop} {y0 : Nat} {K52 : Hp → Rs} (hK52 : ∀  (h : Hp), OK (K52 h) Φ → WE E mX12_next (d + 1) 52 [some (.ref y0), none] [] h kc ks Φ) : ∀ (g : Nat)  (h : Hp), OK (L_X12_next_0 E K52 y0 g h) Φ → WE E mX12_next (d + 1) 0 [some (.ref y0), none] [] h kc ks Φ := by
  intro g
  induction g with
  | zero => intro  h q; exact q.elim
  | succ g ih =>
    intro  h q
    refine r_aload_n eX12_next_0 rfl ?_
    refine t_gfI eX12_next_1 f_12_237 q (fun v1 q => ?_)
    refine r_aload_n eX12_next_4 rfl ?_
    refine t_gfI eX12_next_5 f_12_234 q (fun v5 q => ?_)
    refine t_icmp_ge eX12_next_8 (t := 52) (by decide) q (fun q => ?_) (fun q => ?_)
    · exact hK52 _ q
    refine r_aload_n eX12_next_11 rfl ?_
    refine t_gfR eX12_next_12 f_12_37 q (fun v12 q => ?_)
    refine r_aload_n eX12_next_15 rfl ?_
    refine t_gfI eX12_next_16 f_12_237 q (fun v16 q => ?_)
    refine t_gaI eX12_next_19 q (fun v19 q => ?_)
    refine r_bipush (v := (32)) eX12_next_20 (by decide) ?_
    refine t_icmp_eq eX12_next_22 (t := 39) (by decide) q (fun q => ?_) (fun q => ?_)
    · refine sJ_X12_next_39 (fun h1 q => ?_) q
      exact ih _ q
    refine r_aload_n eX12_next_25 rfl ?_
    refine t_gfR eX12_next_26 f_12_37 q (fun v26 q => ?_)
    refine r_aload_n eX12_next_29 rfl ?_
    refine t_gfI eX12_next_30 f_12_237 q (fun v30 q => ?_)
    refine t_gaI eX12_next_33 q (fun v33 q => ?_)
    refine r_bipush (v := (10)) eX12_next_34 (by decide) ?_
    refine t_icmp_ne eX12_next_36 (t := 52) (by decide) q (fun q => ?_) (fun q => ?_)
    · exact hK52 _ q
    refine sJ_X12_next_39 (fun h2 q => ?_) q
    exact ih _ q
theorem sJ_X12_next_249 {E : Ev} {d kc ks : Nat} {Φ : Ou → Hp → Prop} {y0 : Nat} {y1 : Int32} {t0 : Nat} {t1 : Int32} {h : Hp}  (q : OK (J_X12_next_249 E y0 t0 t1 h) Φ) : WE E mX12_next (d + 1) 249 [some (.ref y0), some (.int y1)] [.int t1, .ref t0] h kc ks Φ := by
  refine t_pf eX12_next_249 p_12_243 rfl rfl (fun q => by cases q) q (fun h249 q => ?_)
  refine r_aload_n eX12_next_252 rfl ?_
  refine r_dup eX12_next_253 rfl ?_
  refine t_gfI eX12_next_254 f_12_237 q (fun v254 q => ?_)
  refine r_iconst (v := (1)) eX12_next_257 (by decide) ?_
  refine r_iadd eX12_next_258 ?_
  refine t_pf eX12_next_259 p_12_237 rfl rfl (fun q => by cases q) q (fun h259 q => ?_)
  exact t_rtV eX12_next_262 rfl q
theorem sJ_X12_next_196 {E : Ev} {d kc ks : Nat} {Φ : Ou → Hp → Prop} {y0 : Nat} {y1 : Int32} {t0 : Nat} {t1 : Int32} {h : Hp} {K141 : Hp → Rs} (hK141 : ∀  (h : Hp), OK (K141 h) Φ → WE E mX12_next (d + 1) 141 [some (.ref y0), some (.int y1)] [] h kc ks Φ) (q : OK (J_X12_next_196 E K141 y0 t0 t1 h) Φ) : WE E mX12_next (d + 1) 196 [some (.ref y0), some (.int y1)] [.int t1, .ref t0] h kc ks Φ := by
  refine t_pf eX12_next_196 p_12_255 rfl rfl (fun q => by cases q) q (fun h196 q => ?_)
  refine r_aload_n eX12_next_199 rfl ?_
  refine r_dup eX12_next_200 rfl ?_
  refine t_gfI eX12_next_201 f_12_237 q (fun v201 q => ?_)
  refine r_iconst (v := (1)) eX12_next_204 (by decide) ?_
  refine r_iadd eX12_next_205 ?_
  refine t_pf eX12_next_206 p_12_237 rfl rfl (fun q => by cases q) q (fun h206 q => ?_)
  refine r_goto (t := 141) eX12_next_209 (by decide) ?_
  exact hK141 _ q
theorem sL_X12_next_141 {E : Ev} {d kc ks : Nat} {Φ : Ou → Hp → Prop} {y0 : Nat} {y1 : Int32} {K212 : Hp → Rs} (hK212 : ∀  (h : Hp), OK (K212 h) Φ → WE E mX12_next (d + 1) 212 [some (.ref y0), some (.int y1)] [] h kc ks Φ) : ∀ (g : Nat)  (h : Hp), OK (L_X12_next_141 E K212 y0 g h) Φ → WE E mX12_next (d + 1) 141 [some (.ref y0), some (.int y1)] [] h kc ks Φ := by
  intro g
  induction g with
  | zero => intro  h q; exact q.elim
  | succ g ih =>
    intro  h q
    refine r_aload_n eX12_next_141 rfl ?_
    refine r_aload_n eX12_next_142 rfl ?_
    refine t_gfI eX12_next_143 f_12_237 q (fun v143 q => ?_)
    refine t_virtI (As := [_]) (rest := []) (d' := d + 0 + 0) (ci := 12) eX12_next_146 k_12_249 rfl rfl rfl (by omega) (Nat.le_of_ble_eq_true rfl) (Nat.le_of_ble_eq_true rfl) (fun _ q => s_X12_see q) q (fun v146 h146 q => ?_)
    refine t_statI (As := [_]) (rest := []) (d' := d + 0 + 0) eX12_next_149 k_12_252 rfl (by omega) (Nat.le_of_ble_eq_true rfl) (Nat.le_of_ble_eq_true rfl) (fun _ q => s_X12_isDigit q) q (fun v149 h149 q => ?_)
    refine t_if_eq eX12_next_152 (t := 212) (by decide) q (fun q => ?_) (fun q => ?_)
    · exact hK212 _ q
    refine r_aload_n eX12_next_155 rfl ?_
    refine r_aload_n eX12_next_156 rfl ?_
    refine t_gfI eX12_next_157 f_12_237 q (fun v157 q => ?_)
    refine r_aload_n eX12_next_160 rfl ?_
    refine t_gfI eX12_next_161 f_12_240 q (fun v161 q => ?_)
    refine r_isub eX12_next_164 ?_
    refine r_iconst (v := (2)) eX12_next_165 (by decide) ?_
    refine t_icmp_ge eX12_next_166 (t := 192) (by decide) q (fun q => ?_) (fun q => ?_)
    · refine r_aload_n eX12_next_192 rfl ?_
      refine t_gfI eX12_next_193 f_12_255 q (fun v193 q => ?_)
      refine sJ_X12_next_196 (fun h1 q => ?_) q
      exact ih _ q
    refine r_bipush (v := (10)) eX12_next_169 (by decide) ?_
    refine r_aload_n eX12_next_171 rfl ?_
    refine t_gfI eX12_next_172 f_12_255 q (fun v172 q => ?_)
    refine r_imul eX12_next_175 ?_
    refine r_aload_n eX12_next_176 rfl ?_
    refine t_gfR eX12_next_177 f_12_37 q (fun v177 q => ?_)
    refine r_aload_n eX12_next_180 rfl ?_
    refine t_gfI eX12_next_181 f_12_237 q (fun v181 q => ?_)
    refine t_gaI eX12_next_184 q (fun v184 q => ?_)
    refine r_iadd eX12_next_185 ?_
    refine r_bipush (v := (48)) eX12_next_186 (by decide) ?_
    refine r_isub eX12_next_188 ?_
    refine r_goto (t := 196) eX12_next_189 (by decide) ?_
    refine sJ_X12_next_196 (fun h2 q => ?_) q
    exact ih _ q
theorem sL_X12_next_94 {E : Ev} {d kc ks : Nat} {Φ : Ou → Hp → Prop} {y0 : Nat} {y1 : Int32}  : ∀ (g : Nat)  (h : Hp), OK (L_X12_next_94 E y0 g h) Φ → WE E mX12_next (d + 1) 94 [some (.ref y0), some (.int y1)] [] h kc ks Φ := by
  intro g
  induction g with
  | zero => intro  h q; exact q.elim
  | succ g ih =>
    intro  h q
    refine r_aload_n eX12_next_94 rfl ?_
    refine r_aload_n eX12_next_95 rfl ?_
    refine t_gfI eX12_next_96 f_12_237 q (fun v96 q => ?_)
    refine t_virtI (As := [_]) (rest := []) (d' := d + 0 + 0) (ci := 12) eX12_next_99 k_12_249 rfl rfl rfl (by omega) (Nat.le_of_ble_eq_true rfl) (Nat.le_of_ble_eq_true rfl) (fun _ q => s_X12_see q) q (fun v99 h99 q => ?_)
    refine t_statI (As := [_]) (rest := []) (d' := d + 0 + 0) eX12_next_102 k_12_246 rfl (by omega) (Nat.le_of_ble_eq_true rfl) (Nat.le_of_ble_eq_true rfl) (fun _ q => s_X12_isLetter q) q (fun v102 h102 q => ?_)
    refine t_if_eq eX12_next_105 (t := 121) (by decide) q (fun q => ?_) (fun q => ?_)
    · refine r_aload_n eX12_next_121 rfl ?_
      refine r_iconst (v := (1)) eX12_next_122 (by decide) ?_
      refine t_pf eX12_next_123 p_12_243 rfl rfl (fun q => by cases q) q (fun h123 q => ?_)
      refine r_goto (t := 262) eX12_next_126 (by decide) ?_
      exact t_rtV eX12_next_262 rfl q
    refine r_aload_n eX12_next_108 rfl ?_
    refine r_dup eX12_next_109 rfl ?_
    refine t_gfI eX12_next_110 f_12_237 q (fun v110 q => ?_)
    refine r_iconst (v := (1)) eX12_next_113 (by decide) ?_
    refine r_iadd eX12_next_114 ?_
    refine t_pf eX12_next_115 p_12_237 rfl rfl (fun q => by cases q) q (fun h115 q => ?_)
    refine r_goto (t := 94) eX12_next_118 (by decide) ?_
    exact ih _ q
theorem sJ_X12_next_52 {E : Ev} {d kc ks : Nat} {Φ : Ou → Hp → Prop} {y0 : Nat} {h : Hp}  (q : OK (J_X12_next_52 E y0 h) Φ) : WE E mX12_next (d + 1) 52 [some (.ref y0), none] [] h kc ks Φ := by
  refine r_aload_n eX12_next_52 rfl ?_
  refine r_aload_n eX12_next_53 rfl ?_
  refine t_gfI eX12_next_54 f_12_237 q (fun v54 q => ?_)
  refine t_pf eX12_next_57 p_12_240 rfl rfl (fun q => by cases q) q (fun h57 q => ?_)
  refine r_aload_n eX12_next_60 rfl ?_
  refine t_gfI eX12_next_61 f_12_237 q (fun v61 q => ?_)
  refine r_aload_n eX12_next_64 rfl ?_
  refine t_gfI eX12_next_65 f_12_234 q (fun v65 q => ?_)
  refine t_icmp_lt eX12_next_68 (t := 77) (by decide) q (fun q => ?_) (fun q => ?_)
  · refine r_aload_n eX12_next_77 rfl ?_
    refine t_gfR eX12_next_78 f_12_37 q (fun v78 q => ?_)
    refine r_aload_n eX12_next_81 rfl ?_
    refine t_gfI eX12_next_82 f_12_237 q (fun v82 q => ?_)
    refine t_gaI eX12_next_85 q (fun v85 q => ?_)
    refine r_istore_n (lv' := [_, _]) eX12_next_86 (Nat.le_of_ble_eq_true rfl) rfl ?_
    refine r_iload_n eX12_next_87 rfl ?_
    refine t_statI (As := [_]) (rest := []) (d' := d + 0 + 0) eX12_next_88 k_12_246 rfl (by omega) (Nat.le_of_ble_eq_true rfl) (Nat.le_of_ble_eq_true rfl) (fun _ q => s_X12_isLetter q) q (fun v88 h88 q => ?_)
    refine t_if_eq eX12_next_91 (t := 129) (by decide) q (fun q => ?_) (fun q => ?_)
    · refine r_iload_n eX12_next_129 rfl ?_
      refine t_statI (As := [_]) (rest := []) (d' := d + 0 + 0) eX12_next_130 k_12_252 rfl (by omega) (Nat.le_of_ble_eq_true rfl) (Nat.le_of_ble_eq_true rfl) (fun _ q => s_X12_isDigit q) q (fun v130 h130 q => ?_)
      refine t_if_eq eX12_next_133 (t := 237) (by decide) q (fun q => ?_) (fun q => ?_)
      · refine r_aload_n eX12_next_237 rfl ?_
        refine r_iload_n eX12_next_238 rfl ?_
        refine r_bipush (v := (59)) eX12_next_239 (by decide) ?_
        refine t_icmp_ne eX12_next_241 (t := 248) (by decide) q (fun q => ?_) (fun q => ?_)
        · refine r_iconst (v := (4)) eX12_next_248 (by decide) ?_
          exact sJ_X12_next_249  q
        refine r_iconst (v := (3)) eX12_next_244 (by decide) ?_
        refine r_goto (t := 249) eX12_next_245 (by decide) ?_
        exact sJ_X12_next_249  q
      refine r_aload_n eX12_next_136 rfl ?_
      refine r_iconst (v := (0)) eX12_next_137 (by decide) ?_
      refine t_pf eX12_next_138 p_12_255 rfl rfl (fun q => by cases q) q (fun h138 q => ?_)
      refine sL_X12_next_141 (fun h1 q => ?_) _ _ q
      refine r_aload_n eX12_next_212 rfl ?_
      refine r_aload_n eX12_next_213 rfl ?_
      refine t_gfI eX12_next_214 f_12_237 q (fun v214 q => ?_)
      refine r_aload_n eX12_next_217 rfl ?_
      refine t_gfI eX12_next_218 f_12_240 q (fun v218 q => ?_)
      refine r_isub eX12_next_221 ?_
      refine r_iconst (v := (2)) eX12_next_222 (by decide) ?_
      refine t_icmp_le eX12_next_223 (t := 230) (by decide) q (fun q => ?_) (fun q => ?_)
      · refine r_iconst (v := (2)) eX12_next_230 (by decide) ?_
        refine t_pf eX12_next_231 p_12_243 rfl rfl (fun q => by cases q) q (fun h231 q => ?_)
        refine r_goto (t := 262) eX12_next_234 (by decide) ?_
        exact t_rtV eX12_next_262 rfl q
      refine r_iconst (v := (4)) eX12_next_226 (by decide) ?_
      refine r_goto (t := 231) eX12_next_227 (by decide) ?_
      refine t_pf eX12_next_231 p_12_243 rfl rfl (fun q => by cases q) q (fun h231 q => ?_)
      refine r_goto (t := 262) eX12_next_234 (by decide) ?_
      exact t_rtV eX12_next_262 rfl q
    exact sL_X12_next_94  _ _ q
  refine r_aload_n eX12_next_71 rfl ?_
  refine r_iconst (v := (0)) eX12_next_72 (by decide) ?_
  refine t_pf eX12_next_73 p_12_243 rfl rfl (fun q => by cases q) q (fun h73 q => ?_)
  exact t_rtV eX12_next_76 rfl q
theorem s_X12_next {E : Ev} {d : Nat} {a0 : Nat} {h : Hp} {Φ : Ou → Hp → Prop} (q : OK (F_X12_next E a0 h) Φ) : CE E mX12_next (d + 1) [.ref a0] h 0 0 Φ := by
  show WE E mX12_next (d + 1) 0 [some (.ref a0), none] [] h 0 0 Φ
  refine sL_X12_next_0 (fun h1 q => ?_) _ _ q
  exact sJ_X12_next_52  q
theorem s_X12_wrong {E : Ev} {d : Nat} {a0 : Nat} {x1 : Int32} {h : Hp} {Φ : Ou → Hp → Prop} (q : OK (F_X12_wrong E a0 x1 h) Φ) : CE E mX12_wrong (d + 0) [.ref a0, .int x1] h 0 0 Φ := by
  show WE E mX12_wrong (d + 0) 0 [some (.ref a0), some (.int x1)] [] h 0 0 Φ
  refine r_aload_n eX12_wrong_0 rfl ?_
  refine t_gfI eX12_wrong_1 f_12_258 q (fun v1 q => ?_)
  refine t_if_eq eX12_wrong_4 (t := 8) (by decide) q (fun q => ?_) (fun q => ?_)
  · refine r_aload_n eX12_wrong_8 rfl ?_
    refine r_aload_n eX12_wrong_9 rfl ?_
    refine t_gfI eX12_wrong_10 f_12_243 q (fun v10 q => ?_)
    refine r_iconst (v := (4)) eX12_wrong_13 (by decide) ?_
    refine t_icmp_ne eX12_wrong_14 (t := 21) (by decide) q (fun q => ?_) (fun q => ?_)
    · refine r_iload_n eX12_wrong_21 rfl ?_
      refine t_pf eX12_wrong_22 p_12_258 rfl rfl (fun q => by cases q) q (fun h22 q => ?_)
      refine r_aload_n eX12_wrong_25 rfl ?_
      refine r_aload_n eX12_wrong_26 rfl ?_
      refine t_gfI eX12_wrong_27 f_12_240 q (fun v27 q => ?_)
      refine t_pf eX12_wrong_30 p_12_261 rfl rfl (fun q => by cases q) q (fun h30 q => ?_)
      exact t_rtV eX12_wrong_33 rfl q
    refine r_iconst (v := (1)) eX12_wrong_17 (by decide) ?_
    refine r_goto (t := 22) eX12_wrong_18 (by decide) ?_
    refine t_pf eX12_wrong_22 p_12_258 rfl rfl (fun q => by cases q) q (fun h22 q => ?_)
    refine r_aload_n eX12_wrong_25 rfl ?_
    refine r_aload_n eX12_wrong_26 rfl ?_
    refine t_gfI eX12_wrong_27 f_12_240 q (fun v27 q => ?_)
    refine t_pf eX12_wrong_30 p_12_261 rfl rfl (fun q => by cases q) q (fun h30 q => ?_)
    exact t_rtV eX12_wrong_33 rfl q
  exact t_rtV eX12_wrong_7 rfl q
theorem sL_X12_isWord_39 {E : Ev} {d kc ks : Nat} {Φ : Ou → Hp → Prop} {y0 : Nat} {y1 : Nat}  : ∀ (g : Nat) (y2 : Int32) (y3 : Int32) (h : Hp), OK (L_X12_isWord_39 E y0 y1 g y2 y3 h) Φ → WE E mX12_isWord (d + 0) 39 [some (.ref y0), some (.ref (E.2.1 y1)), some (.int y2), some (.int y3)] [] h kc ks Φ := by
  intro g
  induction g with
  | zero => intro y2 y3 h q; exact q.elim
  | succ g ih =>
    intro y2 y3 h q
    refine r_iload_n eX12_isWord_39 rfl ?_
    refine t_if_eq eX12_isWord_40 (t := 82) (by decide) q (fun q => ?_) (fun q => ?_)
    · refine r_iload_n eX12_isWord_82 rfl ?_
      exact t_rtZ eX12_isWord_83 rfl q
    refine r_iload_n eX12_isWord_43 rfl ?_
    refine r_aload_n eX12_isWord_44 rfl ?_
    refine t_sLn eX12_isWord_45 jl_12_264 (Nat.le_of_ble_eq_true rfl) q (fun v45 q => ?_)
    refine t_icmp_ge eX12_isWord_48 (t := 82) (by decide) q (fun q => ?_) (fun q => ?_)
    · refine r_iload_n eX12_isWord_82 rfl ?_
      exact t_rtZ eX12_isWord_83 rfl q
    refine r_aload_n eX12_isWord_51 rfl ?_
    refine t_gfR eX12_isWord_52 f_12_37 q (fun v52 q => ?_)
    refine r_aload_n eX12_isWord_55 rfl ?_
    refine t_gfI eX12_isWord_56 f_12_240 q (fun v56 q => ?_)
    refine r_iload_n eX12_isWord_59 rfl ?_
    refine r_iadd eX12_isWord_60 ?_
    refine t_gaI eX12_isWord_61 q (fun v61 q => ?_)
    refine r_aload_n eX12_isWord_62 rfl ?_
    refine r_iload_n eX12_isWord_63 rfl ?_
    refine t_sCh eX12_isWord_64 jl_12_270 (Nat.le_of_ble_eq_true rfl) q (fun v64 q => ?_)
    refine t_icmp_ne eX12_isWord_67 (t := 74) (by decide) q (fun q => ?_) (fun q => ?_)
    · refine r_iconst (v := (0)) eX12_isWord_74 (by decide) ?_
      refine r_istore_n (lv' := [_, _, _, _]) eX12_isWord_75 (Nat.le_of_ble_eq_true rfl) rfl ?_
      refine r_iinc (v := (1)) (lv' := [_, _, _, _]) eX12_isWord_76 rfl (by decide) rfl ?_
      refine r_goto (t := 39) eX12_isWord_79 (by decide) ?_
      exact ih _ _ _ q
    refine r_iconst (v := (1)) eX12_isWord_70 (by decide) ?_
    refine r_goto (t := 75) eX12_isWord_71 (by decide) ?_
    refine r_istore_n (lv' := [_, _, _, _]) eX12_isWord_75 (Nat.le_of_ble_eq_true rfl) rfl ?_
    refine r_iinc (v := (1)) (lv' := [_, _, _, _]) eX12_isWord_76 rfl (by decide) rfl ?_
    refine r_goto (t := 39) eX12_isWord_79 (by decide) ?_
    exact ih _ _ _ q
theorem s_X12_isWord {E : Ev} {d : Nat} {a0 : Nat} {j1 : Nat} {h : Hp} {Φ : Ou → Hp → Prop} (q : OK (F_X12_isWord E a0 j1 h) Φ) : CE E mX12_isWord (d + 0) [.ref a0, .ref (E.2.1 j1)] h 0 0 Φ := by
  show WE E mX12_isWord (d + 0) 0 [some (.ref a0), some (.ref (E.2.1 j1)), none, none] [] h 0 0 Φ
  refine r_aload_n eX12_isWord_0 rfl ?_
  refine t_gfI eX12_isWord_1 f_12_258 q (fun v1 q => ?_)
  refine t_if_ne eX12_isWord_4 (t := 35) (by decide) q (fun q => ?_) (fun q => ?_)
  · refine r_iconst (v := (0)) eX12_isWord_35 (by decide) ?_
    refine r_istore_n (lv' := [_, _, _, _]) eX12_isWord_36 (Nat.le_of_ble_eq_true rfl) rfl ?_
    refine r_iconst (v := (0)) eX12_isWord_37 (by decide) ?_
    refine r_istore_n (lv' := [_, _, _, _]) eX12_isWord_38 (Nat.le_of_ble_eq_true rfl) rfl ?_
    exact sL_X12_isWord_39  _ _ _ _ q
  refine r_aload_n eX12_isWord_7 rfl ?_
  refine t_gfI eX12_isWord_8 f_12_243 q (fun v8 q => ?_)
  refine r_iconst (v := (1)) eX12_isWord_11 (by decide) ?_
  refine t_icmp_ne eX12_isWord_12 (t := 35) (by decide) q (fun q => ?_) (fun q => ?_)
  · refine r_iconst (v := (0)) eX12_isWord_35 (by decide) ?_
    refine r_istore_n (lv' := [_, _, _, _]) eX12_isWord_36 (Nat.le_of_ble_eq_true rfl) rfl ?_
    refine r_iconst (v := (0)) eX12_isWord_37 (by decide) ?_
    refine r_istore_n (lv' := [_, _, _, _]) eX12_isWord_38 (Nat.le_of_ble_eq_true rfl) rfl ?_
    exact sL_X12_isWord_39  _ _ _ _ q
  refine r_aload_n eX12_isWord_15 rfl ?_
  refine t_gfI eX12_isWord_16 f_12_237 q (fun v16 q => ?_)
  refine r_aload_n eX12_isWord_19 rfl ?_
  refine t_gfI eX12_isWord_20 f_12_240 q (fun v20 q => ?_)
  refine r_isub eX12_isWord_23 ?_
  refine r_aload_n eX12_isWord_24 rfl ?_
  refine t_sLn eX12_isWord_25 jl_12_264 (Nat.le_of_ble_eq_true rfl) q (fun v25 q => ?_)
  refine t_icmp_ne eX12_isWord_28 (t := 35) (by decide) q (fun q => ?_) (fun q => ?_)
  · refine r_iconst (v := (0)) eX12_isWord_35 (by decide) ?_
    refine r_istore_n (lv' := [_, _, _, _]) eX12_isWord_36 (Nat.le_of_ble_eq_true rfl) rfl ?_
    refine r_iconst (v := (0)) eX12_isWord_37 (by decide) ?_
    refine r_istore_n (lv' := [_, _, _, _]) eX12_isWord_38 (Nat.le_of_ble_eq_true rfl) rfl ?_
    exact sL_X12_isWord_39  _ _ _ _ q
  refine r_iconst (v := (1)) eX12_isWord_31 (by decide) ?_
  refine r_goto (t := 36) eX12_isWord_32 (by decide) ?_
  refine r_istore_n (lv' := [_, _, _, _]) eX12_isWord_36 (Nat.le_of_ble_eq_true rfl) rfl ?_
  refine r_iconst (v := (0)) eX12_isWord_37 (by decide) ?_
  refine r_istore_n (lv' := [_, _, _, _]) eX12_isWord_38 (Nat.le_of_ble_eq_true rfl) rfl ?_
  exact sL_X12_isWord_39  _ _ _ _ q
theorem s_X12_nameNow {E : Ev} {d : Nat} {a0 : Nat} {h : Hp} {Φ : Ou → Hp → Prop} (q : OK (F_X12_nameNow E a0 h) Φ) : CE E mX12_nameNow (d + 1) [.ref a0] h 0 0 Φ := by
  show WE E mX12_nameNow (d + 1) 0 [some (.ref a0)] [] h 0 0 Φ
  refine r_aload_n eX12_nameNow_0 rfl ?_
  refine r_ldcws (j := 1) eX12_nameNow_1 rfl ?_
  refine t_virtI (As := [_]) (rest := []) (d' := d + 0 + 0) (ci := 12) eX12_nameNow_4 k_12_276 rfl rfl rfl (by omega) (Nat.le_of_ble_eq_true rfl) (Nat.le_of_ble_eq_true rfl) (fun _ q => s_X12_isWord q) q (fun v4 h4 q => ?_)
  refine t_if_eq eX12_nameNow_7 (t := 14) (by decide) q (fun q => ?_) (fun q => ?_)
  · refine r_aload_n eX12_nameNow_14 rfl ?_
    refine r_ldcws (j := 2) eX12_nameNow_15 rfl ?_
    refine t_virtI (As := [_]) (rest := []) (d' := d + 0 + 0) (ci := 12) eX12_nameNow_18 k_12_276 rfl rfl rfl (by omega) (Nat.le_of_ble_eq_true rfl) (Nat.le_of_ble_eq_true rfl) (fun _ q => s_X12_isWord q) q (fun v18 h18 q => ?_)
    refine t_if_eq eX12_nameNow_21 (t := 28) (by decide) q (fun q => ?_) (fun q => ?_)
    · refine r_aload_n eX12_nameNow_28 rfl ?_
      refine r_ldcws (j := 3) eX12_nameNow_29 rfl ?_
      refine t_virtI (As := [_]) (rest := []) (d' := d + 0 + 0) (ci := 12) eX12_nameNow_32 k_12_276 rfl rfl rfl (by omega) (Nat.le_of_ble_eq_true rfl) (Nat.le_of_ble_eq_true rfl) (fun _ q => s_X12_isWord q) q (fun v32 h32 q => ?_)
      refine t_if_eq eX12_nameNow_35 (t := 42) (by decide) q (fun q => ?_) (fun q => ?_)
      · refine r_aload_n eX12_nameNow_42 rfl ?_
        refine r_ldcws (j := 4) eX12_nameNow_43 rfl ?_
        refine t_virtI (As := [_]) (rest := []) (d' := d + 0 + 0) (ci := 12) eX12_nameNow_46 k_12_276 rfl rfl rfl (by omega) (Nat.le_of_ble_eq_true rfl) (Nat.le_of_ble_eq_true rfl) (fun _ q => s_X12_isWord q) q (fun v46 h46 q => ?_)
        refine t_if_eq eX12_nameNow_49 (t := 56) (by decide) q (fun q => ?_) (fun q => ?_)
        · refine r_aload_n eX12_nameNow_56 rfl ?_
          refine r_ldcws (j := 5) eX12_nameNow_57 rfl ?_
          refine t_virtI (As := [_]) (rest := []) (d' := d + 0 + 0) (ci := 12) eX12_nameNow_60 k_12_276 rfl rfl rfl (by omega) (Nat.le_of_ble_eq_true rfl) (Nat.le_of_ble_eq_true rfl) (fun _ q => s_X12_isWord q) q (fun v60 h60 q => ?_)
          refine t_if_eq eX12_nameNow_63 (t := 70) (by decide) q (fun q => ?_) (fun q => ?_)
          · refine r_aload_n eX12_nameNow_70 rfl ?_
            refine r_ldcws (j := 6) eX12_nameNow_71 rfl ?_
            refine t_virtI (As := [_]) (rest := []) (d' := d + 0 + 0) (ci := 12) eX12_nameNow_74 k_12_276 rfl rfl rfl (by omega) (Nat.le_of_ble_eq_true rfl) (Nat.le_of_ble_eq_true rfl) (fun _ q => s_X12_isWord q) q (fun v74 h74 q => ?_)
            refine t_if_eq eX12_nameNow_77 (t := 84) (by decide) q (fun q => ?_) (fun q => ?_)
            · refine r_aload_n eX12_nameNow_84 rfl ?_
              refine r_ldcws (j := 7) eX12_nameNow_85 rfl ?_
              refine t_virtI (As := [_]) (rest := []) (d' := d + 0 + 0) (ci := 12) eX12_nameNow_88 k_12_276 rfl rfl rfl (by omega) (Nat.le_of_ble_eq_true rfl) (Nat.le_of_ble_eq_true rfl) (fun _ q => s_X12_isWord q) q (fun v88 h88 q => ?_)
              refine t_if_eq eX12_nameNow_91 (t := 99) (by decide) q (fun q => ?_) (fun q => ?_)
              · refine r_aload_n eX12_nameNow_99 rfl ?_
                refine r_ldcws (j := 8) eX12_nameNow_100 rfl ?_
                refine t_virtI (As := [_]) (rest := []) (d' := d + 0 + 0) (ci := 12) eX12_nameNow_103 k_12_276 rfl rfl rfl (by omega) (Nat.le_of_ble_eq_true rfl) (Nat.le_of_ble_eq_true rfl) (fun _ q => s_X12_isWord q) q (fun v103 h103 q => ?_)
                refine t_if_eq eX12_nameNow_106 (t := 114) (by decide) q (fun q => ?_) (fun q => ?_)
                · refine r_aload_n eX12_nameNow_114 rfl ?_
                  refine r_ldcws (j := 9) eX12_nameNow_115 rfl ?_
                  refine t_virtI (As := [_]) (rest := []) (d' := d + 0 + 0) (ci := 12) eX12_nameNow_118 k_12_276 rfl rfl rfl (by omega) (Nat.le_of_ble_eq_true rfl) (Nat.le_of_ble_eq_true rfl) (fun _ q => s_X12_isWord q) q (fun v118 h118 q => ?_)
                  refine t_if_eq eX12_nameNow_121 (t := 129) (by decide) q (fun q => ?_) (fun q => ?_)
                  · refine r_aload_n eX12_nameNow_129 rfl ?_
                    refine r_ldcws (j := 10) eX12_nameNow_130 rfl ?_
                    refine t_virtI (As := [_]) (rest := []) (d' := d + 0 + 0) (ci := 12) eX12_nameNow_133 k_12_276 rfl rfl rfl (by omega) (Nat.le_of_ble_eq_true rfl) (Nat.le_of_ble_eq_true rfl) (fun _ q => s_X12_isWord q) q (fun v133 h133 q => ?_)
                    refine t_if_eq eX12_nameNow_136 (t := 144) (by decide) q (fun q => ?_) (fun q => ?_)
                    · refine r_aload_n eX12_nameNow_144 rfl ?_
                      refine r_ldcws (j := 11) eX12_nameNow_145 rfl ?_
                      refine t_virtI (As := [_]) (rest := []) (d' := d + 0 + 0) (ci := 12) eX12_nameNow_148 k_12_276 rfl rfl rfl (by omega) (Nat.le_of_ble_eq_true rfl) (Nat.le_of_ble_eq_true rfl) (fun _ q => s_X12_isWord q) q (fun v148 h148 q => ?_)
                      refine t_if_eq eX12_nameNow_151 (t := 159) (by decide) q (fun q => ?_) (fun q => ?_)
                      · refine r_aload_n eX12_nameNow_159 rfl ?_
                        refine r_ldcws (j := 12) eX12_nameNow_160 rfl ?_
                        refine t_virtI (As := [_]) (rest := []) (d' := d + 0 + 0) (ci := 12) eX12_nameNow_163 k_12_276 rfl rfl rfl (by omega) (Nat.le_of_ble_eq_true rfl) (Nat.le_of_ble_eq_true rfl) (fun _ q => s_X12_isWord q) q (fun v163 h163 q => ?_)
                        refine t_if_eq eX12_nameNow_166 (t := 174) (by decide) q (fun q => ?_) (fun q => ?_)
                        · refine r_iconst (v := (-1)) eX12_nameNow_174 (by decide) ?_
                          exact t_rtI eX12_nameNow_175 rfl q
                        refine r_bipush (v := (11)) eX12_nameNow_169 (by decide) ?_
                        refine r_goto (t := 175) eX12_nameNow_171 (by decide) ?_
                        exact t_rtI eX12_nameNow_175 rfl q
                      refine r_bipush (v := (10)) eX12_nameNow_154 (by decide) ?_
                      refine r_goto (t := 175) eX12_nameNow_156 (by decide) ?_
                      exact t_rtI eX12_nameNow_175 rfl q
                    refine r_bipush (v := (9)) eX12_nameNow_139 (by decide) ?_
                    refine r_goto (t := 175) eX12_nameNow_141 (by decide) ?_
                    exact t_rtI eX12_nameNow_175 rfl q
                  refine r_bipush (v := (8)) eX12_nameNow_124 (by decide) ?_
                  refine r_goto (t := 175) eX12_nameNow_126 (by decide) ?_
                  exact t_rtI eX12_nameNow_175 rfl q
                refine r_bipush (v := (7)) eX12_nameNow_109 (by decide) ?_
                refine r_goto (t := 175) eX12_nameNow_111 (by decide) ?_
                exact t_rtI eX12_nameNow_175 rfl q
              refine r_bipush (v := (6)) eX12_nameNow_94 (by decide) ?_
              refine r_goto (t := 175) eX12_nameNow_96 (by decide) ?_
              exact t_rtI eX12_nameNow_175 rfl q
            refine r_iconst (v := (5)) eX12_nameNow_80 (by decide) ?_
            refine r_goto (t := 175) eX12_nameNow_81 (by decide) ?_
            exact t_rtI eX12_nameNow_175 rfl q
          refine r_iconst (v := (4)) eX12_nameNow_66 (by decide) ?_
          refine r_goto (t := 175) eX12_nameNow_67 (by decide) ?_
          exact t_rtI eX12_nameNow_175 rfl q
        refine r_iconst (v := (3)) eX12_nameNow_52 (by decide) ?_
        refine r_goto (t := 175) eX12_nameNow_53 (by decide) ?_
        exact t_rtI eX12_nameNow_175 rfl q
      refine r_iconst (v := (2)) eX12_nameNow_38 (by decide) ?_
      refine r_goto (t := 175) eX12_nameNow_39 (by decide) ?_
      exact t_rtI eX12_nameNow_175 rfl q
    refine r_iconst (v := (1)) eX12_nameNow_24 (by decide) ?_
    refine r_goto (t := 175) eX12_nameNow_25 (by decide) ?_
    exact t_rtI eX12_nameNow_175 rfl q
  refine r_iconst (v := (0)) eX12_nameNow_10 (by decide) ?_
  refine r_goto (t := 175) eX12_nameNow_11 (by decide) ?_
  exact t_rtI eX12_nameNow_175 rfl q
theorem s_X12_readName {E : Ev} {d : Nat} {a0 : Nat} {h : Hp} {Φ : Ou → Hp → Prop} (q : OK (F_X12_readName E a0 h) Φ) : CE E mX12_readName (d + 2) [.ref a0] h 0 0 Φ := by
  show WE E mX12_readName (d + 2) 0 [some (.ref a0), none] [] h 0 0 Φ
  refine r_aload_n eX12_readName_0 rfl ?_
  refine t_virtI (As := []) (rest := []) (d' := d + 0 + 1) (ci := 12) eX12_readName_1 k_12_301 rfl rfl rfl (by omega) (Nat.le_of_ble_eq_true rfl) (Nat.le_of_ble_eq_true rfl) (fun _ q => s_X12_nameNow q) q (fun v1 h1 q => ?_)
  refine r_istore_n (lv' := [_, _]) eX12_readName_4 (Nat.le_of_ble_eq_true rfl) rfl ?_
  refine r_iload_n eX12_readName_5 rfl ?_
  refine r_iconst (v := (-1)) eX12_readName_6 (by decide) ?_
  refine t_icmp_ne eX12_readName_7 (t := 18) (by decide) q (fun q => ?_) (fun q => ?_)
  · refine r_aload_n eX12_readName_18 rfl ?_
    refine t_virtV (As := []) (rest := []) (d' := d + 0 + 1) (ci := 12) eX12_readName_19 k_12_307 rfl rfl rfl (by omega) (Nat.le_of_ble_eq_true rfl) (Nat.le_of_ble_eq_true rfl) (fun _ q => s_X12_next q) q (fun h19 q => ?_)
    refine r_iload_n eX12_readName_22 rfl ?_
    exact t_rtI eX12_readName_23 rfl q
  refine r_aload_n eX12_readName_10 rfl ?_
  refine r_iconst (v := (2)) eX12_readName_11 (by decide) ?_
  refine t_virtV (As := [_]) (rest := []) (d' := d + 1 + 0) (ci := 12) eX12_readName_12 k_12_304 rfl rfl rfl (by omega) (Nat.le_of_ble_eq_true rfl) (Nat.le_of_ble_eq_true rfl) (fun _ q => s_X12_wrong q) q (fun h12 q => ?_)
  refine r_goto (t := 22) eX12_readName_15 (by decide) ?_
  refine r_iload_n eX12_readName_22 rfl ?_
  exact t_rtI eX12_readName_23 rfl q
theorem sJ_X12_readNumber_36 {E : Ev} {d kc ks : Nat} {Φ : Ou → Hp → Prop} {y0 : Nat} {h : Hp}  (q : OK (J_X12_readNumber_36 E y0 h) Φ) : WE E mX12_readNumber (d + 2) 36 [some (.ref y0), none] [] h kc ks Φ := by
  refine r_aload_n eX12_readNumber_36 rfl ?_
  refine t_gfI eX12_readNumber_37 f_12_255 q (fun v37 q => ?_)
  refine r_istore_n (lv' := [_, _]) eX12_readNumber_40 (Nat.le_of_ble_eq_true rfl) rfl ?_
  refine r_aload_n eX12_readNumber_41 rfl ?_
  refine t_gfI eX12_readNumber_42 f_12_258 q (fun v42 q => ?_)
  refine t_if_ne eX12_readNumber_45 (t := 52) (by decide) q (fun q => ?_) (fun q => ?_)
  · refine r_iload_n eX12_readNumber_52 rfl ?_
    exact t_rtI eX12_readNumber_53 rfl q
  refine r_aload_n eX12_readNumber_48 rfl ?_
  refine t_virtV (As := []) (rest := []) (d' := d + 0 + 1) (ci := 12) eX12_readNumber_49 k_12_307 rfl rfl rfl (by omega) (Nat.le_of_ble_eq_true rfl) (Nat.le_of_ble_eq_true rfl) (fun _ q => s_X12_next q) q (fun h49 q => ?_)
  refine r_iload_n eX12_readNumber_52 rfl ?_
  exact t_rtI eX12_readNumber_53 rfl q
theorem s_X12_readNumber {E : Ev} {d : Nat} {a0 : Nat} {h : Hp} {Φ : Ou → Hp → Prop} (q : OK (F_X12_readNumber E a0 h) Φ) : CE E mX12_readNumber (d + 2) [.ref a0] h 0 0 Φ := by
  show WE E mX12_readNumber (d + 2) 0 [some (.ref a0), none] [] h 0 0 Φ
  refine r_aload_n eX12_readNumber_0 rfl ?_
  refine t_gfI eX12_readNumber_1 f_12_243 q (fun v1 q => ?_)
  refine r_iconst (v := (2)) eX12_readNumber_4 (by decide) ?_
  refine t_icmp_eq eX12_readNumber_5 (t := 16) (by decide) q (fun q => ?_) (fun q => ?_)
  · refine r_aload_n eX12_readNumber_16 rfl ?_
    refine t_gfI eX12_readNumber_17 f_12_255 q (fun v17 q => ?_)
    refine r_i2l eX12_readNumber_20 ?_
    refine r_lconst (v := 1) eX12_readNumber_21 rfl ?_
    refine r_ldc2 eX12_readNumber_22 g_12_203 ?_
    refine t_statI (As := [_, _, _]) (rest := []) (d' := d + 1 + 0) eX12_readNumber_25 k_12_102 rfl (by omega) (Nat.le_of_ble_eq_true rfl) (Nat.le_of_ble_eq_true rfl) (fun _ q => s_X12_within q) q (fun v25 h25 q => ?_)
    refine t_if_ne eX12_readNumber_28 (t := 36) (by decide) q (fun q => ?_) (fun q => ?_)
    · exact sJ_X12_readNumber_36  q
    refine r_aload_n eX12_readNumber_31 rfl ?_
    refine r_iconst (v := (3)) eX12_readNumber_32 (by decide) ?_
    refine t_virtV (As := [_]) (rest := []) (d' := d + 1 + 0) (ci := 12) eX12_readNumber_33 k_12_304 rfl rfl rfl (by omega) (Nat.le_of_ble_eq_true rfl) (Nat.le_of_ble_eq_true rfl) (fun _ q => s_X12_wrong q) q (fun h33 q => ?_)
    exact sJ_X12_readNumber_36  q
  refine r_aload_n eX12_readNumber_8 rfl ?_
  refine r_iconst (v := (2)) eX12_readNumber_9 (by decide) ?_
  refine t_virtV (As := [_]) (rest := []) (d' := d + 1 + 0) (ci := 12) eX12_readNumber_10 k_12_304 rfl rfl rfl (by omega) (Nat.le_of_ble_eq_true rfl) (Nat.le_of_ble_eq_true rfl) (fun _ q => s_X12_wrong q) q (fun h10 q => ?_)
  refine r_goto (t := 36) eX12_readNumber_13 (by decide) ?_
  exact sJ_X12_readNumber_36  q
theorem s_X12_sideNow {E : Ev} {d : Nat} {a0 : Nat} {h : Hp} {Φ : Ou → Hp → Prop} (q : OK (F_X12_sideNow E a0 h) Φ) : CE E mX12_sideNow (d + 1) [.ref a0] h 0 0 Φ := by
  show WE E mX12_sideNow (d + 1) 0 [some (.ref a0)] [] h 0 0 Φ
  refine r_aload_n eX12_sideNow_0 rfl ?_
  refine r_ldcws (j := 13) eX12_sideNow_1 rfl ?_
  refine t_virtI (As := [_]) (rest := []) (d' := d + 0 + 0) (ci := 12) eX12_sideNow_4 k_12_276 rfl rfl rfl (by omega) (Nat.le_of_ble_eq_true rfl) (Nat.le_of_ble_eq_true rfl) (fun _ q => s_X12_isWord q) q (fun v4 h4 q => ?_)
  refine t_if_eq eX12_sideNow_7 (t := 14) (by decide) q (fun q => ?_) (fun q => ?_)
  · refine r_aload_n eX12_sideNow_14 rfl ?_
    refine r_ldcws (j := 14) eX12_sideNow_15 rfl ?_
    refine t_virtI (As := [_]) (rest := []) (d' := d + 0 + 0) (ci := 12) eX12_sideNow_18 k_12_276 rfl rfl rfl (by omega) (Nat.le_of_ble_eq_true rfl) (Nat.le_of_ble_eq_true rfl) (fun _ q => s_X12_isWord q) q (fun v18 h18 q => ?_)
    refine t_if_eq eX12_sideNow_21 (t := 28) (by decide) q (fun q => ?_) (fun q => ?_)
    · refine r_iconst (v := (-1)) eX12_sideNow_28 (by decide) ?_
      exact t_rtI eX12_sideNow_29 rfl q
    refine r_iconst (v := (1)) eX12_sideNow_24 (by decide) ?_
    refine r_goto (t := 29) eX12_sideNow_25 (by decide) ?_
    exact t_rtI eX12_sideNow_29 rfl q
  refine r_iconst (v := (0)) eX12_sideNow_10 (by decide) ?_
  refine r_goto (t := 29) eX12_sideNow_11 (by decide) ?_
  exact t_rtI eX12_sideNow_29 rfl q
theorem s_X12_wordAt {E : Ev} {d : Nat} {x0 : Int32} {x1 : Int32} {h : Hp} {Φ : Ou → Hp → Prop} (q : OK (F_X12_wordAt E x0 x1 h) Φ) : CE E mX12_wordAt (d + 0) [.int x0, .int x1] h 0 0 Φ := by
  show WE E mX12_wordAt (d + 0) 0 [some (.int x0), some (.int x1)] [] h 0 0 Φ
  refine r_bipush (v := (13)) eX12_wordAt_0 (by decide) ?_
  refine r_bipush (v := (16)) eX12_wordAt_2 (by decide) ?_
  refine r_iload_n eX12_wordAt_4 rfl ?_
  refine r_imul eX12_wordAt_5 ?_
  refine r_iadd eX12_wordAt_6 ?_
  refine r_iconst (v := (4)) eX12_wordAt_7 (by decide) ?_
  refine r_iload_n eX12_wordAt_8 rfl ?_
  refine r_imul eX12_wordAt_9 ?_
  refine r_iadd eX12_wordAt_10 ?_
  exact t_rtI eX12_wordAt_11 rfl q
theorem s_X12_lays {E : Ev} {d : Nat} {a0 : Nat} {x1 : Int32} {x2 : Int32} {x3 : Int32} {x4 : Int32} {h : Hp} {Φ : Ou → Hp → Prop} (q : OK (F_X12_lays E a0 x1 x2 x3 x4 h) Φ) : CE E mX12_lays (d + 1) [.ref a0, .int x1, .int x2, .int x3, .int x4] h 0 0 Φ := by
  show WE E mX12_lays (d + 1) 0 [some (.ref a0), some (.int x1), some (.int x2), some (.int x3), some (.int x4), none] [] h 0 0 Φ
  refine r_aload_n eX12_lays_0 rfl ?_
  refine t_gfI eX12_lays_1 f_12_258 q (fun v1 q => ?_)
  refine t_if_eq eX12_lays_4 (t := 8) (by decide) q (fun q => ?_) (fun q => ?_)
  · refine r_iload_n eX12_lays_8 rfl ?_
    refine r_aload_n eX12_lays_9 rfl ?_
    refine t_gfR eX12_lays_10 f_12_43 q (fun v10 q => ?_)
    refine r_iconst (v := (3)) eX12_lays_13 (by decide) ?_
    refine r_iload_n eX12_lays_14 rfl ?_
    refine r_iadd eX12_lays_15 ?_
    refine t_gaI eX12_lays_16 q (fun v16 q => ?_)
    refine t_statI (As := [_, _]) (rest := []) (d' := d + 0 + 0) eX12_lays_17 k_12_314 rfl (by omega) (Nat.le_of_ble_eq_true rfl) (Nat.le_of_ble_eq_true rfl) (fun _ q => s_X12_wordAt q) q (fun v17 h17 q => ?_)
    refine r_istore (lv' := [_, _, _, _, _, _]) eX12_lays_20 (Nat.le_of_ble_eq_true rfl) rfl ?_
    refine r_aload_n eX12_lays_22 rfl ?_
    refine t_gfR eX12_lays_23 f_12_43 q (fun v23 q => ?_)
    refine r_iload eX12_lays_26 rfl ?_
    refine r_iload_n eX12_lays_28 rfl ?_
    refine t_paI eX12_lays_29 q (fun h29 q => ?_)
    refine r_aload_n eX12_lays_30 rfl ?_
    refine t_gfR eX12_lays_31 f_12_43 q (fun v31 q => ?_)
    refine r_iload eX12_lays_34 rfl ?_
    refine r_iconst (v := (1)) eX12_lays_36 (by decide) ?_
    refine r_iadd eX12_lays_37 ?_
    refine r_iload_n eX12_lays_38 rfl ?_
    refine t_paI eX12_lays_39 q (fun h39 q => ?_)
    refine r_aload_n eX12_lays_40 rfl ?_
    refine t_gfR eX12_lays_41 f_12_43 q (fun v41 q => ?_)
    refine r_iload eX12_lays_44 rfl ?_
    refine r_iconst (v := (2)) eX12_lays_46 (by decide) ?_
    refine r_iadd eX12_lays_47 ?_
    refine r_iload eX12_lays_48 rfl ?_
    refine t_paI eX12_lays_50 q (fun h50 q => ?_)
    refine r_aload_n eX12_lays_51 rfl ?_
    refine t_gfR eX12_lays_52 f_12_43 q (fun v52 q => ?_)
    refine r_iconst (v := (3)) eX12_lays_55 (by decide) ?_
    refine r_iload_n eX12_lays_56 rfl ?_
    refine r_iadd eX12_lays_57 ?_
    refine r_dup2 eX12_lays_58 rfl rfl ?_
    refine t_gaI eX12_lays_59 q (fun v59 q => ?_)
    refine r_iconst (v := (1)) eX12_lays_60 (by decide) ?_
    refine r_iadd eX12_lays_61 ?_
    refine t_paI eX12_lays_62 q (fun h62 q => ?_)
    exact t_rtV eX12_lays_63 rfl q
  exact t_rtV eX12_lays_7 rfl q
theorem s_X12_isBegun {E : Ev} {d : Nat} {a0 : Nat} {h : Hp} {Φ : Ou → Hp → Prop} (q : OK (F_X12_isBegun E a0 h) Φ) : CE E mX12_isBegun (d + 2) [.ref a0] h 0 0 Φ := by
  show WE E mX12_isBegun (d + 2) 0 [some (.ref a0)] [] h 0 0 Φ
  refine r_aload_n eX12_isBegun_0 rfl ?_
  refine r_ldcws (j := 15) eX12_isBegun_1 rfl ?_
  refine t_virtI (As := [_]) (rest := []) (d' := d + 1 + 0) (ci := 12) eX12_isBegun_4 k_12_276 rfl rfl rfl (by omega) (Nat.le_of_ble_eq_true rfl) (Nat.le_of_ble_eq_true rfl) (fun _ q => s_X12_isWord q) q (fun v4 h4 q => ?_)
  refine t_if_ne eX12_isBegun_7 (t := 93) (by decide) q (fun q => ?_) (fun q => ?_)
  · refine r_iconst (v := (1)) eX12_isBegun_93 (by decide) ?_
    refine r_goto (t := 98) eX12_isBegun_94 (by decide) ?_
    exact t_rtZ eX12_isBegun_98 rfl q
  refine r_aload_n eX12_isBegun_10 rfl ?_
  refine r_ldcws (j := 16) eX12_isBegun_11 rfl ?_
  refine t_virtI (As := [_]) (rest := []) (d' := d + 1 + 0) (ci := 12) eX12_isBegun_14 k_12_276 rfl rfl rfl (by omega) (Nat.le_of_ble_eq_true rfl) (Nat.le_of_ble_eq_true rfl) (fun _ q => s_X12_isWord q) q (fun v14 h14 q => ?_)
  refine t_if_ne eX12_isBegun_17 (t := 93) (by decide) q (fun q => ?_) (fun q => ?_)
  · refine r_iconst (v := (1)) eX12_isBegun_93 (by decide) ?_
    refine r_goto (t := 98) eX12_isBegun_94 (by decide) ?_
    exact t_rtZ eX12_isBegun_98 rfl q
  refine r_aload_n eX12_isBegun_20 rfl ?_
  refine r_ldcws (j := 17) eX12_isBegun_21 rfl ?_
  refine t_virtI (As := [_]) (rest := []) (d' := d + 1 + 0) (ci := 12) eX12_isBegun_24 k_12_276 rfl rfl rfl (by omega) (Nat.le_of_ble_eq_true rfl) (Nat.le_of_ble_eq_true rfl) (fun _ q => s_X12_isWord q) q (fun v24 h24 q => ?_)
  refine t_if_ne eX12_isBegun_27 (t := 93) (by decide) q (fun q => ?_) (fun q => ?_)
  · refine r_iconst (v := (1)) eX12_isBegun_93 (by decide) ?_
    refine r_goto (t := 98) eX12_isBegun_94 (by decide) ?_
    exact t_rtZ eX12_isBegun_98 rfl q
  refine r_aload_n eX12_isBegun_30 rfl ?_
  refine r_ldcws (j := 18) eX12_isBegun_31 rfl ?_
  refine t_virtI (As := [_]) (rest := []) (d' := d + 1 + 0) (ci := 12) eX12_isBegun_34 k_12_276 rfl rfl rfl (by omega) (Nat.le_of_ble_eq_true rfl) (Nat.le_of_ble_eq_true rfl) (fun _ q => s_X12_isWord q) q (fun v34 h34 q => ?_)
  refine t_if_ne eX12_isBegun_37 (t := 93) (by decide) q (fun q => ?_) (fun q => ?_)
  · refine r_iconst (v := (1)) eX12_isBegun_93 (by decide) ?_
    refine r_goto (t := 98) eX12_isBegun_94 (by decide) ?_
    exact t_rtZ eX12_isBegun_98 rfl q
  refine r_aload_n eX12_isBegun_40 rfl ?_
  refine r_ldcws (j := 19) eX12_isBegun_41 rfl ?_
  refine t_virtI (As := [_]) (rest := []) (d' := d + 1 + 0) (ci := 12) eX12_isBegun_44 k_12_276 rfl rfl rfl (by omega) (Nat.le_of_ble_eq_true rfl) (Nat.le_of_ble_eq_true rfl) (fun _ q => s_X12_isWord q) q (fun v44 h44 q => ?_)
  refine t_if_ne eX12_isBegun_47 (t := 93) (by decide) q (fun q => ?_) (fun q => ?_)
  · refine r_iconst (v := (1)) eX12_isBegun_93 (by decide) ?_
    refine r_goto (t := 98) eX12_isBegun_94 (by decide) ?_
    exact t_rtZ eX12_isBegun_98 rfl q
  refine r_aload_n eX12_isBegun_50 rfl ?_
  refine r_ldcws (j := 20) eX12_isBegun_51 rfl ?_
  refine t_virtI (As := [_]) (rest := []) (d' := d + 1 + 0) (ci := 12) eX12_isBegun_54 k_12_276 rfl rfl rfl (by omega) (Nat.le_of_ble_eq_true rfl) (Nat.le_of_ble_eq_true rfl) (fun _ q => s_X12_isWord q) q (fun v54 h54 q => ?_)
  refine t_if_ne eX12_isBegun_57 (t := 93) (by decide) q (fun q => ?_) (fun q => ?_)
  · refine r_iconst (v := (1)) eX12_isBegun_93 (by decide) ?_
    refine r_goto (t := 98) eX12_isBegun_94 (by decide) ?_
    exact t_rtZ eX12_isBegun_98 rfl q
  refine r_aload_n eX12_isBegun_60 rfl ?_
  refine r_ldcws (j := 21) eX12_isBegun_61 rfl ?_
  refine t_virtI (As := [_]) (rest := []) (d' := d + 1 + 0) (ci := 12) eX12_isBegun_64 k_12_276 rfl rfl rfl (by omega) (Nat.le_of_ble_eq_true rfl) (Nat.le_of_ble_eq_true rfl) (fun _ q => s_X12_isWord q) q (fun v64 h64 q => ?_)
  refine t_if_ne eX12_isBegun_67 (t := 93) (by decide) q (fun q => ?_) (fun q => ?_)
  · refine r_iconst (v := (1)) eX12_isBegun_93 (by decide) ?_
    refine r_goto (t := 98) eX12_isBegun_94 (by decide) ?_
    exact t_rtZ eX12_isBegun_98 rfl q
  refine r_aload_n eX12_isBegun_70 rfl ?_
  refine t_virtI (As := []) (rest := []) (d' := d + 0 + 1) (ci := 12) eX12_isBegun_71 k_12_330 rfl rfl rfl (by omega) (Nat.le_of_ble_eq_true rfl) (Nat.le_of_ble_eq_true rfl) (fun _ q => s_X12_sideNow q) q (fun v71 h71 q => ?_)
  refine r_iconst (v := (-1)) eX12_isBegun_74 (by decide) ?_
  refine t_icmp_ne eX12_isBegun_75 (t := 93) (by decide) q (fun q => ?_) (fun q => ?_)
  · refine r_iconst (v := (1)) eX12_isBegun_93 (by decide) ?_
    refine r_goto (t := 98) eX12_isBegun_94 (by decide) ?_
    exact t_rtZ eX12_isBegun_98 rfl q
  refine r_aload_n eX12_isBegun_78 rfl ?_
  refine t_gfI eX12_isBegun_79 f_12_258 q (fun v79 q => ?_)
  refine t_if_ne eX12_isBegun_82 (t := 97) (by decide) q (fun q => ?_) (fun q => ?_)
  · refine r_iconst (v := (0)) eX12_isBegun_97 (by decide) ?_
    exact t_rtZ eX12_isBegun_98 rfl q
  refine r_aload_n eX12_isBegun_85 rfl ?_
  refine t_gfI eX12_isBegun_86 f_12_243 q (fun v86 q => ?_)
  refine r_iconst (v := (2)) eX12_isBegun_89 (by decide) ?_
  refine t_icmp_ne eX12_isBegun_90 (t := 97) (by decide) q (fun q => ?_) (fun q => ?_)
  · refine r_iconst (v := (0)) eX12_isBegun_97 (by decide) ?_
    exact t_rtZ eX12_isBegun_98 rfl q
  refine r_iconst (v := (1)) eX12_isBegun_93 (by decide) ?_
  refine r_goto (t := 98) eX12_isBegun_94 (by decide) ?_
  exact t_rtZ eX12_isBegun_98 rfl q
theorem sJ_X12_readNth_56 {E : Ev} {d kc ks : Nat} {Φ : Ou → Hp → Prop} {y0 : Nat} {y1 : Int32} {y2 : Int32} {y3 : Int32} {y4 : Int32} {h : Hp}  (q : OK (J_X12_readNth_56 E y0 y1 y2 y3 y4 h) Φ) : WE E mX12_readNth (d + 3) 56 [some (.ref y0), some (.int y1), some (.int y2), some (.int y3), some (.int y4)] [] h kc ks Φ := by
  refine r_aload_n eX12_readNth_56 rfl ?_
  refine r_iload_n eX12_readNth_57 rfl ?_
  refine r_bipush (v := (9)) eX12_readNth_58 (by decide) ?_
  refine r_iconst (v := (2)) eX12_readNth_60 (by decide) ?_
  refine r_iload_n eX12_readNth_61 rfl ?_
  refine r_imul eX12_readNth_62 ?_
  refine r_iload_n eX12_readNth_63 rfl ?_
  refine r_iadd eX12_readNth_64 ?_
  refine r_iload eX12_readNth_65 rfl ?_
  refine t_virtV (As := [_, _, _, _]) (rest := []) (d' := d + 1 + 1) (ci := 12) eX12_readNth_67 k_12_340 rfl rfl rfl (by omega) (Nat.le_of_ble_eq_true rfl) (Nat.le_of_ble_eq_true rfl) (fun _ q => s_X12_lays q) q (fun h67 q => ?_)
  exact t_rtV eX12_readNth_70 rfl q
theorem s_X12_readNth {E : Ev} {d : Nat} {a0 : Nat} {x1 : Int32} {h : Hp} {Φ : Ou → Hp → Prop} (q : OK (F_X12_readNth E a0 x1 h) Φ) : CE E mX12_readNth (d + 3) [.ref a0, .int x1] h 0 0 Φ := by
  show WE E mX12_readNth (d + 3) 0 [some (.ref a0), some (.int x1), none, none, none] [] h 0 0 Φ
  refine r_aload_n eX12_readNth_0 rfl ?_
  refine t_virtI (As := []) (rest := []) (d' := d + 0 + 2) (ci := 12) eX12_readNth_1 k_12_349 rfl rfl rfl (by omega) (Nat.le_of_ble_eq_true rfl) (Nat.le_of_ble_eq_true rfl) (fun _ q => s_X12_readNumber q) q (fun v1 h1 q => ?_)
  refine r_istore_n (lv' := [_, _, _, _, _]) eX12_readNth_4 (Nat.le_of_ble_eq_true rfl) rfl ?_
  refine r_aload_n eX12_readNth_5 rfl ?_
  refine t_virtI (As := []) (rest := []) (d' := d + 1 + 1) (ci := 12) eX12_readNth_6 k_12_330 rfl rfl rfl (by omega) (Nat.le_of_ble_eq_true rfl) (Nat.le_of_ble_eq_true rfl) (fun _ q => s_X12_sideNow q) q (fun v6 h6 q => ?_)
  refine r_istore_n (lv' := [_, _, _, _, _]) eX12_readNth_9 (Nat.le_of_ble_eq_true rfl) rfl ?_
  refine r_aload_n eX12_readNth_10 rfl ?_
  refine t_gfI eX12_readNth_11 f_12_258 q (fun v11 q => ?_)
  refine t_if_eq eX12_readNth_14 (t := 18) (by decide) q (fun q => ?_) (fun q => ?_)
  · refine r_iload_n eX12_readNth_18 rfl ?_
    refine r_iconst (v := (-1)) eX12_readNth_19 (by decide) ?_
    refine t_icmp_ne eX12_readNth_20 (t := 29) (by decide) q (fun q => ?_) (fun q => ?_)
    · refine r_aload_n eX12_readNth_29 rfl ?_
      refine t_virtV (As := []) (rest := []) (d' := d + 1 + 1) (ci := 12) eX12_readNth_30 k_12_307 rfl rfl rfl (by omega) (Nat.le_of_ble_eq_true rfl) (Nat.le_of_ble_eq_true rfl) (fun _ q => s_X12_next q) q (fun h30 q => ?_)
      refine r_iconst (v := (-1)) eX12_readNth_33 (by decide) ?_
      refine r_istore (lv' := [_, _, _, _, _]) eX12_readNth_34 (Nat.le_of_ble_eq_true rfl) rfl ?_
      refine r_aload_n eX12_readNth_36 rfl ?_
      refine r_ldcws (j := 23) eX12_readNth_37 rfl ?_
      refine t_virtI (As := [_]) (rest := []) (d' := d + 2 + 0) (ci := 12) eX12_readNth_40 k_12_276 rfl rfl rfl (by omega) (Nat.le_of_ble_eq_true rfl) (Nat.le_of_ble_eq_true rfl) (fun _ q => s_X12_isWord q) q (fun v40 h40 q => ?_)
      refine t_if_eq eX12_readNth_43 (t := 56) (by decide) q (fun q => ?_) (fun q => ?_)
      · exact sJ_X12_readNth_56  q
      refine r_aload_n eX12_readNth_46 rfl ?_
      refine t_virtV (As := []) (rest := []) (d' := d + 1 + 1) (ci := 12) eX12_readNth_47 k_12_307 rfl rfl rfl (by omega) (Nat.le_of_ble_eq_true rfl) (Nat.le_of_ble_eq_true rfl) (fun _ q => s_X12_next q) q (fun h47 q => ?_)
      refine r_aload_n eX12_readNth_50 rfl ?_
      refine t_virtI (As := []) (rest := []) (d' := d + 0 + 2) (ci := 12) eX12_readNth_51 k_12_346 rfl rfl rfl (by omega) (Nat.le_of_ble_eq_true rfl) (Nat.le_of_ble_eq_true rfl) (fun _ q => s_X12_readName q) q (fun v51 h51 q => ?_)
      refine r_istore (lv' := [_, _, _, _, _]) eX12_readNth_54 (Nat.le_of_ble_eq_true rfl) rfl ?_
      exact sJ_X12_readNth_56  q
    refine r_aload_n eX12_readNth_23 rfl ?_
    refine r_iconst (v := (2)) eX12_readNth_24 (by decide) ?_
    refine t_virtV (As := [_]) (rest := []) (d' := d + 2 + 0) (ci := 12) eX12_readNth_25 k_12_304 rfl rfl rfl (by omega) (Nat.le_of_ble_eq_true rfl) (Nat.le_of_ble_eq_true rfl) (fun _ q => s_X12_wrong q) q (fun h25 q => ?_)
    exact t_rtV eX12_readNth_28 rfl q
  exact t_rtV eX12_readNth_17 rfl q
theorem sJ_X12_readWord_113 {E : Ev} {d kc ks : Nat} {Φ : Ou → Hp → Prop} {y0 : Nat} {y1 : Int32} {y2 : Int32} {y3 : Int32} {y4 : Int32} {t0 : Int32} {h : Hp}  (q : OK (J_X12_readWord_113 E y0 y1 y3 y4 t0 h) Φ) : WE E mX12_readWord (d + 4) 113 [some (.ref y0), some (.int y1), some (.int y2), some (.int y3), some (.int y4), none] [.int t0] h kc ks Φ := by
  refine r_istore (lv' := [_, _, _, _, _, _]) eX12_readWord_113 (Nat.le_of_ble_eq_true rfl) rfl ?_
  refine r_aload_n eX12_readWord_115 rfl ?_
  refine r_iload_n eX12_readWord_116 rfl ?_
  refine r_iload_n eX12_readWord_117 rfl ?_
  refine t_if_eq eX12_readWord_118 (t := 125) (by decide) q (fun q => ?_) (fun q => ?_)
  · refine r_iconst (v := (0)) eX12_readWord_125 (by decide) ?_
    refine r_iload eX12_readWord_126 rfl ?_
    refine r_iload eX12_readWord_128 rfl ?_
    refine t_virtV (As := [_, _, _, _]) (rest := []) (d' := d + 2 + 1) (ci := 12) eX12_readWord_130 k_12_340 rfl rfl rfl (by omega) (Nat.le_of_ble_eq_true rfl) (Nat.le_of_ble_eq_true rfl) (fun _ q => s_X12_lays q) q (fun h130 q => ?_)
    refine r_goto (t := 268) eX12_readWord_133 (by decide) ?_
    exact t_rtV eX12_readWord_268 rfl q
  refine r_iconst (v := (1)) eX12_readWord_121 (by decide) ?_
  refine r_goto (t := 126) eX12_readWord_122 (by decide) ?_
  refine r_iload eX12_readWord_126 rfl ?_
  refine r_iload eX12_readWord_128 rfl ?_
  refine t_virtV (As := [_, _, _, _]) (rest := []) (d' := d + 2 + 1) (ci := 12) eX12_readWord_130 k_12_340 rfl rfl rfl (by omega) (Nat.le_of_ble_eq_true rfl) (Nat.le_of_ble_eq_true rfl) (fun _ q => s_X12_lays q) q (fun h130 q => ?_)
  refine r_goto (t := 268) eX12_readWord_133 (by decide) ?_
  exact t_rtV eX12_readWord_268 rfl q
theorem sJ_X12_readWord_99 {E : Ev} {d kc ks : Nat} {Φ : Ou → Hp → Prop} {y0 : Nat} {y1 : Int32} {y2 : Int32} {y3 : Int32} {t0 : Int32} {h : Hp}  (q : OK (J_X12_readWord_99 E y0 y1 y3 t0 h) Φ) : WE E mX12_readWord (d + 4) 99 [some (.ref y0), some (.int y1), some (.int y2), some (.int y3), none, none] [.int t0] h kc ks Φ := by
  refine r_istore (lv' := [_, _, _, _, _, _]) eX12_readWord_99 (Nat.le_of_ble_eq_true rfl) rfl ?_
  refine r_iload_n eX12_readWord_101 rfl ?_
  refine t_if_eq eX12_readWord_102 (t := 109) (by decide) q (fun q => ?_) (fun q => ?_)
  · refine r_aload_n eX12_readWord_109 rfl ?_
    refine t_virtI (As := []) (rest := []) (d' := d + 1 + 2) (ci := 12) eX12_readWord_110 k_12_349 rfl rfl rfl (by omega) (Nat.le_of_ble_eq_true rfl) (Nat.le_of_ble_eq_true rfl) (fun _ q => s_X12_readNumber q) q (fun v110 h110 q => ?_)
    exact sJ_X12_readWord_113  q
  refine r_iconst (v := (0)) eX12_readWord_105 (by decide) ?_
  refine r_goto (t := 113) eX12_readWord_106 (by decide) ?_
  exact sJ_X12_readWord_113  q
theorem sJ_X12_readWord_87 {E : Ev} {d kc ks : Nat} {Φ : Ou → Hp → Prop} {y0 : Nat} {y1 : Int32} {y2 : Int32} {y3 : Int32} {h : Hp}  (q : OK (J_X12_readWord_87 E y0 y1 y3 h) Φ) : WE E mX12_readWord (d + 4) 87 [some (.ref y0), some (.int y1), some (.int y2), some (.int y3), none, none] [] h kc ks Φ := by
  refine r_iload_n eX12_readWord_87 rfl ?_
  refine t_if_eq eX12_readWord_88 (t := 98) (by decide) q (fun q => ?_) (fun q => ?_)
  · refine r_iconst (v := (-1)) eX12_readWord_98 (by decide) ?_
    exact sJ_X12_readWord_99  q
  refine r_aload_n eX12_readWord_91 rfl ?_
  refine t_virtI (As := []) (rest := []) (d' := d + 1 + 2) (ci := 12) eX12_readWord_92 k_12_346 rfl rfl rfl (by omega) (Nat.le_of_ble_eq_true rfl) (Nat.le_of_ble_eq_true rfl) (fun _ q => s_X12_readName q) q (fun v92 h92 q => ?_)
  refine r_goto (t := 99) eX12_readWord_95 (by decide) ?_
  exact sJ_X12_readWord_99  q
theorem sJ_X12_readWord_203 {E : Ev} {d kc ks : Nat} {Φ : Ou → Hp → Prop} {y0 : Nat} {y1 : Int32} {y2 : Int32} {t0 : Int32} {h : Hp}  (q : OK (J_X12_readWord_203 E y0 y1 t0 h) Φ) : WE E mX12_readWord (d + 4) 203 [some (.ref y0), some (.int y1), some (.int y2), none, none, none] [.int t0] h kc ks Φ := by
  refine r_istore_n (lv' := [_, _, _, _, _, _]) eX12_readWord_203 (Nat.le_of_ble_eq_true rfl) rfl ?_
  refine r_aload_n eX12_readWord_204 rfl ?_
  refine t_virtV (As := []) (rest := []) (d' := d + 2 + 1) (ci := 12) eX12_readWord_205 k_12_307 rfl rfl rfl (by omega) (Nat.le_of_ble_eq_true rfl) (Nat.le_of_ble_eq_true rfl) (fun _ q => s_X12_next q) q (fun h205 q => ?_)
  refine r_aload_n eX12_readWord_208 rfl ?_
  refine r_iload_n eX12_readWord_209 rfl ?_
  refine r_iload_n eX12_readWord_210 rfl ?_
  refine r_iconst (v := (0)) eX12_readWord_211 (by decide) ?_
  refine r_iconst (v := (-1)) eX12_readWord_212 (by decide) ?_
  refine t_virtV (As := [_, _, _, _]) (rest := []) (d' := d + 2 + 1) (ci := 12) eX12_readWord_213 k_12_340 rfl rfl rfl (by omega) (Nat.le_of_ble_eq_true rfl) (Nat.le_of_ble_eq_true rfl) (fun _ q => s_X12_lays q) q (fun h213 q => ?_)
  refine r_goto (t := 268) eX12_readWord_216 (by decide) ?_
  exact t_rtV eX12_readWord_268 rfl q
theorem sJ_X12_readWord_186 {E : Ev} {d kc ks : Nat} {Φ : Ou → Hp → Prop} {y0 : Nat} {y1 : Int32} {y2 : Int32} {h : Hp}  (q : OK (J_X12_readWord_186 E y0 y1 h) Φ) : WE E mX12_readWord (d + 4) 186 [some (.ref y0), some (.int y1), some (.int y2), none, none, none] [] h kc ks Φ := by
  refine r_aload_n eX12_readWord_186 rfl ?_
  refine r_ldcws (j := 20) eX12_readWord_187 rfl ?_
  refine t_virtI (As := [_]) (rest := []) (d' := d + 3 + 0) (ci := 12) eX12_readWord_190 k_12_276 rfl rfl rfl (by omega) (Nat.le_of_ble_eq_true rfl) (Nat.le_of_ble_eq_true rfl) (fun _ q => s_X12_isWord q) q (fun v190 h190 q => ?_)
  refine t_if_eq eX12_readWord_193 (t := 201) (by decide) q (fun q => ?_) (fun q => ?_)
  · refine r_bipush (v := (7)) eX12_readWord_201 (by decide) ?_
    exact sJ_X12_readWord_203  q
  refine r_bipush (v := (6)) eX12_readWord_196 (by decide) ?_
  refine r_goto (t := 203) eX12_readWord_198 (by decide) ?_
  exact sJ_X12_readWord_203  q
theorem sJ_X12_readWord_248 {E : Ev} {d kc ks : Nat} {Φ : Ou → Hp → Prop} {y0 : Nat} {y1 : Int32} {y2 : Int32} {t0 : Int32} {h : Hp}  (q : OK (J_X12_readWord_248 E y0 y1 t0 h) Φ) : WE E mX12_readWord (d + 4) 248 [some (.ref y0), some (.int y1), some (.int y2), none, none, none] [.int t0] h kc ks Φ := by
  refine r_istore_n (lv' := [_, _, _, _, _, _]) eX12_readWord_248 (Nat.le_of_ble_eq_true rfl) rfl ?_
  refine r_aload_n eX12_readWord_249 rfl ?_
  refine t_virtV (As := []) (rest := []) (d' := d + 2 + 1) (ci := 12) eX12_readWord_250 k_12_307 rfl rfl rfl (by omega) (Nat.le_of_ble_eq_true rfl) (Nat.le_of_ble_eq_true rfl) (fun _ q => s_X12_next q) q (fun h250 q => ?_)
  refine r_aload_n eX12_readWord_253 rfl ?_
  refine t_virtI (As := []) (rest := []) (d' := d + 1 + 2) (ci := 12) eX12_readWord_254 k_12_346 rfl rfl rfl (by omega) (Nat.le_of_ble_eq_true rfl) (Nat.le_of_ble_eq_true rfl) (fun _ q => s_X12_readName q) q (fun v254 h254 q => ?_)
  refine r_istore (lv' := [_, _, _, _, _, _]) eX12_readWord_257 (Nat.le_of_ble_eq_true rfl) rfl ?_
  refine r_aload_n eX12_readWord_259 rfl ?_
  refine r_iload_n eX12_readWord_260 rfl ?_
  refine r_iload_n eX12_readWord_261 rfl ?_
  refine r_iconst (v := (0)) eX12_readWord_262 (by decide) ?_
  refine r_iload eX12_readWord_263 rfl ?_
  refine t_virtV (As := [_, _, _, _]) (rest := []) (d' := d + 2 + 1) (ci := 12) eX12_readWord_265 k_12_340 rfl rfl rfl (by omega) (Nat.le_of_ble_eq_true rfl) (Nat.le_of_ble_eq_true rfl) (fun _ q => s_X12_lays q) q (fun h265 q => ?_)
  exact t_rtV eX12_readWord_268 rfl q
theorem s_X12_readWord {E : Ev} {d : Nat} {a0 : Nat} {x1 : Int32} {h : Hp} {Φ : Ou → Hp → Prop} (q : OK (F_X12_readWord E a0 x1 h) Φ) : CE E mX12_readWord (d + 4) [.ref a0, .int x1] h 0 0 Φ := by
  show WE E mX12_readWord (d + 4) 0 [some (.ref a0), some (.int x1), none, none, none, none] [] h 0 0 Φ
  refine r_aload_n eX12_readWord_0 rfl ?_
  refine t_virtI (As := []) (rest := []) (d' := d + 2 + 1) (ci := 12) eX12_readWord_1 k_12_330 rfl rfl rfl (by omega) (Nat.le_of_ble_eq_true rfl) (Nat.le_of_ble_eq_true rfl) (fun _ q => s_X12_sideNow q) q (fun v1 h1 q => ?_)
  refine r_istore_n (lv' := [_, _, _, _, _, _]) eX12_readWord_4 (Nat.le_of_ble_eq_true rfl) rfl ?_
  refine r_aload_n eX12_readWord_5 rfl ?_
  refine t_virtI (As := []) (rest := []) (d' := d + 1 + 2) (ci := 12) eX12_readWord_6 k_12_333 rfl rfl rfl (by omega) (Nat.le_of_ble_eq_true rfl) (Nat.le_of_ble_eq_true rfl) (fun _ q => s_X12_isBegun q) q (fun v6 h6 q => ?_)
  refine t_if_ne eX12_readWord_9 (t := 20) (by decide) q (fun q => ?_) (fun q => ?_)
  · refine r_aload_n eX12_readWord_20 rfl ?_
    refine t_gfI eX12_readWord_21 f_12_243 q (fun v21 q => ?_)
    refine r_iconst (v := (2)) eX12_readWord_24 (by decide) ?_
    refine t_icmp_ne eX12_readWord_25 (t := 36) (by decide) q (fun q => ?_) (fun q => ?_)
    · refine r_iload_n eX12_readWord_36 rfl ?_
      refine r_iconst (v := (-1)) eX12_readWord_37 (by decide) ?_
      refine t_icmp_eq eX12_readWord_38 (t := 57) (by decide) q (fun q => ?_) (fun q => ?_)
      · refine r_aload_n eX12_readWord_57 rfl ?_
        refine r_ldcws (j := 15) eX12_readWord_58 rfl ?_
        refine t_virtI (As := [_]) (rest := []) (d' := d + 3 + 0) (ci := 12) eX12_readWord_61 k_12_276 rfl rfl rfl (by omega) (Nat.le_of_ble_eq_true rfl) (Nat.le_of_ble_eq_true rfl) (fun _ q => s_X12_isWord q) q (fun v61 h61 q => ?_)
        refine t_if_eq eX12_readWord_64 (t := 136) (by decide) q (fun q => ?_) (fun q => ?_)
        · refine r_aload_n eX12_readWord_136 rfl ?_
          refine r_ldcws (j := 17) eX12_readWord_137 rfl ?_
          refine t_virtI (As := [_]) (rest := []) (d' := d + 3 + 0) (ci := 12) eX12_readWord_140 k_12_276 rfl rfl rfl (by omega) (Nat.le_of_ble_eq_true rfl) (Nat.le_of_ble_eq_true rfl) (fun _ q => s_X12_isWord q) q (fun v140 h140 q => ?_)
          refine t_if_eq eX12_readWord_143 (t := 166) (by decide) q (fun q => ?_) (fun q => ?_)
          · refine r_aload_n eX12_readWord_166 rfl ?_
            refine r_ldcws (j := 20) eX12_readWord_167 rfl ?_
            refine t_virtI (As := [_]) (rest := []) (d' := d + 3 + 0) (ci := 12) eX12_readWord_170 k_12_276 rfl rfl rfl (by omega) (Nat.le_of_ble_eq_true rfl) (Nat.le_of_ble_eq_true rfl) (fun _ q => s_X12_isWord q) q (fun v170 h170 q => ?_)
            refine t_if_ne eX12_readWord_173 (t := 186) (by decide) q (fun q => ?_) (fun q => ?_)
            · exact sJ_X12_readWord_186  q
            refine r_aload_n eX12_readWord_176 rfl ?_
            refine r_ldcws (j := 21) eX12_readWord_177 rfl ?_
            refine t_virtI (As := [_]) (rest := []) (d' := d + 3 + 0) (ci := 12) eX12_readWord_180 k_12_276 rfl rfl rfl (by omega) (Nat.le_of_ble_eq_true rfl) (Nat.le_of_ble_eq_true rfl) (fun _ q => s_X12_isWord q) q (fun v180 h180 q => ?_)
            refine t_if_eq eX12_readWord_183 (t := 219) (by decide) q (fun q => ?_) (fun q => ?_)
            · refine r_aload_n eX12_readWord_219 rfl ?_
              refine r_ldcws (j := 16) eX12_readWord_220 rfl ?_
              refine t_virtI (As := [_]) (rest := []) (d' := d + 3 + 0) (ci := 12) eX12_readWord_223 k_12_276 rfl rfl rfl (by omega) (Nat.le_of_ble_eq_true rfl) (Nat.le_of_ble_eq_true rfl) (fun _ q => s_X12_isWord q) q (fun v223 h223 q => ?_)
              refine t_if_eq eX12_readWord_226 (t := 233) (by decide) q (fun q => ?_) (fun q => ?_)
              · refine r_aload_n eX12_readWord_233 rfl ?_
                refine r_ldcws (j := 18) eX12_readWord_234 rfl ?_
                refine t_virtI (As := [_]) (rest := []) (d' := d + 3 + 0) (ci := 12) eX12_readWord_237 k_12_276 rfl rfl rfl (by omega) (Nat.le_of_ble_eq_true rfl) (Nat.le_of_ble_eq_true rfl) (fun _ q => s_X12_isWord q) q (fun v237 h237 q => ?_)
                refine t_if_eq eX12_readWord_240 (t := 247) (by decide) q (fun q => ?_) (fun q => ?_)
                · refine r_iconst (v := (5)) eX12_readWord_247 (by decide) ?_
                  exact sJ_X12_readWord_248  q
                refine r_iconst (v := (4)) eX12_readWord_243 (by decide) ?_
                refine r_goto (t := 248) eX12_readWord_244 (by decide) ?_
                exact sJ_X12_readWord_248  q
              refine r_iconst (v := (2)) eX12_readWord_229 (by decide) ?_
              refine r_goto (t := 248) eX12_readWord_230 (by decide) ?_
              exact sJ_X12_readWord_248  q
            exact sJ_X12_readWord_186  q
          refine r_aload_n eX12_readWord_146 rfl ?_
          refine t_virtV (As := []) (rest := []) (d' := d + 2 + 1) (ci := 12) eX12_readWord_147 k_12_307 rfl rfl rfl (by omega) (Nat.le_of_ble_eq_true rfl) (Nat.le_of_ble_eq_true rfl) (fun _ q => s_X12_next q) q (fun h147 q => ?_)
          refine r_aload_n eX12_readWord_150 rfl ?_
          refine t_virtI (As := []) (rest := []) (d' := d + 1 + 2) (ci := 12) eX12_readWord_151 k_12_349 rfl rfl rfl (by omega) (Nat.le_of_ble_eq_true rfl) (Nat.le_of_ble_eq_true rfl) (fun _ q => s_X12_readNumber q) q (fun v151 h151 q => ?_)
          refine r_istore_n (lv' := [_, _, _, _, _, _]) eX12_readWord_154 (Nat.le_of_ble_eq_true rfl) rfl ?_
          refine r_aload_n eX12_readWord_155 rfl ?_
          refine r_iload_n eX12_readWord_156 rfl ?_
          refine r_iconst (v := (3)) eX12_readWord_157 (by decide) ?_
          refine r_iload_n eX12_readWord_158 rfl ?_
          refine r_iconst (v := (-1)) eX12_readWord_159 (by decide) ?_
          refine t_virtV (As := [_, _, _, _]) (rest := []) (d' := d + 2 + 1) (ci := 12) eX12_readWord_160 k_12_340 rfl rfl rfl (by omega) (Nat.le_of_ble_eq_true rfl) (Nat.le_of_ble_eq_true rfl) (fun _ q => s_X12_lays q) q (fun h160 q => ?_)
          refine r_goto (t := 268) eX12_readWord_163 (by decide) ?_
          exact t_rtV eX12_readWord_268 rfl q
        refine r_aload_n eX12_readWord_67 rfl ?_
        refine t_virtV (As := []) (rest := []) (d' := d + 2 + 1) (ci := 12) eX12_readWord_68 k_12_307 rfl rfl rfl (by omega) (Nat.le_of_ble_eq_true rfl) (Nat.le_of_ble_eq_true rfl) (fun _ q => s_X12_next q) q (fun h68 q => ?_)
        refine r_aload_n eX12_readWord_71 rfl ?_
        refine r_ldcws (j := 22) eX12_readWord_72 rfl ?_
        refine t_virtI (As := [_]) (rest := []) (d' := d + 3 + 0) (ci := 12) eX12_readWord_75 k_12_276 rfl rfl rfl (by omega) (Nat.le_of_ble_eq_true rfl) (Nat.le_of_ble_eq_true rfl) (fun _ q => s_X12_isWord q) q (fun v75 h75 q => ?_)
        refine r_istore_n (lv' := [_, _, _, _, _, _]) eX12_readWord_78 (Nat.le_of_ble_eq_true rfl) rfl ?_
        refine r_iload_n eX12_readWord_79 rfl ?_
        refine t_if_eq eX12_readWord_80 (t := 87) (by decide) q (fun q => ?_) (fun q => ?_)
        · exact sJ_X12_readWord_87  q
        refine r_aload_n eX12_readWord_83 rfl ?_
        refine t_virtV (As := []) (rest := []) (d' := d + 2 + 1) (ci := 12) eX12_readWord_84 k_12_307 rfl rfl rfl (by omega) (Nat.le_of_ble_eq_true rfl) (Nat.le_of_ble_eq_true rfl) (fun _ q => s_X12_next q) q (fun h84 q => ?_)
        exact sJ_X12_readWord_87  q
      refine r_aload_n eX12_readWord_41 rfl ?_
      refine t_virtV (As := []) (rest := []) (d' := d + 2 + 1) (ci := 12) eX12_readWord_42 k_12_307 rfl rfl rfl (by omega) (Nat.le_of_ble_eq_true rfl) (Nat.le_of_ble_eq_true rfl) (fun _ q => s_X12_next q) q (fun h42 q => ?_)
      refine r_aload_n eX12_readWord_45 rfl ?_
      refine r_iload_n eX12_readWord_46 rfl ?_
      refine r_bipush (v := (8)) eX12_readWord_47 (by decide) ?_
      refine r_iload_n eX12_readWord_49 rfl ?_
      refine r_iconst (v := (-1)) eX12_readWord_50 (by decide) ?_
      refine t_virtV (As := [_, _, _, _]) (rest := []) (d' := d + 2 + 1) (ci := 12) eX12_readWord_51 k_12_340 rfl rfl rfl (by omega) (Nat.le_of_ble_eq_true rfl) (Nat.le_of_ble_eq_true rfl) (fun _ q => s_X12_lays q) q (fun h51 q => ?_)
      refine r_goto (t := 268) eX12_readWord_54 (by decide) ?_
      exact t_rtV eX12_readWord_268 rfl q
    refine r_aload_n eX12_readWord_28 rfl ?_
    refine r_iload_n eX12_readWord_29 rfl ?_
    refine t_virtV (As := [_]) (rest := []) (d' := d + 0 + 3) (ci := 12) eX12_readWord_30 k_12_337 rfl rfl rfl (by omega) (Nat.le_of_ble_eq_true rfl) (Nat.le_of_ble_eq_true rfl) (fun _ q => s_X12_readNth q) q (fun h30 q => ?_)
    refine r_goto (t := 268) eX12_readWord_33 (by decide) ?_
    exact t_rtV eX12_readWord_268 rfl q
  refine r_aload_n eX12_readWord_12 rfl ?_
  refine r_iconst (v := (2)) eX12_readWord_13 (by decide) ?_
  refine t_virtV (As := [_]) (rest := []) (d' := d + 3 + 0) (ci := 12) eX12_readWord_14 k_12_304 rfl rfl rfl (by omega) (Nat.le_of_ble_eq_true rfl) (Nat.le_of_ble_eq_true rfl) (fun _ q => s_X12_wrong q) q (fun h14 q => ?_)
  refine r_goto (t := 268) eX12_readWord_17 (by decide) ?_
  exact t_rtV eX12_readWord_268 rfl q
