theorem s_X9_lead {E : Ev} {d : Nat} {a0 : Nat} {x1 : Int32} {a2 : Nat} {x3 : Int32} {a4 : Nat} {h : Hp} {Φ : Ou → Hp → Prop} (q : OK (F_X9_lead E a0 x1 a2 x3 a4 h) Φ) : CE E mX9_lead (d + 5) [.ref a0, .int x1, .ref a2, .int x3, .ref a4] h 0 0 Φ := by
  show WE E mX9_lead (d + 5) 0 [some (.ref a0), some (.int x1), some (.ref a2), some (.int x3), some (.ref a4), none, none] [] h 0 0 Φ
  refine r_iload_n eX9_lead_0 rfl ?_
  refine r_iconst (v := (4)) eX9_lead_1 (by decide) ?_
  refine r_ishr eX9_lead_2 ?_
  refine r_bipush (v := (31)) eX9_lead_3 (by decide) ?_
  refine r_iand eX9_lead_5 ?_
  replace q := OK_lt q
  refine r_istore (lv' := [_, _, _, _, _, _, _]) eX9_lead_6 (Nat.le_of_ble_eq_true rfl) rfl ?_
  refine r_iload_n eX9_lead_8 rfl ?_
  refine r_bipush (v := (9)) eX9_lead_9 (by decide) ?_
  refine r_ishr eX9_lead_11 ?_
  replace q := OK_lt q
  refine r_istore (lv' := [_, _, _, _, _, _, _]) eX9_lead_12 (Nat.le_of_ble_eq_true rfl) rfl ?_
  refine r_iload_n eX9_lead_14 rfl ?_
  refine r_bipush (v := (15)) eX9_lead_15 (by decide) ?_
  refine r_iand eX9_lead_17 ?_
  refine OK_ite q (fun c1 q => ?_) (fun n1 q => ?_)
  · refine r_tsw 80 eX9_lead_18 (by rw [c1]; decide) ?_
    refine r_aload_n eX9_lead_80 rfl ?_
    refine r_iload eX9_lead_81 rfl ?_
    refine r_aload_n eX9_lead_83 rfl ?_
    refine r_iload_n eX9_lead_84 rfl ?_
    refine r_aload eX9_lead_85 rfl ?_
    refine t_virtV (As := [_, _, _, _]) (rest := []) (d' := d + 0 + 4) (ci := 9) eX9_lead_87 k_9_75 rfl rfl rfl (by omega) (Nat.le_of_ble_eq_true rfl) (Nat.le_of_ble_eq_true rfl) (fun _ q => s_X9_goTimes q) q (fun h87 q => ?_)
    refine r_goto (t := 271) eX9_lead_90 (by decide) ?_
    exact t_rtV eX9_lead_271 rfl q
  refine OK_ite q (fun c2 q => ?_) (fun n2 q => ?_)
  · refine r_tsw 93 eX9_lead_18 (by rw [c2]; decide) ?_
    refine r_aload_n eX9_lead_93 rfl ?_
    refine r_aload_n eX9_lead_94 rfl ?_
    refine r_iload eX9_lead_95 rfl ?_
    refine t_virtL (As := [_]) (rest := [_]) (d' := d + 4 + 0) (ci := 9) eX9_lead_97 k_9_79 rfl rfl rfl (by omega) (Nat.le_of_ble_eq_true rfl) (Nat.le_of_ble_eq_true rfl) (fun _ q => s_X9_placesWith q) q (fun v97 h97 q => ?_)
    refine r_aload_n eX9_lead_100 rfl ?_
    refine r_iload_n eX9_lead_101 rfl ?_
    refine r_iconst (v := (0)) eX9_lead_102 (by decide) ?_
    refine r_aload eX9_lead_103 rfl ?_
    refine t_virtV (As := [_, _, _, _, _]) (rest := []) (d' := d + 0 + 4) (ci := 9) eX9_lead_105 k_9_80 rfl rfl rfl (by omega) (Nat.le_of_ble_eq_true rfl) (Nat.le_of_ble_eq_true rfl) (fun _ q => s_X9_goUntil q) q (fun h105 q => ?_)
    refine r_goto (t := 271) eX9_lead_108 (by decide) ?_
    exact t_rtV eX9_lead_271 rfl q
  refine OK_ite q (fun c3 q => ?_) (fun n3 q => ?_)
  · refine r_tsw 111 eX9_lead_18 (by rw [c3]; decide) ?_
    refine r_aload_n eX9_lead_111 rfl ?_
    refine r_aload_n eX9_lead_112 rfl ?_
    refine r_iload eX9_lead_113 rfl ?_
    refine t_virtL (As := [_]) (rest := [_]) (d' := d + 4 + 0) (ci := 9) eX9_lead_115 k_9_79 rfl rfl rfl (by omega) (Nat.le_of_ble_eq_true rfl) (Nat.le_of_ble_eq_true rfl) (fun _ q => s_X9_placesWith q) q (fun v115 h115 q => ?_)
    refine r_aload_n eX9_lead_118 rfl ?_
    refine r_iload_n eX9_lead_119 rfl ?_
    refine r_iconst (v := (1)) eX9_lead_120 (by decide) ?_
    refine r_aload eX9_lead_121 rfl ?_
    refine t_virtV (As := [_, _, _, _, _]) (rest := []) (d' := d + 0 + 4) (ci := 9) eX9_lead_123 k_9_80 rfl rfl rfl (by omega) (Nat.le_of_ble_eq_true rfl) (Nat.le_of_ble_eq_true rfl) (fun _ q => s_X9_goUntil q) q (fun h123 q => ?_)
    refine r_goto (t := 271) eX9_lead_126 (by decide) ?_
    exact t_rtV eX9_lead_271 rfl q
  refine OK_ite q (fun c4 q => ?_) (fun n4 q => ?_)
  · refine r_tsw 129 eX9_lead_18 (by rw [c4]; decide) ?_
    refine r_aload_n eX9_lead_129 rfl ?_
    refine r_iload eX9_lead_130 rfl ?_
    refine r_aload_n eX9_lead_132 rfl ?_
    refine r_iload_n eX9_lead_133 rfl ?_
    refine r_aload eX9_lead_134 rfl ?_
    refine t_virtV (As := [_, _, _, _]) (rest := []) (d' := d + 0 + 4) (ci := 9) eX9_lead_136 k_9_84 rfl rfl rfl (by omega) (Nat.le_of_ble_eq_true rfl) (Nat.le_of_ble_eq_true rfl) (fun _ q => s_X9_goFar q) q (fun h136 q => ?_)
    refine r_goto (t := 271) eX9_lead_139 (by decide) ?_
    exact t_rtV eX9_lead_271 rfl q
  refine OK_ite q (fun c5 q => ?_) (fun n5 q => ?_)
  · refine r_tsw 142 eX9_lead_18 (by rw [c5]; decide) ?_
    refine r_aload_n eX9_lead_142 rfl ?_
    refine r_aload_n eX9_lead_143 rfl ?_
    refine r_iload eX9_lead_144 rfl ?_
    refine t_virtL (As := [_]) (rest := [_]) (d' := d + 1 + 3) (ci := 9) eX9_lead_146 k_9_87 rfl rfl rfl (by omega) (Nat.le_of_ble_eq_true rfl) (Nat.le_of_ble_eq_true rfl) (fun _ q => s_X9_seenPlaces q) q (fun v146 h146 q => ?_)
    refine r_aload_n eX9_lead_149 rfl ?_
    refine r_iload_n eX9_lead_150 rfl ?_
    refine r_aload eX9_lead_151 rfl ?_
    refine t_virtV (As := [_, _, _, _]) (rest := []) (d' := d + 3 + 1) (ci := 9) eX9_lead_153 k_9_88 rfl rfl rfl (by omega) (Nat.le_of_ble_eq_true rfl) (Nat.le_of_ble_eq_true rfl) (fun _ q => s_X9_staySeeing q) q (fun h153 q => ?_)
    refine r_goto (t := 271) eX9_lead_156 (by decide) ?_
    exact t_rtV eX9_lead_271 rfl q
  refine OK_ite q (fun c6 q => ?_) (fun n6 q => ?_)
  · refine r_tsw 159 eX9_lead_18 (by rw [c6]; decide) ?_
    refine r_aload_n eX9_lead_159 rfl ?_
    refine r_aload_n eX9_lead_160 rfl ?_
    refine r_iload eX9_lead_161 rfl ?_
    refine t_virtL (As := [_]) (rest := [_]) (d' := d + 4 + 0) (ci := 9) eX9_lead_163 k_9_79 rfl rfl rfl (by omega) (Nat.le_of_ble_eq_true rfl) (Nat.le_of_ble_eq_true rfl) (fun _ q => s_X9_placesWith q) q (fun v163 h163 q => ?_)
    refine r_aload_n eX9_lead_166 rfl ?_
    refine r_iload_n eX9_lead_167 rfl ?_
    refine r_aload eX9_lead_168 rfl ?_
    refine t_virtV (As := [_, _, _, _]) (rest := []) (d' := d + 0 + 4) (ci := 9) eX9_lead_170 k_9_92 rfl rfl rfl (by omega) (Nat.le_of_ble_eq_true rfl) (Nat.le_of_ble_eq_true rfl) (fun _ q => s_X9_stayAheadOf q) q (fun h170 q => ?_)
    refine r_goto (t := 271) eX9_lead_173 (by decide) ?_
    exact t_rtV eX9_lead_271 rfl q
  refine OK_ite q (fun c7 q => ?_) (fun n7 q => ?_)
  · refine r_tsw 176 eX9_lead_18 (by rw [c7]; decide) ?_
    refine r_aload_n eX9_lead_176 rfl ?_
    refine r_ldc2 eX9_lead_177 g_9_95 ?_
    refine r_aload_n eX9_lead_180 rfl ?_
    refine r_iload_n eX9_lead_181 rfl ?_
    refine r_aload eX9_lead_182 rfl ?_
    refine t_virtV (As := [_, _, _, _]) (rest := []) (d' := d + 3 + 1) (ci := 9) eX9_lead_184 k_9_88 rfl rfl rfl (by omega) (Nat.le_of_ble_eq_true rfl) (Nat.le_of_ble_eq_true rfl) (fun _ q => s_X9_staySeeing q) q (fun h184 q => ?_)
    refine r_goto (t := 271) eX9_lead_187 (by decide) ?_
    exact t_rtV eX9_lead_271 rfl q
  refine OK_ite q (fun c8 q => ?_) (fun n8 q => ?_)
  · refine r_tsw 190 eX9_lead_18 (by rw [c8]; decide) ?_
    refine r_aload_n eX9_lead_190 rfl ?_
    refine r_aload_n eX9_lead_191 rfl ?_
    refine r_iload_n eX9_lead_192 rfl ?_
    refine r_aload eX9_lead_193 rfl ?_
    refine t_virtV (As := [_, _, _]) (rest := []) (d' := d + 3 + 1) (ci := 9) eX9_lead_195 k_9_97 rfl rfl rfl (by omega) (Nat.le_of_ble_eq_true rfl) (Nat.le_of_ble_eq_true rfl) (fun _ q => s_X9_goBack q) q (fun h195 q => ?_)
    refine r_goto (t := 271) eX9_lead_198 (by decide) ?_
    exact t_rtV eX9_lead_271 rfl q
  refine OK_ite q (fun c9 q => ?_) (fun n9 q => ?_)
  · refine r_tsw 201 eX9_lead_18 (by rw [c9]; decide) ?_
    refine r_aload_n eX9_lead_201 rfl ?_
    refine r_aload_n eX9_lead_202 rfl ?_
    refine r_iload_n eX9_lead_203 rfl ?_
    refine r_bipush (v := (15)) eX9_lead_204 (by decide) ?_
    refine r_iand eX9_lead_206 ?_
    refine r_bipush (v := (9)) eX9_lead_207 (by decide) ?_
    refine t_virtI (As := [_, _]) (rest := [_]) (d' := d + 4 + 0) (ci := 9) eX9_lead_209 k_9_101 rfl rfl rfl (by omega) (Nat.le_of_ble_eq_true rfl) (Nat.le_of_ble_eq_true rfl) (fun _ q => s_X9_sideOf q) q (fun v209 h209 q => ?_)
    refine r_aload_n eX9_lead_212 rfl ?_
    refine r_iload_n eX9_lead_213 rfl ?_
    refine r_aload eX9_lead_214 rfl ?_
    refine t_virtV (As := [_, _, _, _]) (rest := []) (d' := d + 1 + 3) (ci := 9) eX9_lead_216 k_9_104 rfl rfl rfl (by omega) (Nat.le_of_ble_eq_true rfl) (Nat.le_of_ble_eq_true rfl) (fun _ q => s_X9_turn q) q (fun h216 q => ?_)
    refine r_goto (t := 271) eX9_lead_219 (by decide) ?_
    exact t_rtV eX9_lead_271 rfl q
  refine OK_ite q (fun c10 q => ?_) (fun n10 q => ?_)
  · refine r_tsw 201 eX9_lead_18 (by rw [c10]; decide) ?_
    refine r_aload_n eX9_lead_201 rfl ?_
    refine r_aload_n eX9_lead_202 rfl ?_
    refine r_iload_n eX9_lead_203 rfl ?_
    refine r_bipush (v := (15)) eX9_lead_204 (by decide) ?_
    refine r_iand eX9_lead_206 ?_
    refine r_bipush (v := (9)) eX9_lead_207 (by decide) ?_
    refine t_virtI (As := [_, _]) (rest := [_]) (d' := d + 4 + 0) (ci := 9) eX9_lead_209 k_9_101 rfl rfl rfl (by omega) (Nat.le_of_ble_eq_true rfl) (Nat.le_of_ble_eq_true rfl) (fun _ q => s_X9_sideOf q) q (fun v209 h209 q => ?_)
    refine r_aload_n eX9_lead_212 rfl ?_
    refine r_iload_n eX9_lead_213 rfl ?_
    refine r_aload eX9_lead_214 rfl ?_
    refine t_virtV (As := [_, _, _, _]) (rest := []) (d' := d + 1 + 3) (ci := 9) eX9_lead_216 k_9_104 rfl rfl rfl (by omega) (Nat.le_of_ble_eq_true rfl) (Nat.le_of_ble_eq_true rfl) (fun _ q => s_X9_turn q) q (fun h216 q => ?_)
    refine r_goto (t := 271) eX9_lead_219 (by decide) ?_
    exact t_rtV eX9_lead_271 rfl q
  refine OK_ite q (fun c11 q => ?_) (fun n11 q => ?_)
  · refine r_tsw 222 eX9_lead_18 (by rw [c11]; decide) ?_
    refine r_aload_n eX9_lead_222 rfl ?_
    refine t_gfR eX9_lead_223 f_9_49 q (fun v223 q => ?_)
    refine r_aload_n eX9_lead_226 rfl ?_
    refine r_iconst (v := (0)) eX9_lead_227 (by decide) ?_
    refine r_iload_n eX9_lead_228 rfl ?_
    refine r_lconst (v := 0) eX9_lead_229 rfl ?_
    refine t_virtV (As := [_, _, _, _]) (rest := []) (d' := d + 3 + 1) (ci := 7) eX9_lead_230 k_9_107 rfl rfl rfl (by omega) (Nat.le_of_ble_eq_true rfl) (Nat.le_of_ble_eq_true rfl) (fun _ q => s_X7_begin q) q (fun h230 q => ?_)
    refine r_aload_n eX9_lead_233 rfl ?_
    refine r_iload eX9_lead_234 rfl ?_
    refine r_aload_n eX9_lead_236 rfl ?_
    refine r_iload_n eX9_lead_237 rfl ?_
    refine r_bipush (v := (15)) eX9_lead_238 (by decide) ?_
    refine r_iand eX9_lead_240 ?_
    refine r_bipush (v := (11)) eX9_lead_241 (by decide) ?_
    refine t_virtI (As := [_, _]) (rest := [_, _]) (d' := d + 4 + 0) (ci := 9) eX9_lead_243 k_9_101 rfl rfl rfl (by omega) (Nat.le_of_ble_eq_true rfl) (Nat.le_of_ble_eq_true rfl) (fun _ q => s_X9_sideOf q) q (fun v243 h243 q => ?_)
    refine r_iload eX9_lead_246 rfl ?_
    refine r_bipush (v := (15)) eX9_lead_248 (by decide) ?_
    refine t_icmp_ne eX9_lead_250 (t := 257) (by decide) q (fun q => ?_) (fun q => ?_)
    · refine r_aload_n eX9_lead_257 rfl ?_
      refine r_iload eX9_lead_258 rfl ?_
      refine t_virtL (As := [_]) (rest := [_, _, _]) (d' := d + 4 + 0) (ci := 9) eX9_lead_260 k_9_79 rfl rfl rfl (by omega) (Nat.le_of_ble_eq_true rfl) (Nat.le_of_ble_eq_true rfl) (fun _ q => s_X9_placesWith q) q (fun v260 h260 q => ?_)
      refine r_aload eX9_lead_263 rfl ?_
      refine t_virtV (As := [_, _, _, _]) (rest := []) (d' := d + 0 + 4) (ci := 9) eX9_lead_265 k_9_111 rfl rfl rfl (by omega) (Nat.le_of_ble_eq_true rfl) (Nat.le_of_ble_eq_true rfl) (fun _ q => s_X9_turnAt q) q (fun h265 q => ?_)
      refine r_goto (t := 271) eX9_lead_268 (by decide) ?_
      exact t_rtV eX9_lead_271 rfl q
    refine r_lconst (v := 0) eX9_lead_253 rfl ?_
    refine r_goto (t := 263) eX9_lead_254 (by decide) ?_
    refine r_aload eX9_lead_263 rfl ?_
    refine t_virtV (As := [_, _, _, _]) (rest := []) (d' := d + 0 + 4) (ci := 9) eX9_lead_265 k_9_111 rfl rfl rfl (by omega) (Nat.le_of_ble_eq_true rfl) (Nat.le_of_ble_eq_true rfl) (fun _ q => s_X9_turnAt q) q (fun h265 q => ?_)
    refine r_goto (t := 271) eX9_lead_268 (by decide) ?_
    exact t_rtV eX9_lead_271 rfl q
  refine OK_ite q (fun c12 q => ?_) (fun n12 q => ?_)
  · refine r_tsw 222 eX9_lead_18 (by rw [c12]; decide) ?_
    refine r_aload_n eX9_lead_222 rfl ?_
    refine t_gfR eX9_lead_223 f_9_49 q (fun v223 q => ?_)
    refine r_aload_n eX9_lead_226 rfl ?_
    refine r_iconst (v := (0)) eX9_lead_227 (by decide) ?_
    refine r_iload_n eX9_lead_228 rfl ?_
    refine r_lconst (v := 0) eX9_lead_229 rfl ?_
    refine t_virtV (As := [_, _, _, _]) (rest := []) (d' := d + 3 + 1) (ci := 7) eX9_lead_230 k_9_107 rfl rfl rfl (by omega) (Nat.le_of_ble_eq_true rfl) (Nat.le_of_ble_eq_true rfl) (fun _ q => s_X7_begin q) q (fun h230 q => ?_)
    refine r_aload_n eX9_lead_233 rfl ?_
    refine r_iload eX9_lead_234 rfl ?_
    refine r_aload_n eX9_lead_236 rfl ?_
    refine r_iload_n eX9_lead_237 rfl ?_
    refine r_bipush (v := (15)) eX9_lead_238 (by decide) ?_
    refine r_iand eX9_lead_240 ?_
    refine r_bipush (v := (11)) eX9_lead_241 (by decide) ?_
    refine t_virtI (As := [_, _]) (rest := [_, _]) (d' := d + 4 + 0) (ci := 9) eX9_lead_243 k_9_101 rfl rfl rfl (by omega) (Nat.le_of_ble_eq_true rfl) (Nat.le_of_ble_eq_true rfl) (fun _ q => s_X9_sideOf q) q (fun v243 h243 q => ?_)
    refine r_iload eX9_lead_246 rfl ?_
    refine r_bipush (v := (15)) eX9_lead_248 (by decide) ?_
    refine t_icmp_ne eX9_lead_250 (t := 257) (by decide) q (fun q => ?_) (fun q => ?_)
    · refine r_aload_n eX9_lead_257 rfl ?_
      refine r_iload eX9_lead_258 rfl ?_
      refine t_virtL (As := [_]) (rest := [_, _, _]) (d' := d + 4 + 0) (ci := 9) eX9_lead_260 k_9_79 rfl rfl rfl (by omega) (Nat.le_of_ble_eq_true rfl) (Nat.le_of_ble_eq_true rfl) (fun _ q => s_X9_placesWith q) q (fun v260 h260 q => ?_)
      refine r_aload eX9_lead_263 rfl ?_
      refine t_virtV (As := [_, _, _, _]) (rest := []) (d' := d + 0 + 4) (ci := 9) eX9_lead_265 k_9_111 rfl rfl rfl (by omega) (Nat.le_of_ble_eq_true rfl) (Nat.le_of_ble_eq_true rfl) (fun _ q => s_X9_turnAt q) q (fun h265 q => ?_)
      refine r_goto (t := 271) eX9_lead_268 (by decide) ?_
      exact t_rtV eX9_lead_271 rfl q
    refine r_lconst (v := 0) eX9_lead_253 rfl ?_
    refine r_goto (t := 263) eX9_lead_254 (by decide) ?_
    refine r_aload eX9_lead_263 rfl ?_
    refine t_virtV (As := [_, _, _, _]) (rest := []) (d' := d + 0 + 4) (ci := 9) eX9_lead_265 k_9_111 rfl rfl rfl (by omega) (Nat.le_of_ble_eq_true rfl) (Nat.le_of_ble_eq_true rfl) (fun _ q => s_X9_turnAt q) q (fun h265 q => ?_)
    refine r_goto (t := 271) eX9_lead_268 (by decide) ?_
    exact t_rtV eX9_lead_271 rfl q
  refine r_tsw 271 eX9_lead_18 (tsw_d (by have z1 := ne_i n1; have z2 := ne_i n2; have z3 := ne_i n3; have z4 := ne_i n4; have z5 := ne_i n5; have z6 := ne_i n6; have z7 := ne_i n7; have z8 := ne_i n8; have z9 := ne_i n9; have z10 := ne_i n10; have z11 := ne_i n11; have z12 := ne_i n12; rw [show (1 : Int32).toInt = 1 from by decide] at z1; rw [show (2 : Int32).toInt = 2 from by decide] at z2; rw [show (3 : Int32).toInt = 3 from by decide] at z3; rw [show (4 : Int32).toInt = 4 from by decide] at z4; rw [show (5 : Int32).toInt = 5 from by decide] at z5; rw [show (6 : Int32).toInt = 6 from by decide] at z6; rw [show (7 : Int32).toInt = 7 from by decide] at z7; rw [show (8 : Int32).toInt = 8 from by decide] at z8; rw [show (9 : Int32).toInt = 9 from by decide] at z9; rw [show (10 : Int32).toInt = 10 from by decide] at z10; rw [show (11 : Int32).toInt = 11 from by decide] at z11; rw [show (12 : Int32).toInt = 12 from by decide] at z12; omega) (by decide) (by decide)) ?_
  exact t_rtV eX9_lead_271 rfl q
theorem sL_X1_allGoOn_2 {E : Ev} {d kc ks : Nat} {Φ : Ou → Hp → Prop} {y0 : Nat} {y1 : Int32} {y2 : Int32}  : ∀ (g : Nat) (y3 : Int32) (y4 : Option Value) (y5 : Option Value) (h : Hp), OK (L_X1_allGoOn_2 E y0 y1 y2 g y3 h) Φ → WE E mX1_allGoOn (d + 6) 2 [some (.ref y0), some (.int y1), some (.int y2), some (.int y3), y4, y5] [] h kc ks Φ := by
  intro g
  induction g with
  | zero => intro y3 y4 y5 h q; exact q.elim
  | succ g ih =>
    intro y3 y4 y5 h q
    refine r_iload_n eX1_allGoOn_2 rfl ?_
    refine r_bipush (v := (8)) eX1_allGoOn_3 (by decide) ?_
    refine t_icmp_ge eX1_allGoOn_5 (t := 103) (by decide) q (fun q => ?_) (fun q => ?_)
    · refine r_iconst (v := (1)) eX1_allGoOn_103 (by decide) ?_
      exact t_rtZ eX1_allGoOn_104 rfl q
    refine r_aload_n eX1_allGoOn_8 rfl ?_
    refine t_gfI eX1_allGoOn_9 f_1_45 q (fun v9 q => ?_)
    refine r_i2l eX1_allGoOn_12 ?_
    refine r_iload_n eX1_allGoOn_13 rfl ?_
    refine t_statI (As := [_, _]) (rest := []) (d' := d + 5 + 0) eX1_allGoOn_14 k_1_53 rfl (by omega) (Nat.le_of_ble_eq_true rfl) (Nat.le_of_ble_eq_true rfl) (fun _ q => s_X11_isIn q) q (fun v14 h14 q => ?_)
    refine t_if_eq eX1_allGoOn_17 (t := 97) (by decide) q (fun q => ?_) (fun q => ?_)
    · refine r_iinc (v := (1)) (lv' := [_, _, _, _, _, _]) eX1_allGoOn_97 rfl (by decide) rfl ?_
      refine r_goto (t := 2) eX1_allGoOn_100 (by decide) ?_
      exact ih _ _ _ _ q
    refine r_aload_n eX1_allGoOn_20 rfl ?_
    refine t_gfR eX1_allGoOn_21 f_1_17 q (fun v21 q => ?_)
    refine r_iload_n eX1_allGoOn_24 rfl ?_
    refine r_iconst (v := (1)) eX1_allGoOn_25 (by decide) ?_
    refine r_iadd eX1_allGoOn_26 ?_
    refine r_bipush (v := (8)) eX1_allGoOn_27 (by decide) ?_
    refine r_imul eX1_allGoOn_29 ?_
    refine r_iload_n eX1_allGoOn_30 rfl ?_
    refine r_iadd eX1_allGoOn_31 ?_
    refine t_gaR eX1_allGoOn_32 (by decide) q (fun v32 q => ?_)
    refine r_astore (lv' := [_, _, _, _, _, _]) eX1_allGoOn_33 (Nat.le_of_ble_eq_true rfl) rfl ?_
    refine r_aload eX1_allGoOn_35 rfl ?_
    refine t_virtV (As := []) (rest := []) (d' := d + 4 + 1) (ci := 6) eX1_allGoOn_37 k_1_80 rfl rfl rfl (by omega) (Nat.le_of_ble_eq_true rfl) (Nat.le_of_ble_eq_true rfl) (fun _ q => s_X6_clear q) q (fun h37 q => ?_)
    refine r_aload_n eX1_allGoOn_40 rfl ?_
    refine t_gfR eX1_allGoOn_41 f_1_17 q (fun v41 q => ?_)
    refine r_iload_n eX1_allGoOn_44 rfl ?_
    refine r_bipush (v := (8)) eX1_allGoOn_45 (by decide) ?_
    refine r_imul eX1_allGoOn_47 ?_
    refine r_iload_n eX1_allGoOn_48 rfl ?_
    refine r_iadd eX1_allGoOn_49 ?_
    refine t_gaR eX1_allGoOn_50 (by decide) q (fun v50 q => ?_)
    refine r_aload_n eX1_allGoOn_51 rfl ?_
    refine t_gfR eX1_allGoOn_52 f_1_35 q (fun v52 q => ?_)
    refine t_virtI (As := [_]) (rest := []) (d' := d + 3 + 2) (ci := 6) eX1_allGoOn_55 k_1_103 rfl rfl rfl (by omega) (Nat.le_of_ble_eq_true rfl) (Nat.le_of_ble_eq_true rfl) (fun _ q => s_X6_list q) q (fun v55 h55 q => ?_)
    refine r_istore (lv' := [_, _, _, _, _, _]) eX1_allGoOn_58 (Nat.le_of_ble_eq_true rfl) rfl ?_
    refine r_aload_n eX1_allGoOn_60 rfl ?_
    refine t_gfR eX1_allGoOn_61 f_1_41 q (fun v61 q => ?_)
    refine r_iload_n eX1_allGoOn_64 rfl ?_
    refine t_virtV (As := [_]) (rest := []) (d' := d + 5 + 0) (ci := 9) eX1_allGoOn_65 k_1_106 rfl rfl rfl (by omega) (Nat.le_of_ble_eq_true rfl) (Nat.le_of_ble_eq_true rfl) (fun _ q => s_X9_become q) q (fun h65 q => ?_)
    refine r_aload_n eX1_allGoOn_68 rfl ?_
    refine t_gfR eX1_allGoOn_69 f_1_41 q (fun v69 q => ?_)
    refine r_iload_n eX1_allGoOn_72 rfl ?_
    refine t_statI (As := [_]) (rest := [_]) (d' := d + 4 + 1) eX1_allGoOn_73 k_1_109 rfl (by omega) (Nat.le_of_ble_eq_true rfl) (Nat.le_of_ble_eq_true rfl) (fun _ q => s_X11_listedWord q) q (fun v73 h73 q => ?_)
    refine r_aload_n eX1_allGoOn_76 rfl ?_
    refine t_gfR eX1_allGoOn_77 f_1_35 q (fun v77 q => ?_)
    refine r_iload eX1_allGoOn_80 rfl ?_
    refine r_aload eX1_allGoOn_82 rfl ?_
    refine t_virtV (As := [_, _, _, _]) (rest := []) (d' := d + 0 + 5) (ci := 9) eX1_allGoOn_84 k_1_113 rfl rfl rfl (by omega) (Nat.le_of_ble_eq_true rfl) (Nat.le_of_ble_eq_true rfl) (fun _ q => s_X9_lead q) q (fun h84 q => ?_)
    refine r_aload eX1_allGoOn_87 rfl ?_
    refine t_virtI (As := []) (rest := []) (d' := d + 5 + 0) (ci := 6) eX1_allGoOn_89 k_1_117 rfl rfl rfl (by omega) (Nat.le_of_ble_eq_true rfl) (Nat.le_of_ble_eq_true rfl) (fun _ q => s_X6_isEmpty q) q (fun v89 h89 q => ?_)
    refine t_if_eq eX1_allGoOn_92 (t := 97) (by decide) q (fun q => ?_) (fun q => ?_)
    · refine r_iinc (v := (1)) (lv' := [_, _, _, _, _, _]) eX1_allGoOn_97 rfl (by decide) rfl ?_
      refine r_goto (t := 2) eX1_allGoOn_100 (by decide) ?_
      exact ih _ _ _ _ q
    refine r_iconst (v := (0)) eX1_allGoOn_95 (by decide) ?_
    exact t_rtZ eX1_allGoOn_96 rfl q
theorem s_X1_allGoOn {E : Ev} {d : Nat} {a0 : Nat} {x1 : Int32} {x2 : Int32} {h : Hp} {Φ : Ou → Hp → Prop} (q : OK (F_X1_allGoOn E a0 x1 x2 h) Φ) : CE E mX1_allGoOn (d + 6) [.ref a0, .int x1, .int x2] h 0 0 Φ := by
  show WE E mX1_allGoOn (d + 6) 0 [some (.ref a0), some (.int x1), some (.int x2), none, none, none] [] h 0 0 Φ
  refine r_iconst (v := (0)) eX1_allGoOn_0 (by decide) ?_
  refine r_istore_n (lv' := [_, _, _, _, _, _]) eX1_allGoOn_1 (Nat.le_of_ble_eq_true rfl) rfl ?_
  exact sL_X1_allGoOn_2  _ _ _ _ _ q
theorem s_J6_bitCount_0f7a4 {E : Ev} {d : Nat} {x0 : Int32} {h : Hp} {Φ : Ou → Hp → Prop} (q : OK (F_J6_bitCount_0f7a4 E x0 h) Φ) : CE E mJ6_bitCount_0f7a4 (d + 0) [.int x0] h 0 0 Φ := by
  show WE E mJ6_bitCount_0f7a4 (d + 0) 0 [some (.int x0)] [] h 0 0 Φ
  refine r_iload_n eJ6_bitCount_0f7a4_0 rfl ?_
  refine r_iload_n eJ6_bitCount_0f7a4_1 rfl ?_
  refine r_iconst (v := (1)) eJ6_bitCount_0f7a4_2 (by decide) ?_
  refine r_iushr eJ6_bitCount_0f7a4_3 ?_
  refine r_ldcw eJ6_bitCount_0f7a4_4 g_16_265 ?_
  refine r_iand eJ6_bitCount_0f7a4_7 ?_
  refine r_isub eJ6_bitCount_0f7a4_8 ?_
  replace q := OK_lt q
  refine r_istore_n (lv' := [_]) eJ6_bitCount_0f7a4_9 (Nat.le_of_ble_eq_true rfl) rfl ?_
  refine r_iload_n eJ6_bitCount_0f7a4_10 rfl ?_
  refine r_ldcw eJ6_bitCount_0f7a4_11 g_16_266 ?_
  refine r_iand eJ6_bitCount_0f7a4_14 ?_
  refine r_iload_n eJ6_bitCount_0f7a4_15 rfl ?_
  refine r_iconst (v := (2)) eJ6_bitCount_0f7a4_16 (by decide) ?_
  refine r_iushr eJ6_bitCount_0f7a4_17 ?_
  refine r_ldcw eJ6_bitCount_0f7a4_18 g_16_266 ?_
  refine r_iand eJ6_bitCount_0f7a4_21 ?_
  refine r_iadd eJ6_bitCount_0f7a4_22 ?_
  replace q := OK_lt q
  refine r_istore_n (lv' := [_]) eJ6_bitCount_0f7a4_23 (Nat.le_of_ble_eq_true rfl) rfl ?_
  refine r_iload_n eJ6_bitCount_0f7a4_24 rfl ?_
  refine r_iload_n eJ6_bitCount_0f7a4_25 rfl ?_
  refine r_iconst (v := (4)) eJ6_bitCount_0f7a4_26 (by decide) ?_
  refine r_iushr eJ6_bitCount_0f7a4_27 ?_
  refine r_iadd eJ6_bitCount_0f7a4_28 ?_
  refine r_ldcw eJ6_bitCount_0f7a4_29 g_16_267 ?_
  refine r_iand eJ6_bitCount_0f7a4_32 ?_
  replace q := OK_lt q
  refine r_istore_n (lv' := [_]) eJ6_bitCount_0f7a4_33 (Nat.le_of_ble_eq_true rfl) rfl ?_
  refine r_iload_n eJ6_bitCount_0f7a4_34 rfl ?_
  refine r_iload_n eJ6_bitCount_0f7a4_35 rfl ?_
  refine r_bipush (v := (8)) eJ6_bitCount_0f7a4_36 (by decide) ?_
  refine r_iushr eJ6_bitCount_0f7a4_38 ?_
  refine r_iadd eJ6_bitCount_0f7a4_39 ?_
  replace q := OK_lt q
  refine r_istore_n (lv' := [_]) eJ6_bitCount_0f7a4_40 (Nat.le_of_ble_eq_true rfl) rfl ?_
  refine r_iload_n eJ6_bitCount_0f7a4_41 rfl ?_
  refine r_iload_n eJ6_bitCount_0f7a4_42 rfl ?_
  refine r_bipush (v := (16)) eJ6_bitCount_0f7a4_43 (by decide) ?_
  refine r_iushr eJ6_bitCount_0f7a4_45 ?_
  refine r_iadd eJ6_bitCount_0f7a4_46 ?_
  replace q := OK_lt q
  refine r_istore_n (lv' := [_]) eJ6_bitCount_0f7a4_47 (Nat.le_of_ble_eq_true rfl) rfl ?_
  refine r_iload_n eJ6_bitCount_0f7a4_48 rfl ?_
  refine r_bipush (v := (63)) eJ6_bitCount_0f7a4_49 (by decide) ?_
  refine r_iand eJ6_bitCount_0f7a4_51 ?_
  exact t_rtI eJ6_bitCount_0f7a4_52 rfl q
theorem sL_X10_placesOf_27 {E : Ev} {d kc ks : Nat} {Φ : Ou → Hp → Prop} {y0 : Nat} {y1 : Nat} {y4 : Int32} {K70 : Int64 → Hp → Rs} (hK70 : ∀ (w2 : Int64) (w5 : Int64) (w7 : Int32) (h : Hp), OK (K70 w2 h) Φ → WE E mX10_placesOf (d + 2) 70 [some (.ref y0), some (.ref y1), some (.long w2), none, some (.int y4), some (.long w5), none, some (.int w7)] [] h kc ks Φ) : ∀ (g : Nat) (y2 : Int64) (y5 : Int64) (y7 : Int32) (h : Hp), OK (L_X10_placesOf_27 E K70 y0 y4 g y2 y5 y7 h) Φ → WE E mX10_placesOf (d + 2) 27 [some (.ref y0), some (.ref y1), some (.long y2), none, some (.int y4), some (.long y5), none, some (.int y7)] [] h kc ks Φ := by
  intro g
  induction g with
  | zero => intro y2 y5 y7 h q; exact q.elim
  | succ g ih =>
    intro y2 y5 y7 h q
    refine r_iload eX10_placesOf_27 rfl ?_
    refine t_if_le eX10_placesOf_29 (t := 70) (by decide) q (fun q => ?_) (fun q => ?_)
    · exact hK70 _ _ _ _ q
    refine r_lload_n eX10_placesOf_32 rfl ?_
    refine r_lconst (v := 1) eX10_placesOf_33 rfl ?_
    refine r_aload_n eX10_placesOf_34 rfl ?_
    refine t_gfR eX10_placesOf_35 f_10_45 q (fun v35 q => ?_)
    refine t_gfR eX10_placesOf_38 f_10_121 q (fun v38 q => ?_)
    refine r_iload eX10_placesOf_41 rfl ?_
    refine r_lload eX10_placesOf_43 rfl ?_
    refine t_statI (As := [_]) (rest := [_, _, _, _]) (d' := d + 0 + 1) eX10_placesOf_45 k_10_158 rfl (by omega) (Nat.le_of_ble_eq_true rfl) (Nat.le_of_ble_eq_true rfl) (fun _ q => s_X11_lowest q) q (fun v45 h45 q => ?_)
    refine t_statI (As := [_, _]) (rest := [_, _, _]) (d' := d + 1 + 0) eX10_placesOf_48 k_10_161 rfl (by omega) (Nat.le_of_ble_eq_true rfl) (Nat.le_of_ble_eq_true rfl) (fun _ q => s_X6_stateOf q) q (fun v48 h48 q => ?_)
    refine t_gaI eX10_placesOf_51 q (fun v51 q => ?_)
    refine r_lshl eX10_placesOf_52 ?_
    refine r_lor eX10_placesOf_53 ?_
    replace q := OK_lt q
    refine r_lstore_n (lv' := [_, _, _, _, _, _, _, _]) eX10_placesOf_54 (Nat.le_of_ble_eq_true rfl) rfl ?_
    refine r_lload eX10_placesOf_55 rfl ?_
    refine r_lload eX10_placesOf_57 rfl ?_
    refine r_lconst (v := 1) eX10_placesOf_59 rfl ?_
    refine r_lsub eX10_placesOf_60 ?_
    refine r_land eX10_placesOf_61 ?_
    replace q := OK_lt q
    refine r_lstore (lv' := [_, _, _, _, _, _, _, _]) eX10_placesOf_62 (Nat.le_of_ble_eq_true rfl) rfl ?_
    refine r_iinc (v := (-1)) (lv' := [_, _, _, _, _, _, _, _]) eX10_placesOf_64 rfl (by decide) rfl ?_
    refine r_goto (t := 27) eX10_placesOf_67 (by decide) ?_
    exact ih _ _ _ _ q
theorem sL_X10_placesOf_5 {E : Ev} {d kc ks : Nat} {Φ : Ou → Hp → Prop} {y0 : Nat} {y1 : Nat}  : ∀ (g : Nat) (y2 : Int64) (y4 : Int32) (y5 : Option Value) (y6 : Option Value) (y7 : Option Value) (h : Hp), OK (L_X10_placesOf_5 E y0 y1 g y2 y4 h) Φ → WE E mX10_placesOf (d + 2) 5 [some (.ref y0), some (.ref y1), some (.long y2), none, some (.int y4), y5, y6, y7] [] h kc ks Φ := by
  intro g
  induction g with
  | zero => intro y2 y4 y5 y6 y7 h q; exact q.elim
  | succ g ih =>
    intro y2 y4 y5 y6 y7 h q
    refine r_iload eX10_placesOf_5 rfl ?_
    refine r_iconst (v := (4)) eX10_placesOf_7 (by decide) ?_
    refine t_icmp_ge eX10_placesOf_8 (t := 76) (by decide) q (fun q => ?_) (fun q => ?_)
    · refine r_lload_n eX10_placesOf_76 rfl ?_
      exact t_rtL eX10_placesOf_77 rfl q
    refine r_aload_n eX10_placesOf_11 rfl ?_
    refine t_gfR eX10_placesOf_12 f_10_155 q (fun v12 q => ?_)
    refine r_iload eX10_placesOf_15 rfl ?_
    refine t_gaL eX10_placesOf_17 q (fun v17 q => ?_)
    refine r_lstore (lv' := [_, _, _, _, _, _, _, _]) eX10_placesOf_18 (Nat.le_of_ble_eq_true rfl) rfl ?_
    refine r_lload eX10_placesOf_20 rfl ?_
    refine t_statI (As := [_]) (rest := []) (d' := d + 1 + 0) eX10_placesOf_22 k_10_143 rfl (by omega) (Nat.le_of_ble_eq_true rfl) (Nat.le_of_ble_eq_true rfl) (fun _ q => s_J13_bitCount_95d88 q) q (fun v22 h22 q => ?_)
    refine r_istore (lv' := [_, _, _, _, _, _, _, _]) eX10_placesOf_25 (Nat.le_of_ble_eq_true rfl) rfl ?_
    refine sL_X10_placesOf_27 (fun w1 w2 w3 h4 q => ?_) _ _ _ _ _ q
    refine r_iinc (v := (1)) (lv' := [_, _, _, _, _, _, _, _]) eX10_placesOf_70 rfl (by decide) rfl ?_
    refine r_goto (t := 5) eX10_placesOf_73 (by decide) ?_
    exact ih _ _ _ _ _ _ q
theorem s_X10_placesOf {E : Ev} {d : Nat} {a0 : Nat} {a1 : Nat} {h : Hp} {Φ : Ou → Hp → Prop} (q : OK (F_X10_placesOf E a0 a1 h) Φ) : CE E mX10_placesOf (d + 2) [.ref a0, .ref a1] h 0 0 Φ := by
  show WE E mX10_placesOf (d + 2) 0 [some (.ref a0), some (.ref a1), none, none, none, none, none, none] [] h 0 0 Φ
  refine r_lconst (v := 0) eX10_placesOf_0 rfl ?_
  refine r_lstore_n (lv' := [_, _, _, _, _, _, _, _]) eX10_placesOf_1 (Nat.le_of_ble_eq_true rfl) rfl ?_
  refine r_iconst (v := (0)) eX10_placesOf_2 (by decide) ?_
  refine r_istore (lv' := [_, _, _, _, _, _, _, _]) eX10_placesOf_3 (Nat.le_of_ble_eq_true rfl) rfl ?_
  exact sL_X10_placesOf_5  _ _ _ _ _ _ _ q
theorem s_X1_judge {E : Ev} {d : Nat} {a0 : Nat} {x1 : Int32} {x2 : Int32} {h : Hp} {Φ : Ou → Hp → Prop} (q : OK (F_X1_judge E a0 x1 x2 h) Φ) : CE E mX1_judge (d + 3) [.ref a0, .int x1, .int x2] h 0 0 Φ := by
  show WE E mX1_judge (d + 3) 0 [some (.ref a0), some (.int x1), some (.int x2), none, none] [] h 0 0 Φ
  refine r_aload_n eX1_judge_0 rfl ?_
  refine t_gfR eX1_judge_1 f_1_41 q (fun v1 q => ?_)
  refine t_gfR eX1_judge_4 f_1_57 q (fun v4 q => ?_)
  refine r_aload_n eX1_judge_7 rfl ?_
  refine t_gfR eX1_judge_8 f_1_31 q (fun v8 q => ?_)
  refine t_virtL (As := [_]) (rest := []) (d' := d + 0 + 2) (ci := 10) eX1_judge_11 k_1_130 rfl rfl rfl (by omega) (Nat.le_of_ble_eq_true rfl) (Nat.le_of_ble_eq_true rfl) (fun _ q => s_X10_placesOf q) q (fun v11 h11 q => ?_)
  refine r_lstore_n (lv' := [_, _, _, _, _]) eX1_judge_14 (Nat.le_of_ble_eq_true rfl) rfl ?_
  refine r_aload_n eX1_judge_15 rfl ?_
  refine t_gfR eX1_judge_16 f_1_21 q (fun v16 q => ?_)
  refine r_iload_n eX1_judge_19 rfl ?_
  refine r_dup2 eX1_judge_20 rfl rfl ?_
  refine t_gaI eX1_judge_21 q (fun v21 q => ?_)
  refine r_iload_n eX1_judge_22 rfl ?_
  refine r_ior eX1_judge_23 ?_
  refine t_paI eX1_judge_24 q (fun h24 q => ?_)
  refine r_lload_n eX1_judge_25 rfl ?_
  refine r_aload_n eX1_judge_26 rfl ?_
  refine t_gfL eX1_judge_27 f_1_49 q (fun v27 q => ?_)
  refine t_lc_ne eX1_judge_30 eX1_judge_31 (t := 47) (by decide) q (fun q => ?_) (fun q => ?_)
  · refine r_lload_n eX1_judge_47 rfl ?_
    refine r_lconst (v := 0) eX1_judge_48 rfl ?_
    refine t_lc_eq eX1_judge_49 eX1_judge_50 (t := 63) (by decide) q (fun q => ?_) (fun q => ?_)
    · exact t_rtV eX1_judge_63 rfl q
    refine r_aload_n eX1_judge_53 rfl ?_
    refine t_gfR eX1_judge_54 f_1_27 q (fun v54 q => ?_)
    refine r_iload_n eX1_judge_57 rfl ?_
    refine r_dup2 eX1_judge_58 rfl rfl ?_
    refine t_gaI eX1_judge_59 q (fun v59 q => ?_)
    refine r_iload_n eX1_judge_60 rfl ?_
    refine r_ior eX1_judge_61 ?_
    refine t_paI eX1_judge_62 q (fun h62 q => ?_)
    exact t_rtV eX1_judge_63 rfl q
  refine r_aload_n eX1_judge_34 rfl ?_
  refine t_gfR eX1_judge_35 f_1_24 q (fun v35 q => ?_)
  refine r_iload_n eX1_judge_38 rfl ?_
  refine r_dup2 eX1_judge_39 rfl rfl ?_
  refine t_gaI eX1_judge_40 q (fun v40 q => ?_)
  refine r_iload_n eX1_judge_41 rfl ?_
  refine r_ior eX1_judge_42 ?_
  refine t_paI eX1_judge_43 q (fun h43 q => ?_)
  refine r_goto (t := 63) eX1_judge_44 (by decide) ?_
  exact t_rtV eX1_judge_63 rfl q
theorem sL_X1_arriving_98 {E : Ev} {d kc ks : Nat} {Φ : Ou → Hp → Prop} {y0 : Nat} {y1 : Int32} {y2 : Int32} {y3 : Int32} {y4 : Int32} {y5 : Int32} {y6 : Int32} {y7 : Int32} {y8 : Int32} {K162 : Hp → Rs} (hK162 : ∀ (w9 : Int32) (w10 : Int32) (h : Hp), OK (K162 h) Φ → WE E mX1_arriving (d + 6) 162 [some (.ref y0), some (.int y1), some (.int y2), some (.int y3), some (.int y4), some (.int y5), some (.int y6), some (.int y7), some (.int y8), some (.int w9), some (.int w10)] [] h kc ks Φ) : ∀ (g : Nat) (y9 : Int32) (y10 : Int32) (h : Hp), OK (L_X1_arriving_98 E K162 y0 y8 g y9 y10 h) Φ → WE E mX1_arriving (d + 6) 98 [some (.ref y0), some (.int y1), some (.int y2), some (.int y3), some (.int y4), some (.int y5), some (.int y6), some (.int y7), some (.int y8), some (.int y9), some (.int y10)] [] h kc ks Φ := by
  intro g
  induction g with
  | zero => intro y9 y10 h q; exact q.elim
  | succ g ih =>
    intro y9 y10 h q
    refine r_iload eX1_arriving_98 rfl ?_
    refine t_if_le eX1_arriving_100 (t := 162) (by decide) q (fun q => ?_) (fun q => ?_)
    · exact hK162 _ _ _ q
    refine r_aload_n eX1_arriving_103 rfl ?_
    refine t_gfR eX1_arriving_104 f_1_31 q (fun v104 q => ?_)
    refine t_virtV (As := []) (rest := []) (d' := d + 4 + 1) (ci := 6) eX1_arriving_107 k_1_80 rfl rfl rfl (by omega) (Nat.le_of_ble_eq_true rfl) (Nat.le_of_ble_eq_true rfl) (fun _ q => s_X6_clear q) q (fun h107 q => ?_)
    refine r_aload_n eX1_arriving_110 rfl ?_
    refine t_gfR eX1_arriving_111 f_1_41 q (fun v111 q => ?_)
    refine r_iload eX1_arriving_114 rfl ?_
    refine r_i2l eX1_arriving_116 ?_
    refine t_statI (As := [_]) (rest := [_]) (d' := d + 4 + 1) eX1_arriving_117 k_1_92 rfl (by omega) (Nat.le_of_ble_eq_true rfl) (Nat.le_of_ble_eq_true rfl) (fun _ q => s_X11_lowest q) q (fun v117 h117 q => ?_)
    refine t_statI (As := [_]) (rest := [_]) (d' := d + 4 + 1) eX1_arriving_120 k_1_109 rfl (by omega) (Nat.le_of_ble_eq_true rfl) (Nat.le_of_ble_eq_true rfl) (fun _ q => s_X11_listedWord q) q (fun v120 h120 q => ?_)
    refine r_aload_n eX1_arriving_123 rfl ?_
    refine t_gfR eX1_arriving_124 f_1_38 q (fun v124 q => ?_)
    refine r_iconst (v := (1)) eX1_arriving_127 (by decide) ?_
    refine r_aload_n eX1_arriving_128 rfl ?_
    refine t_gfR eX1_arriving_129 f_1_31 q (fun v129 q => ?_)
    refine t_virtV (As := [_, _, _, _]) (rest := []) (d' := d + 0 + 5) (ci := 9) eX1_arriving_132 k_1_113 rfl rfl rfl (by omega) (Nat.le_of_ble_eq_true rfl) (Nat.le_of_ble_eq_true rfl) (fun _ q => s_X9_lead q) q (fun h132 q => ?_)
    refine r_aload_n eX1_arriving_135 rfl ?_
    refine r_iload eX1_arriving_136 rfl ?_
    refine r_iload eX1_arriving_138 rfl ?_
    refine r_iload eX1_arriving_140 rfl ?_
    refine r_ineg eX1_arriving_142 ?_
    refine r_iand eX1_arriving_143 ?_
    refine t_virtV (As := [_, _]) (rest := []) (d' := d + 2 + 3) (ci := 1) eX1_arriving_144 k_1_126 rfl rfl rfl (by omega) (Nat.le_of_ble_eq_true rfl) (Nat.le_of_ble_eq_true rfl) (fun _ q => s_X1_judge q) q (fun h144 q => ?_)
    refine r_iload eX1_arriving_147 rfl ?_
    refine r_iload eX1_arriving_149 rfl ?_
    refine r_iconst (v := (1)) eX1_arriving_151 (by decide) ?_
    refine r_isub eX1_arriving_152 ?_
    refine r_iand eX1_arriving_153 ?_
    replace q := OK_lt q
    refine r_istore (lv' := [_, _, _, _, _, _, _, _, _, _, _]) eX1_arriving_154 (Nat.le_of_ble_eq_true rfl) rfl ?_
    refine r_iinc (v := (-1)) (lv' := [_, _, _, _, _, _, _, _, _, _, _]) eX1_arriving_156 rfl (by decide) rfl ?_
    refine r_goto (t := 98) eX1_arriving_159 (by decide) ?_
    exact ih _ _ _ q
theorem sL_X1_arriving_37 {E : Ev} {d kc ks : Nat} {Φ : Ou → Hp → Prop} {y0 : Nat} {y1 : Int32} {y2 : Int32} {y3 : Int32} {y4 : Int32}  : ∀ (g : Nat) (y5 : Int32) (y6 : Int32) (y7 : Int32) (y8 : Option Value) (y9 : Option Value) (y10 : Option Value) (h : Hp), OK (L_X1_arriving_37 E y0 y2 y4 g y5 y6 y7 h) Φ → WE E mX1_arriving (d + 6) 37 [some (.ref y0), some (.int y1), some (.int y2), some (.int y3), some (.int y4), some (.int y5), some (.int y6), some (.int y7), y8, y9, y10] [] h kc ks Φ := by
  intro g
  induction g with
  | zero => intro y5 y6 y7 y8 y9 y10 h q; exact q.elim
  | succ g ih =>
    intro y5 y6 y7 y8 y9 y10 h q
    refine r_iload eX1_arriving_37 rfl ?_
    refine r_iload eX1_arriving_39 rfl ?_
    refine t_icmp_ge eX1_arriving_41 (t := 194) (by decide) q (fun q => ?_) (fun q => ?_)
    · refine r_iload eX1_arriving_194 rfl ?_
      refine r_iload eX1_arriving_196 rfl ?_
      refine r_iand eX1_arriving_198 ?_
      exact t_rtI eX1_arriving_199 rfl q
    refine r_iload eX1_arriving_44 rfl ?_
    refine t_if_eq eX1_arriving_46 (t := 194) (by decide) q (fun q => ?_) (fun q => ?_)
    · refine r_iload eX1_arriving_194 rfl ?_
      refine r_iload eX1_arriving_196 rfl ?_
      refine r_iand eX1_arriving_198 ?_
      exact t_rtI eX1_arriving_199 rfl q
    refine r_iload_n eX1_arriving_49 rfl ?_
    refine r_sipush (v := (240)) eX1_arriving_50 (by decide) ?_
    refine r_imul eX1_arriving_53 ?_
    refine r_aload_n eX1_arriving_54 rfl ?_
    refine t_gfR eX1_arriving_55 f_1_35 q (fun v55 q => ?_)
    refine r_iload eX1_arriving_58 rfl ?_
    refine t_gaI eX1_arriving_60 q (fun v60 q => ?_)
    refine r_iadd eX1_arriving_61 ?_
    replace q := OK_lt q
    refine r_istore (lv' := [_, _, _, _, _, _, _, _, _, _, _]) eX1_arriving_62 (Nat.le_of_ble_eq_true rfl) rfl ?_
    refine r_aload_n eX1_arriving_64 rfl ?_
    refine t_gfR eX1_arriving_65 f_1_38 q (fun v65 q => ?_)
    refine r_iconst (v := (0)) eX1_arriving_68 (by decide) ?_
    refine r_aload_n eX1_arriving_69 rfl ?_
    refine t_gfR eX1_arriving_70 f_1_35 q (fun v70 q => ?_)
    refine r_iload eX1_arriving_73 rfl ?_
    refine t_gaI eX1_arriving_75 q (fun v75 q => ?_)
    refine t_paI eX1_arriving_76 q (fun h76 q => ?_)
    refine r_iload eX1_arriving_77 rfl ?_
    refine r_aload_n eX1_arriving_79 rfl ?_
    refine t_gfR eX1_arriving_80 f_1_21 q (fun v80 q => ?_)
    refine r_iload eX1_arriving_83 rfl ?_
    refine t_gaI eX1_arriving_85 q (fun v85 q => ?_)
    refine r_iconst (v := (-1)) eX1_arriving_86 (by decide) ?_
    refine r_ixor eX1_arriving_87 ?_
    refine r_iand eX1_arriving_88 ?_
    replace q := OK_lt q
    refine r_istore (lv' := [_, _, _, _, _, _, _, _, _, _, _]) eX1_arriving_89 (Nat.le_of_ble_eq_true rfl) rfl ?_
    refine r_iload eX1_arriving_91 rfl ?_
    refine t_statI (As := [_]) (rest := []) (d' := d + 5 + 0) eX1_arriving_93 k_1_121 rfl (by omega) (Nat.le_of_ble_eq_true rfl) (Nat.le_of_ble_eq_true rfl) (fun _ q => s_J6_bitCount_0f7a4 q) q (fun v93 h93 q => ?_)
    refine r_istore (lv' := [_, _, _, _, _, _, _, _, _, _, _]) eX1_arriving_96 (Nat.le_of_ble_eq_true rfl) rfl ?_
    refine sL_X1_arriving_98 (fun w3 w4 h5 q => ?_) _ _ _ _ q
    refine r_iload eX1_arriving_162 rfl ?_
    refine r_aload_n eX1_arriving_164 rfl ?_
    refine t_gfR eX1_arriving_165 f_1_27 q (fun v165 q => ?_)
    refine r_iload eX1_arriving_168 rfl ?_
    refine t_gaI eX1_arriving_170 q (fun v170 q => ?_)
    refine r_iconst (v := (-1)) eX1_arriving_171 (by decide) ?_
    refine r_ixor eX1_arriving_172 ?_
    refine r_iand eX1_arriving_173 ?_
    replace q := OK_lt q
    refine r_istore (lv' := [_, _, _, _, _, _, _, _, _, _, _]) eX1_arriving_174 (Nat.le_of_ble_eq_true rfl) rfl ?_
    refine r_iload eX1_arriving_176 rfl ?_
    refine r_aload_n eX1_arriving_178 rfl ?_
    refine t_gfR eX1_arriving_179 f_1_24 q (fun v179 q => ?_)
    refine r_iload eX1_arriving_182 rfl ?_
    refine t_gaI eX1_arriving_184 q (fun v184 q => ?_)
    refine r_ior eX1_arriving_185 ?_
    refine r_istore (lv' := [_, _, _, _, _, _, _, _, _, _, _]) eX1_arriving_186 (Nat.le_of_ble_eq_true rfl) rfl ?_
    refine r_iinc (v := (1)) (lv' := [_, _, _, _, _, _, _, _, _, _, _]) eX1_arriving_188 rfl (by decide) rfl ?_
    refine r_goto (t := 37) eX1_arriving_191 (by decide) ?_
    exact ih _ _ _ _ _ _ _ q
theorem s_X1_arriving {E : Ev} {d : Nat} {a0 : Nat} {x1 : Int32} {x2 : Int32} {x3 : Int32} {h : Hp} {Φ : Ou → Hp → Prop} (q : OK (F_X1_arriving E a0 x1 x2 x3 h) Φ) : CE E mX1_arriving (d + 6) [.ref a0, .int x1, .int x2, .int x3] h 0 0 Φ := by
  show WE E mX1_arriving (d + 6) 0 [some (.ref a0), some (.int x1), some (.int x2), some (.int x3), none, none, none, none, none, none, none] [] h 0 0 Φ
  refine r_aload_n eX1_arriving_0 rfl ?_
  refine t_gfR eX1_arriving_1 f_1_41 q (fun v1 q => ?_)
  refine r_iload_n eX1_arriving_4 rfl ?_
  refine t_virtV (As := [_]) (rest := []) (d' := d + 5 + 0) (ci := 9) eX1_arriving_5 k_1_106 rfl rfl rfl (by omega) (Nat.le_of_ble_eq_true rfl) (Nat.le_of_ble_eq_true rfl) (fun _ q => s_X9_become q) q (fun h5 q => ?_)
  refine r_aload_n eX1_arriving_8 rfl ?_
  refine t_gfR eX1_arriving_9 f_1_17 q (fun v9 q => ?_)
  refine r_iload_n eX1_arriving_12 rfl ?_
  refine r_bipush (v := (8)) eX1_arriving_13 (by decide) ?_
  refine r_imul eX1_arriving_15 ?_
  refine r_iload_n eX1_arriving_16 rfl ?_
  refine r_iadd eX1_arriving_17 ?_
  refine t_gaR eX1_arriving_18 (by decide) q (fun v18 q => ?_)
  refine r_aload_n eX1_arriving_19 rfl ?_
  refine t_gfR eX1_arriving_20 f_1_35 q (fun v20 q => ?_)
  refine t_virtI (As := [_]) (rest := []) (d' := d + 3 + 2) (ci := 6) eX1_arriving_23 k_1_103 rfl rfl rfl (by omega) (Nat.le_of_ble_eq_true rfl) (Nat.le_of_ble_eq_true rfl) (fun _ q => s_X6_list q) q (fun v23 h23 q => ?_)
  refine r_istore (lv' := [_, _, _, _, _, _, _, _, _, _, _]) eX1_arriving_26 (Nat.le_of_ble_eq_true rfl) rfl ?_
  refine r_iload_n eX1_arriving_28 rfl ?_
  refine r_istore (lv' := [_, _, _, _, _, _, _, _, _, _, _]) eX1_arriving_29 (Nat.le_of_ble_eq_true rfl) rfl ?_
  refine r_iconst (v := (0)) eX1_arriving_31 (by decide) ?_
  refine r_istore (lv' := [_, _, _, _, _, _, _, _, _, _, _]) eX1_arriving_32 (Nat.le_of_ble_eq_true rfl) rfl ?_
  refine r_iconst (v := (0)) eX1_arriving_34 (by decide) ?_
  refine r_istore (lv' := [_, _, _, _, _, _, _, _, _, _, _]) eX1_arriving_35 (Nat.le_of_ble_eq_true rfl) rfl ?_
  exact sL_X1_arriving_37  _ _ _ _ _ _ _ _ q
theorem sL_X1_search_29 {E : Ev} {d kc ks : Nat} {Φ : Ou → Hp → Prop} {y0 : Nat} {y1 : Int32} {y2 : Int32} {K68 : Int32 → Hp → Rs} {n : Nat} {Rc : Nat → Int32 → Int32 → Hp → Rs} (hR : ∀ {a0 : Nat} {x1 : Int32} {x2 : Int32} {h : Hp} {Ψ : Ou → Hp → Prop}, OK (Rc a0 x1 x2 h) Ψ → CE E mX1_search (d + n + 6) [.ref a0, .int x1, .int x2] h 0 0 Ψ) (hK68 : ∀ (w3 : Int32) (w4 : Int32) (h : Hp), OK (K68 w3 h) Φ → WE E mX1_search (d + (n + 1) + 6) 68 [some (.ref y0), some (.int y1), some (.int y2), some (.int w3), some (.int w4)] [] h kc ks Φ) : ∀ (g : Nat) (y3 : Int32) (y4 : Int32) (h : Hp), OK (L_X1_search_29 E Rc K68 y0 y1 g y3 y4 h) Φ → WE E mX1_search (d + (n + 1) + 6) 29 [some (.ref y0), some (.int y1), some (.int y2), some (.int y3), some (.int y4)] [] h kc ks Φ := by
  intro g
  induction g with
  | zero => intro y3 y4 h q; exact q.elim
  | succ g ih =>
    intro y3 y4 h q
    refine r_iload eX1_search_29 rfl ?_
    refine r_bipush (v := (8)) eX1_search_31 (by decide) ?_
    refine t_icmp_ge eX1_search_33 (t := 68) (by decide) q (fun q => ?_) (fun q => ?_)
    · exact hK68 _ _ _ q
    refine r_iload_n eX1_search_36 rfl ?_
    refine t_if_eq eX1_search_37 (t := 68) (by decide) q (fun q => ?_) (fun q => ?_)
    · exact hK68 _ _ _ q
    refine r_aload_n eX1_search_40 rfl ?_
    refine t_gfI eX1_search_41 f_1_45 q (fun v41 q => ?_)
    refine r_i2l eX1_search_44 ?_
    refine r_iload eX1_search_45 rfl ?_
    refine t_statI (As := [_, _]) (rest := []) (d' := d + n + 6 + 0) eX1_search_47 k_1_53 rfl (by omega) (Nat.le_of_ble_eq_true rfl) (Nat.le_of_ble_eq_true rfl) (fun _ q => s_X11_isIn q) q (fun v47 h47 q => ?_)
    refine t_if_eq eX1_search_50 (t := 62) (by decide) q (fun q => ?_) (fun q => ?_)
    · refine r_iinc (v := (1)) (lv' := [_, _, _, _, _]) eX1_search_62 rfl (by decide) rfl ?_
      refine r_goto (t := 29) eX1_search_65 (by decide) ?_
      exact ih _ _ _ q
    refine r_aload_n eX1_search_53 rfl ?_
    refine r_iload_n eX1_search_54 rfl ?_
    refine r_iload eX1_search_55 rfl ?_
    refine r_iload_n eX1_search_57 rfl ?_
    refine t_virtI (As := [_, _, _]) (rest := []) (d' := d + n + 0 + 6) (ci := 1) eX1_search_58 k_1_88 rfl rfl rfl (by omega) (Nat.le_of_ble_eq_true rfl) (Nat.le_of_ble_eq_true rfl) (fun _ q => s_X1_arriving q) q (fun v58 h58 q => ?_)
    refine r_istore_n (lv' := [_, _, _, _, _]) eX1_search_61 (Nat.le_of_ble_eq_true rfl) rfl ?_
    refine r_iinc (v := (1)) (lv' := [_, _, _, _, _]) eX1_search_62 rfl (by decide) rfl ?_
    refine r_goto (t := 29) eX1_search_65 (by decide) ?_
    exact ih _ _ _ q
theorem sJ_X1_search_86 {E : Ev} {d kc ks : Nat} {Φ : Ou → Hp → Prop} {y0 : Nat} {y1 : Int32} {y2 : Int32} {y3 : Int32} {y4 : Int32} {t0 : Nat} {t1 : Int32} {t2 : Int32} {h : Hp} {n : Nat} {Rc : Nat → Int32 → Int32 → Hp → Rs} (hR : ∀ {a0 : Nat} {x1 : Int32} {x2 : Int32} {h : Hp} {Ψ : Ou → Hp → Prop}, OK (Rc a0 x1 x2 h) Ψ → CE E mX1_search (d + n + 6) [.ref a0, .int x1, .int x2] h 0 0 Ψ) (q : OK (J_X1_search_86 E Rc y3 t0 t1 t2 h) Φ) : WE E mX1_search (d + (n + 1) + 6) 86 [some (.ref y0), some (.int y1), some (.int y2), some (.int y3), some (.int y4)] [.int t2, .int t1, .ref t0] h kc ks Φ := by
  refine t_paI eX1_search_86 q (fun h86 q => ?_)
  refine r_iload_n eX1_search_87 rfl ?_
  refine t_if_eq eX1_search_88 (t := 95) (by decide) q (fun q => ?_) (fun q => ?_)
  · refine r_iconst (v := (0)) eX1_search_95 (by decide) ?_
    exact t_rtZ eX1_search_96 rfl q
  refine r_iconst (v := (1)) eX1_search_91 (by decide) ?_
  refine r_goto (t := 96) eX1_search_92 (by decide) ?_
  exact t_rtZ eX1_search_96 rfl q
theorem sJ_X1_search_68 {E : Ev} {d kc ks : Nat} {Φ : Ou → Hp → Prop} {y0 : Nat} {y1 : Int32} {y2 : Int32} {y3 : Int32} {y4 : Int32} {h : Hp} {n : Nat} {Rc : Nat → Int32 → Int32 → Hp → Rs} (hR : ∀ {a0 : Nat} {x1 : Int32} {x2 : Int32} {h : Hp} {Ψ : Ou → Hp → Prop}, OK (Rc a0 x1 x2 h) Ψ → CE E mX1_search (d + n + 6) [.ref a0, .int x1, .int x2] h 0 0 Ψ) (q : OK (J_X1_search_68 E Rc y0 y1 y3 h) Φ) : WE E mX1_search (d + (n + 1) + 6) 68 [some (.ref y0), some (.int y1), some (.int y2), some (.int y3), some (.int y4)] [] h kc ks Φ := by
  refine r_aload_n eX1_search_68 rfl ?_
  refine t_gfR eX1_search_69 f_1_9 q (fun v69 q => ?_)
  refine r_iload_n eX1_search_72 rfl ?_
  refine r_iload_n eX1_search_73 rfl ?_
  refine t_if_ne eX1_search_74 (t := 81) (by decide) q (fun q => ?_) (fun q => ?_)
  · refine r_iload_n eX1_search_81 rfl ?_
    refine r_i2l eX1_search_82 ?_
    refine t_statI (As := [_]) (rest := [_, _]) (d' := d + n + 5 + 1) eX1_search_83 k_1_92 rfl (by omega) (Nat.le_of_ble_eq_true rfl) (Nat.le_of_ble_eq_true rfl) (fun _ q => s_X11_lowest q) q (fun v83 h83 q => ?_)
    exact sJ_X1_search_86 hR  q
  refine r_iconst (v := (-1)) eX1_search_77 (by decide) ?_
  refine r_goto (t := 86) eX1_search_78 (by decide) ?_
  exact sJ_X1_search_86 hR  q
theorem sL_X1_search_100 {E : Ev} {d kc ks : Nat} {Φ : Ou → Hp → Prop} {y0 : Nat} {y1 : Int32} {y2 : Int32} {y3 : Int32} {n : Nat} {Rc : Nat → Int32 → Int32 → Hp → Rs} (hR : ∀ {a0 : Nat} {x1 : Int32} {x2 : Int32} {h : Hp} {Ψ : Ou → Hp → Prop}, OK (Rc a0 x1 x2 h) Ψ → CE E mX1_search (d + n + 6) [.ref a0, .int x1, .int x2] h 0 0 Ψ) : ∀ (g : Nat) (y4 : Int32) (h : Hp), OK (L_X1_search_100 E Rc y0 y1 y2 g y4 h) Φ → WE E mX1_search (d + (n + 1) + 6) 100 [some (.ref y0), some (.int y1), some (.int y2), some (.int y3), some (.int y4)] [] h kc ks Φ := by
  intro g
  induction g with
  | zero => intro y4 h q; exact q.elim
  | succ g ih =>
    intro y4 h q
    refine r_iload eX1_search_100 rfl ?_
    refine r_bipush (v := (31)) eX1_search_102 (by decide) ?_
    refine t_icmp_ge eX1_search_104 (t := 146) (by decide) q (fun q => ?_) (fun q => ?_)
    · refine r_iconst (v := (0)) eX1_search_146 (by decide) ?_
      exact t_rtZ eX1_search_147 rfl q
    refine r_aload_n eX1_search_107 rfl ?_
    refine t_gfR eX1_search_108 f_1_9 q (fun v108 q => ?_)
    refine r_iload_n eX1_search_111 rfl ?_
    refine r_iload eX1_search_112 rfl ?_
    refine t_paI eX1_search_114 q (fun h114 q => ?_)
    refine r_aload_n eX1_search_115 rfl ?_
    refine r_iload eX1_search_116 rfl ?_
    refine r_iload_n eX1_search_118 rfl ?_
    refine t_virtI (As := [_, _]) (rest := []) (d' := d + n + 0 + 6) (ci := 1) eX1_search_119 k_1_96 rfl rfl rfl (by omega) (Nat.le_of_ble_eq_true rfl) (Nat.le_of_ble_eq_true rfl) (fun _ q => s_X1_allGoOn q) q (fun v119 h119 q => ?_)
    refine t_if_eq eX1_search_122 (t := 140) (by decide) q (fun q => ?_) (fun q => ?_)
    · refine r_iinc (v := (1)) (lv' := [_, _, _, _, _]) eX1_search_140 rfl (by decide) rfl ?_
      refine r_goto (t := 100) eX1_search_143 (by decide) ?_
      exact ih _ _ q
    refine r_aload_n eX1_search_125 rfl ?_
    refine r_iload_n eX1_search_126 rfl ?_
    refine r_iconst (v := (1)) eX1_search_127 (by decide) ?_
    refine r_iadd eX1_search_128 ?_
    refine r_iload_n eX1_search_129 rfl ?_
    refine r_iconst (v := (1)) eX1_search_130 (by decide) ?_
    refine r_isub eX1_search_131 ?_
    refine t_virtI (As := [_, _]) (rest := []) (d' := d + n + 6) (ci := 1) eX1_search_132 k_1_100 rfl rfl rfl (by omega) (Nat.le_of_ble_eq_true rfl) (Nat.le_of_ble_eq_true rfl) (fun _ q => hR q) q (fun v132 h132 q => ?_)
    refine t_if_eq eX1_search_135 (t := 140) (by decide) q (fun q => ?_) (fun q => ?_)
    · refine r_iinc (v := (1)) (lv' := [_, _, _, _, _]) eX1_search_140 rfl (by decide) rfl ?_
      refine r_goto (t := 100) eX1_search_143 (by decide) ?_
      exact ih _ _ q
    refine r_iconst (v := (1)) eX1_search_138 (by decide) ?_
    exact t_rtZ eX1_search_139 rfl q
theorem s_X1_search {E : Ev} {d : Nat} : ∀ (n : Nat) {a0 : Nat} {x1 : Int32} {x2 : Int32} {h : Hp} {Φ : Ou → Hp → Prop}, OK (F_X1_search E n a0 x1 x2 h) Φ → CE E mX1_search (d + n + 6) [.ref a0, .int x1, .int x2] h 0 0 Φ := by
  intro n
  induction n with
  | zero => intro a0 x1 x2 h Φ q; exact q.elim
  | succ n ih =>
    intro a0 x1 x2 h Φ q
    have hR : ∀ {a0 : Nat} {x1 : Int32} {x2 : Int32} {h : Hp} {Ψ : Ou → Hp → Prop}, OK (F_X1_search E n a0 x1 x2 h) Ψ → CE E mX1_search (d + n + 6) [.ref a0, .int x1, .int x2] h 0 0 Ψ := ih
    show WE E mX1_search (d + (n + 1) + 6) 0 [some (.ref a0), some (.int x1), some (.int x2), none, none] [] h 0 0 Φ
    refine r_iload_n eX1_search_0 rfl ?_
    refine t_if_lt eX1_search_1 (t := 16) (by decide) q (fun q => ?_) (fun q => ?_)
    · refine r_iconst (v := (0)) eX1_search_16 (by decide) ?_
      exact t_rtZ eX1_search_17 rfl q
    refine r_iload_n eX1_search_4 rfl ?_
    refine r_iconst (v := (1)) eX1_search_5 (by decide) ?_
    refine t_icmp_lt eX1_search_6 (t := 16) (by decide) q (fun q => ?_) (fun q => ?_)
    · refine r_iconst (v := (0)) eX1_search_16 (by decide) ?_
      exact t_rtZ eX1_search_17 rfl q
    refine r_iload_n eX1_search_9 rfl ?_
    refine r_iload_n eX1_search_10 rfl ?_
    refine r_iadd eX1_search_11 ?_
    refine r_iconst (v := (3)) eX1_search_12 (by decide) ?_
    refine t_icmp_le eX1_search_13 (t := 18) (by decide) q (fun q => ?_) (fun q => ?_)
    · refine r_ldc eX1_search_18 g_1_87 ?_
      refine r_istore_n (lv' := [_, _, _, _, _]) eX1_search_20 (Nat.le_of_ble_eq_true rfl) rfl ?_
      refine r_iload_n eX1_search_21 rfl ?_
      refine r_iconst (v := (1)) eX1_search_22 (by decide) ?_
      refine t_icmp_ne eX1_search_23 (t := 97) (by decide) q (fun q => ?_) (fun q => ?_)
      · refine r_iconst (v := (0)) eX1_search_97 (by decide) ?_
        refine r_istore (lv' := [_, _, _, _, _]) eX1_search_98 (Nat.le_of_ble_eq_true rfl) rfl ?_
        exact sL_X1_search_100 hR  _ _ _ q
      refine r_iconst (v := (0)) eX1_search_26 (by decide) ?_
      refine r_istore (lv' := [_, _, _, _, _]) eX1_search_27 (Nat.le_of_ble_eq_true rfl) rfl ?_
      refine sL_X1_search_29 hR (fun w1 w2 h3 q => ?_) _ _ _ _ q
      exact sJ_X1_search_68 hR  q
    refine r_iconst (v := (0)) eX1_search_16 (by decide) ?_
    exact t_rtZ eX1_search_17 rfl q
theorem sL_X2_addTongue_13 {E : Ev} {d kc ks : Nat} {Φ : Ou → Hp → Prop} {y0 : Nat} {K42 : Hp → Rs} (hK42 : ∀ (w1 : Int32) (h : Hp), OK (K42 h) Φ → WE E mX2_addTongue (d + 0) 42 [some (.ref y0), some (.int w1)] [] h kc ks Φ) : ∀ (g : Nat) (y1 : Int32) (h : Hp), OK (L_X2_addTongue_13 E K42 y0 g y1 h) Φ → WE E mX2_addTongue (d + 0) 13 [some (.ref y0), some (.int y1)] [] h kc ks Φ := by
  intro g
  induction g with
  | zero => intro y1 h q; exact q.elim
  | succ g ih =>
    intro y1 h q
    refine r_iload_n eX2_addTongue_13 rfl ?_
    refine r_bipush (v := (12)) eX2_addTongue_14 (by decide) ?_
    refine t_icmp_ge eX2_addTongue_16 (t := 42) (by decide) q (fun q => ?_) (fun q => ?_)
    · exact hK42 _ _ q
    refine r_aload_n eX2_addTongue_19 rfl ?_
    refine t_gfR eX2_addTongue_20 f_2_9 q (fun v20 q => ?_)
    refine r_aload_n eX2_addTongue_23 rfl ?_
    refine t_gfI eX2_addTongue_24 f_2_31 q (fun v24 q => ?_)
    refine r_bipush (v := (12)) eX2_addTongue_27 (by decide) ?_
    refine r_imul eX2_addTongue_29 ?_
    refine r_iload_n eX2_addTongue_30 rfl ?_
    refine r_iadd eX2_addTongue_31 ?_
    refine r_iconst (v := (1)) eX2_addTongue_32 (by decide) ?_
    refine r_iload_n eX2_addTongue_33 rfl ?_
    refine r_ishl eX2_addTongue_34 ?_
    refine t_paI eX2_addTongue_35 q (fun h35 q => ?_)
    refine r_iinc (v := (1)) (lv' := [_, _]) eX2_addTongue_36 rfl (by decide) rfl ?_
    refine r_goto (t := 13) eX2_addTongue_39 (by decide) ?_
    exact ih _ _ q
theorem s_X2_addTongue {E : Ev} {d : Nat} {a0 : Nat} {h : Hp} {Φ : Ou → Hp → Prop} (q : OK (F_X2_addTongue E a0 h) Φ) : CE E mX2_addTongue (d + 0) [.ref a0] h 0 0 Φ := by
  show WE E mX2_addTongue (d + 0) 0 [some (.ref a0), none] [] h 0 0 Φ
  refine r_aload_n eX2_addTongue_0 rfl ?_
  refine t_gfI eX2_addTongue_1 f_2_31 q (fun v1 q => ?_)
  refine r_bipush (v := (6)) eX2_addTongue_4 (by decide) ?_
  refine t_icmp_lt eX2_addTongue_6 (t := 11) (by decide) q (fun q => ?_) (fun q => ?_)
  · refine r_iconst (v := (0)) eX2_addTongue_11 (by decide) ?_
    refine r_istore_n (lv' := [_, _]) eX2_addTongue_12 (Nat.le_of_ble_eq_true rfl) rfl ?_
    refine sL_X2_addTongue_13 (fun w1 h2 q => ?_) _ _ _ q
    refine r_aload_n eX2_addTongue_42 rfl ?_
    refine r_dup eX2_addTongue_43 rfl ?_
    refine t_gfI eX2_addTongue_44 f_2_31 q (fun v44 q => ?_)
    refine r_dup_x1 eX2_addTongue_47 rfl rfl ?_
    refine r_iconst (v := (1)) eX2_addTongue_48 (by decide) ?_
    refine r_iadd eX2_addTongue_49 ?_
    refine t_pf eX2_addTongue_50 p_2_31 rfl rfl (fun q => by cases q) q (fun h50 q => ?_)
    exact t_rtI eX2_addTongue_53 rfl q
  refine r_iconst (v := (-1)) eX2_addTongue_9 (by decide) ?_
  exact t_rtI eX2_addTongue_10 rfl q
theorem s_X2_addWalker {E : Ev} {d : Nat} {a0 : Nat} {x1 : Int32} {x2 : Int32} {x3 : Int32} {x4 : Int32} {x5 : Int32} {h : Hp} {Φ : Ou → Hp → Prop} (q : OK (F_X2_addWalker E a0 x1 x2 x3 x4 x5 h) Φ) : CE E mX2_addWalker (d + 0) [.ref a0, .int x1, .int x2, .int x3, .int x4, .int x5] h 0 0 Φ := by
  show WE E mX2_addWalker (d + 0) 0 [some (.ref a0), some (.int x1), some (.int x2), some (.int x3), some (.int x4), some (.int x5)] [] h 0 0 Φ
  refine r_aload_n eX2_addWalker_0 rfl ?_
  refine t_gfI eX2_addWalker_1 f_2_35 q (fun v1 q => ?_)
  refine r_bipush (v := (8)) eX2_addWalker_4 (by decide) ?_
  refine t_icmp_lt eX2_addWalker_6 (t := 11) (by decide) q (fun q => ?_) (fun q => ?_)
  · refine r_aload_n eX2_addWalker_11 rfl ?_
    refine t_gfR eX2_addWalker_12 f_2_15 q (fun v12 q => ?_)
    refine r_aload_n eX2_addWalker_15 rfl ?_
    refine t_gfI eX2_addWalker_16 f_2_35 q (fun v16 q => ?_)
    refine r_iload_n eX2_addWalker_19 rfl ?_
    refine t_paI eX2_addWalker_20 q (fun h20 q => ?_)
    refine r_aload_n eX2_addWalker_21 rfl ?_
    refine t_gfR eX2_addWalker_22 f_2_18 q (fun v22 q => ?_)
    refine r_aload_n eX2_addWalker_25 rfl ?_
    refine t_gfI eX2_addWalker_26 f_2_35 q (fun v26 q => ?_)
    refine r_iload_n eX2_addWalker_29 rfl ?_
    refine t_paI eX2_addWalker_30 q (fun h30 q => ?_)
    refine r_aload_n eX2_addWalker_31 rfl ?_
    refine t_gfR eX2_addWalker_32 f_2_21 q (fun v32 q => ?_)
    refine r_aload_n eX2_addWalker_35 rfl ?_
    refine t_gfI eX2_addWalker_36 f_2_35 q (fun v36 q => ?_)
    refine r_iload_n eX2_addWalker_39 rfl ?_
    refine t_paZ eX2_addWalker_40 q (fun h40 q => ?_)
    refine r_aload_n eX2_addWalker_41 rfl ?_
    refine t_gfR eX2_addWalker_42 f_2_25 q (fun v42 q => ?_)
    refine r_aload_n eX2_addWalker_45 rfl ?_
    refine t_gfI eX2_addWalker_46 f_2_35 q (fun v46 q => ?_)
    refine r_iload eX2_addWalker_49 rfl ?_
    refine t_paZ eX2_addWalker_51 q (fun h51 q => ?_)
    refine r_aload_n eX2_addWalker_52 rfl ?_
    refine t_gfR eX2_addWalker_53 f_2_28 q (fun v53 q => ?_)
    refine r_aload_n eX2_addWalker_56 rfl ?_
    refine t_gfI eX2_addWalker_57 f_2_35 q (fun v57 q => ?_)
    refine r_iload eX2_addWalker_60 rfl ?_
    refine t_paI eX2_addWalker_62 q (fun h62 q => ?_)
    refine r_aload_n eX2_addWalker_63 rfl ?_
    refine r_dup eX2_addWalker_64 rfl ?_
    refine t_gfI eX2_addWalker_65 f_2_35 q (fun v65 q => ?_)
    refine r_dup_x1 eX2_addWalker_68 rfl rfl ?_
    refine r_iconst (v := (1)) eX2_addWalker_69 (by decide) ?_
    refine r_iadd eX2_addWalker_70 ?_
    refine t_pf eX2_addWalker_71 p_2_35 rfl rfl (fun q => by cases q) q (fun h71 q => ?_)
    exact t_rtI eX2_addWalker_74 rfl q
  refine r_iconst (v := (-1)) eX2_addWalker_9 (by decide) ?_
  exact t_rtI eX2_addWalker_10 rfl q
theorem s_X2_kindsOf {E : Ev} {d : Nat} {a0 : Nat} {x1 : Int32} {x2 : Int32} {h : Hp} {Φ : Ou → Hp → Prop} (q : OK (F_X2_kindsOf E a0 x1 x2 h) Φ) : CE E mX2_kindsOf (d + 0) [.ref a0, .int x1, .int x2] h 0 0 Φ := by
  show WE E mX2_kindsOf (d + 0) 0 [some (.ref a0), some (.int x1), some (.int x2)] [] h 0 0 Φ
  refine r_aload_n eX2_kindsOf_0 rfl ?_
  refine t_gfR eX2_kindsOf_1 f_2_9 q (fun v1 q => ?_)
  refine r_aload_n eX2_kindsOf_4 rfl ?_
  refine t_gfR eX2_kindsOf_5 f_2_15 q (fun v5 q => ?_)
  refine r_iload_n eX2_kindsOf_8 rfl ?_
  refine t_gaI eX2_kindsOf_9 q (fun v9 q => ?_)
  refine r_bipush (v := (12)) eX2_kindsOf_10 (by decide) ?_
  refine r_imul eX2_kindsOf_12 ?_
  refine r_iload_n eX2_kindsOf_13 rfl ?_
  refine r_iadd eX2_kindsOf_14 ?_
  refine t_gaI eX2_kindsOf_15 q (fun v15 q => ?_)
  refine r_aload_n eX2_kindsOf_16 rfl ?_
  refine t_gfR eX2_kindsOf_17 f_2_18 q (fun v17 q => ?_)
  refine r_iload_n eX2_kindsOf_20 rfl ?_
  refine t_gaI eX2_kindsOf_21 q (fun v21 q => ?_)
  refine r_iand eX2_kindsOf_22 ?_
  exact t_rtI eX2_kindsOf_23 rfl q
theorem sL_X2_howManyKnow_20 {E : Ev} {d kc ks : Nat} {Φ : Ou → Hp → Prop} {y0 : Nat} {y1 : Int32} {y2 : Int32} {y3 : Int32} {y4 : Int32} {K46 : Int32 → Hp → Rs} (hK46 : ∀ (w5 : Int32) (w6 : Int32) (h : Hp), OK (K46 w5 h) Φ → WE E mX2_howManyKnow (d + 1) 46 [some (.ref y0), some (.int y1), some (.int y2), some (.int y3), some (.int y4), some (.int w5), some (.int w6)] [] h kc ks Φ) : ∀ (g : Nat) (y5 : Int32) (y6 : Int32) (h : Hp), OK (L_X2_howManyKnow_20 E K46 y0 y4 g y5 y6 h) Φ → WE E mX2_howManyKnow (d + 1) 20 [some (.ref y0), some (.int y1), some (.int y2), some (.int y3), some (.int y4), some (.int y5), some (.int y6)] [] h kc ks Φ := by
  intro g
  induction g with
  | zero => intro y5 y6 h q; exact q.elim
  | succ g ih =>
    intro y5 y6 h q
    refine r_iload eX2_howManyKnow_20 rfl ?_
    refine r_bipush (v := (12)) eX2_howManyKnow_22 (by decide) ?_
    refine t_icmp_ge eX2_howManyKnow_24 (t := 46) (by decide) q (fun q => ?_) (fun q => ?_)
    · exact hK46 _ _ _ q
    refine r_iload eX2_howManyKnow_27 rfl ?_
    refine r_aload_n eX2_howManyKnow_29 rfl ?_
    refine r_iload eX2_howManyKnow_30 rfl ?_
    refine r_iload eX2_howManyKnow_32 rfl ?_
    refine t_virtI (As := [_, _]) (rest := [_]) (d' := d + 0 + 0) (ci := 2) eX2_howManyKnow_34 k_2_38 rfl rfl rfl (by omega) (Nat.le_of_ble_eq_true rfl) (Nat.le_of_ble_eq_true rfl) (fun _ q => s_X2_kindsOf q) q (fun v34 h34 q => ?_)
    refine r_ior eX2_howManyKnow_37 ?_
    refine r_istore (lv' := [_, _, _, _, _, _, _]) eX2_howManyKnow_38 (Nat.le_of_ble_eq_true rfl) rfl ?_
    refine r_iinc (v := (1)) (lv' := [_, _, _, _, _, _, _]) eX2_howManyKnow_40 rfl (by decide) rfl ?_
    refine r_goto (t := 20) eX2_howManyKnow_43 (by decide) ?_
    exact ih _ _ _ q
theorem sL_X2_howManyKnow_5 {E : Ev} {d kc ks : Nat} {Φ : Ou → Hp → Prop} {y0 : Nat} {y1 : Int32} {y2 : Int32}  : ∀ (g : Nat) (y3 : Int32) (y4 : Int32) (y5 : Option Value) (y6 : Option Value) (h : Hp), OK (L_X2_howManyKnow_5 E y0 y1 y2 g y3 y4 h) Φ → WE E mX2_howManyKnow (d + 1) 5 [some (.ref y0), some (.int y1), some (.int y2), some (.int y3), some (.int y4), y5, y6] [] h kc ks Φ := by
  intro g
  induction g with
  | zero => intro y3 y4 y5 y6 h q; exact q.elim
  | succ g ih =>
    intro y3 y4 y5 y6 h q
    refine r_iload eX2_howManyKnow_5 rfl ?_
    refine r_aload_n eX2_howManyKnow_7 rfl ?_
    refine t_gfI eX2_howManyKnow_8 f_2_35 q (fun v8 q => ?_)
    refine t_icmp_ge eX2_howManyKnow_11 (t := 75) (by decide) q (fun q => ?_) (fun q => ?_)
    · refine r_iload_n eX2_howManyKnow_75 rfl ?_
      exact t_rtI eX2_howManyKnow_76 rfl q
    refine r_iconst (v := (0)) eX2_howManyKnow_14 (by decide) ?_
    refine r_istore (lv' := [_, _, _, _, _, _, _]) eX2_howManyKnow_15 (Nat.le_of_ble_eq_true rfl) rfl ?_
    refine r_iconst (v := (0)) eX2_howManyKnow_17 (by decide) ?_
    refine r_istore (lv' := [_, _, _, _, _, _, _]) eX2_howManyKnow_18 (Nat.le_of_ble_eq_true rfl) rfl ?_
    refine sL_X2_howManyKnow_20 (fun w1 w2 h3 q => ?_) _ _ _ _ q
    refine r_iload_n eX2_howManyKnow_46 rfl ?_
    refine r_i2l eX2_howManyKnow_47 ?_
    refine r_iload eX2_howManyKnow_48 rfl ?_
    refine t_statI (As := [_, _]) (rest := []) (d' := d + 0 + 0) eX2_howManyKnow_50 k_2_42 rfl (by omega) (Nat.le_of_ble_eq_true rfl) (Nat.le_of_ble_eq_true rfl) (fun _ q => s_X11_isIn q) q (fun v50 h50 q => ?_)
    refine t_if_eq eX2_howManyKnow_53 (t := 69) (by decide) q (fun q => ?_) (fun q => ?_)
    · refine r_iinc (v := (1)) (lv' := [_, _, _, _, _, _, _]) eX2_howManyKnow_69 rfl (by decide) rfl ?_
      refine r_goto (t := 5) eX2_howManyKnow_72 (by decide) ?_
      exact ih _ _ _ _ _ q
    refine r_iload eX2_howManyKnow_56 rfl ?_
    refine r_i2l eX2_howManyKnow_58 ?_
    refine r_iload_n eX2_howManyKnow_59 rfl ?_
    refine t_statI (As := [_, _]) (rest := []) (d' := d + 0 + 0) eX2_howManyKnow_60 k_2_42 rfl (by omega) (Nat.le_of_ble_eq_true rfl) (Nat.le_of_ble_eq_true rfl) (fun _ q => s_X11_isIn q) q (fun v60 h60 q => ?_)
    refine t_if_eq eX2_howManyKnow_63 (t := 69) (by decide) q (fun q => ?_) (fun q => ?_)
    · refine r_iinc (v := (1)) (lv' := [_, _, _, _, _, _, _]) eX2_howManyKnow_69 rfl (by decide) rfl ?_
      refine r_goto (t := 5) eX2_howManyKnow_72 (by decide) ?_
      exact ih _ _ _ _ _ q
    refine r_iinc (v := (1)) (lv' := [_, _, _, _, _, _, _]) eX2_howManyKnow_66 rfl (by decide) rfl ?_
    refine r_iinc (v := (1)) (lv' := [_, _, _, _, _, _, _]) eX2_howManyKnow_69 rfl (by decide) rfl ?_
    refine r_goto (t := 5) eX2_howManyKnow_72 (by decide) ?_
    exact ih _ _ _ _ _ q
theorem s_X2_howManyKnow {E : Ev} {d : Nat} {a0 : Nat} {x1 : Int32} {x2 : Int32} {h : Hp} {Φ : Ou → Hp → Prop} (q : OK (F_X2_howManyKnow E a0 x1 x2 h) Φ) : CE E mX2_howManyKnow (d + 1) [.ref a0, .int x1, .int x2] h 0 0 Φ := by
  show WE E mX2_howManyKnow (d + 1) 0 [some (.ref a0), some (.int x1), some (.int x2), none, none, none, none] [] h 0 0 Φ
  refine r_iconst (v := (0)) eX2_howManyKnow_0 (by decide) ?_
  refine r_istore_n (lv' := [_, _, _, _, _, _, _]) eX2_howManyKnow_1 (Nat.le_of_ble_eq_true rfl) rfl ?_
  refine r_iconst (v := (0)) eX2_howManyKnow_2 (by decide) ?_
  refine r_istore (lv' := [_, _, _, _, _, _, _]) eX2_howManyKnow_3 (Nat.le_of_ble_eq_true rfl) rfl ?_
  exact sL_X2_howManyKnow_5  _ _ _ _ _ _ q
theorem sL_X2_take_78 {E : Ev} {d kc ks : Nat} {Φ : Ou → Hp → Prop} {y0 : Nat} {y1 : Nat}  : ∀ (g : Nat) (y2 : Int32) (h : Hp), OK (L_X2_take_78 E y0 y1 g y2 h) Φ → WE E mX2_take (d + 0) 78 [some (.ref y0), some (.ref y1), some (.int y2)] [] h kc ks Φ := by
  intro g
  induction g with
  | zero => intro y2 h q; exact q.elim
  | succ g ih =>
    intro y2 h q
    refine r_iload_n eX2_take_78 rfl ?_
    refine r_bipush (v := (8)) eX2_take_79 (by decide) ?_
    refine t_icmp_ge eX2_take_81 (t := 114) (by decide) q (fun q => ?_) (fun q => ?_)
    · exact t_rtV eX2_take_114 rfl q
    refine r_aload_n eX2_take_84 rfl ?_
    refine t_gfR eX2_take_85 f_2_21 q (fun v85 q => ?_)
    refine r_iload_n eX2_take_88 rfl ?_
    refine r_aload_n eX2_take_89 rfl ?_
    refine t_gfR eX2_take_90 f_2_21 q (fun v90 q => ?_)
    refine r_iload_n eX2_take_93 rfl ?_
    refine t_gaZ eX2_take_94 q (fun v94 q => ?_)
    refine t_paZ eX2_take_95 q (fun h95 q => ?_)
    refine r_aload_n eX2_take_96 rfl ?_
    refine t_gfR eX2_take_97 f_2_25 q (fun v97 q => ?_)
    refine r_iload_n eX2_take_100 rfl ?_
    refine r_aload_n eX2_take_101 rfl ?_
    refine t_gfR eX2_take_102 f_2_25 q (fun v102 q => ?_)
    refine r_iload_n eX2_take_105 rfl ?_
    refine t_gaZ eX2_take_106 q (fun v106 q => ?_)
    refine t_paZ eX2_take_107 q (fun h107 q => ?_)
    refine r_iinc (v := (1)) (lv' := [_, _, _]) eX2_take_108 rfl (by decide) rfl ?_
    refine r_goto (t := 78) eX2_take_111 (by decide) ?_
    exact ih _ _ q
theorem s_X2_take {E : Ev} {d : Nat} {a0 : Nat} {a1 : Nat} {h : Hp} {Φ : Ou → Hp → Prop} (q : OK (F_X2_take E a0 a1 h) Φ) : CE E mX2_take (d + 0) [.ref a0, .ref a1] h 0 0 Φ := by
  show WE E mX2_take (d + 0) 0 [some (.ref a0), some (.ref a1), none] [] h 0 0 Φ
  refine r_aload_n eX2_take_0 rfl ?_
  refine r_aload_n eX2_take_1 rfl ?_
  refine t_gfI eX2_take_2 f_2_31 q (fun v2 q => ?_)
  refine t_pf eX2_take_5 p_2_31 rfl rfl (fun q => by cases q) q (fun h5 q => ?_)
  refine r_aload_n eX2_take_8 rfl ?_
  refine t_gfR eX2_take_9 f_2_9 q (fun v9 q => ?_)
  refine r_iconst (v := (0)) eX2_take_12 (by decide) ?_
  refine r_aload_n eX2_take_13 rfl ?_
  refine t_gfR eX2_take_14 f_2_9 q (fun v14 q => ?_)
  refine r_iconst (v := (0)) eX2_take_17 (by decide) ?_
  refine r_bipush (v := (72)) eX2_take_18 (by decide) ?_
  refine t_acp (t := 0) eX2_take_20 jl_2_46 (Nat.le_of_ble_eq_true rfl) q (fun h20 q => ?_)
  refine r_aload_n eX2_take_23 rfl ?_
  refine r_aload_n eX2_take_24 rfl ?_
  refine t_gfI eX2_take_25 f_2_35 q (fun v25 q => ?_)
  refine t_pf eX2_take_28 p_2_35 rfl rfl (fun q => by cases q) q (fun h28 q => ?_)
  refine r_aload_n eX2_take_31 rfl ?_
  refine t_gfR eX2_take_32 f_2_15 q (fun v32 q => ?_)
  refine r_iconst (v := (0)) eX2_take_35 (by decide) ?_
  refine r_aload_n eX2_take_36 rfl ?_
  refine t_gfR eX2_take_37 f_2_15 q (fun v37 q => ?_)
  refine r_iconst (v := (0)) eX2_take_40 (by decide) ?_
  refine r_bipush (v := (8)) eX2_take_41 (by decide) ?_
  refine t_acp (t := 0) eX2_take_43 jl_2_46 (Nat.le_of_ble_eq_true rfl) q (fun h43 q => ?_)
  refine r_aload_n eX2_take_46 rfl ?_
  refine t_gfR eX2_take_47 f_2_18 q (fun v47 q => ?_)
  refine r_iconst (v := (0)) eX2_take_50 (by decide) ?_
  refine r_aload_n eX2_take_51 rfl ?_
  refine t_gfR eX2_take_52 f_2_18 q (fun v52 q => ?_)
  refine r_iconst (v := (0)) eX2_take_55 (by decide) ?_
  refine r_bipush (v := (8)) eX2_take_56 (by decide) ?_
  refine t_acp (t := 0) eX2_take_58 jl_2_46 (Nat.le_of_ble_eq_true rfl) q (fun h58 q => ?_)
  refine r_aload_n eX2_take_61 rfl ?_
  refine t_gfR eX2_take_62 f_2_28 q (fun v62 q => ?_)
  refine r_iconst (v := (0)) eX2_take_65 (by decide) ?_
  refine r_aload_n eX2_take_66 rfl ?_
  refine t_gfR eX2_take_67 f_2_28 q (fun v67 q => ?_)
  refine r_iconst (v := (0)) eX2_take_70 (by decide) ?_
  refine r_bipush (v := (8)) eX2_take_71 (by decide) ?_
  refine t_acp (t := 0) eX2_take_73 jl_2_46 (Nat.le_of_ble_eq_true rfl) q (fun h73 q => ?_)
  refine r_iconst (v := (0)) eX2_take_76 (by decide) ?_
  refine r_istore_n (lv' := [_, _, _]) eX2_take_77 (Nat.le_of_ble_eq_true rfl) rfl ?_
  exact sL_X2_take_78  _ _ _ q
theorem sL_X3_isTaken_2 {E : Ev} {d kc ks : Nat} {Φ : Ou → Hp → Prop} {y0 : Nat} {y1 : Int32} {y2 : Int32}  : ∀ (g : Nat) (y3 : Int32) (h : Hp), OK (L_X3_isTaken_2 E y0 y1 y2 g y3 h) Φ → WE E mX3_isTaken (d + 0) 2 [some (.ref y0), some (.int y1), some (.int y2), some (.int y3)] [] h kc ks Φ := by
  intro g
  induction g with
  | zero => intro y3 h q; exact q.elim
  | succ g ih =>
    intro y3 h q
    refine r_iload_n eX3_isTaken_2 rfl ?_
    refine r_aload_n eX3_isTaken_3 rfl ?_
    refine t_gfI eX3_isTaken_4 f_3_55 q (fun v4 q => ?_)
    refine t_icmp_ge eX3_isTaken_7 (t := 38) (by decide) q (fun q => ?_) (fun q => ?_)
    · refine r_iconst (v := (0)) eX3_isTaken_38 (by decide) ?_
      exact t_rtZ eX3_isTaken_39 rfl q
    refine r_aload_n eX3_isTaken_10 rfl ?_
    refine t_gfR eX3_isTaken_11 f_3_9 q (fun v11 q => ?_)
    refine r_iload_n eX3_isTaken_14 rfl ?_
    refine t_gaI eX3_isTaken_15 q (fun v15 q => ?_)
    refine r_iload_n eX3_isTaken_16 rfl ?_
    refine t_icmp_ne eX3_isTaken_17 (t := 32) (by decide) q (fun q => ?_) (fun q => ?_)
    · refine r_iinc (v := (1)) (lv' := [_, _, _, _]) eX3_isTaken_32 rfl (by decide) rfl ?_
      refine r_goto (t := 2) eX3_isTaken_35 (by decide) ?_
      exact ih _ _ q
    refine r_aload_n eX3_isTaken_20 rfl ?_
    refine t_gfR eX3_isTaken_21 f_3_15 q (fun v21 q => ?_)
    refine r_iload_n eX3_isTaken_24 rfl ?_
    refine t_gaI eX3_isTaken_25 q (fun v25 q => ?_)
    refine r_iload_n eX3_isTaken_26 rfl ?_
    refine t_icmp_ne eX3_isTaken_27 (t := 32) (by decide) q (fun q => ?_) (fun q => ?_)
    · refine r_iinc (v := (1)) (lv' := [_, _, _, _]) eX3_isTaken_32 rfl (by decide) rfl ?_
      refine r_goto (t := 2) eX3_isTaken_35 (by decide) ?_
      exact ih _ _ q
    refine r_iconst (v := (1)) eX3_isTaken_30 (by decide) ?_
    exact t_rtZ eX3_isTaken_31 rfl q
theorem s_X3_isTaken {E : Ev} {d : Nat} {a0 : Nat} {x1 : Int32} {x2 : Int32} {h : Hp} {Φ : Ou → Hp → Prop} (q : OK (F_X3_isTaken E a0 x1 x2 h) Φ) : CE E mX3_isTaken (d + 0) [.ref a0, .int x1, .int x2] h 0 0 Φ := by
  show WE E mX3_isTaken (d + 0) 0 [some (.ref a0), some (.int x1), some (.int x2), none] [] h 0 0 Φ
  refine r_iconst (v := (0)) eX3_isTaken_0 (by decide) ?_
  refine r_istore_n (lv' := [_, _, _, _]) eX3_isTaken_1 (Nat.le_of_ble_eq_true rfl) rfl ?_
  exact sL_X3_isTaken_2  _ _ _ q
theorem s_X3_addPlace {E : Ev} {d : Nat} {a0 : Nat} {x1 : Int32} {x2 : Int32} {h : Hp} {Φ : Ou → Hp → Prop} (q : OK (F_X3_addPlace E a0 x1 x2 h) Φ) : CE E mX3_addPlace (d + 0) [.ref a0, .int x1, .int x2] h 0 0 Φ := by
  show WE E mX3_addPlace (d + 0) 0 [some (.ref a0), some (.int x1), some (.int x2)] [] h 0 0 Φ
  refine r_aload_n eX3_addPlace_0 rfl ?_
  refine t_gfI eX3_addPlace_1 f_3_55 q (fun v1 q => ?_)
  refine r_bipush (v := (40)) eX3_addPlace_4 (by decide) ?_
  refine t_icmp_lt eX3_addPlace_6 (t := 11) (by decide) q (fun q => ?_) (fun q => ?_)
  · refine r_aload_n eX3_addPlace_11 rfl ?_
    refine t_gfR eX3_addPlace_12 f_3_9 q (fun v12 q => ?_)
    refine r_aload_n eX3_addPlace_15 rfl ?_
    refine t_gfI eX3_addPlace_16 f_3_55 q (fun v16 q => ?_)
    refine r_iload_n eX3_addPlace_19 rfl ?_
    refine t_paI eX3_addPlace_20 q (fun h20 q => ?_)
    refine r_aload_n eX3_addPlace_21 rfl ?_
    refine t_gfR eX3_addPlace_22 f_3_15 q (fun v22 q => ?_)
    refine r_aload_n eX3_addPlace_25 rfl ?_
    refine t_gfI eX3_addPlace_26 f_3_55 q (fun v26 q => ?_)
    refine r_iload_n eX3_addPlace_29 rfl ?_
    refine t_paI eX3_addPlace_30 q (fun h30 q => ?_)
    refine r_aload_n eX3_addPlace_31 rfl ?_
    refine r_dup eX3_addPlace_32 rfl ?_
    refine t_gfI eX3_addPlace_33 f_3_55 q (fun v33 q => ?_)
    refine r_dup_x1 eX3_addPlace_36 rfl rfl ?_
    refine r_iconst (v := (1)) eX3_addPlace_37 (by decide) ?_
    refine r_iadd eX3_addPlace_38 ?_
    refine t_pf eX3_addPlace_39 p_3_55 rfl rfl (fun q => by cases q) q (fun h39 q => ?_)
    exact t_rtI eX3_addPlace_42 rfl q
  refine r_iconst (v := (-1)) eX3_addPlace_9 (by decide) ?_
  exact t_rtI eX3_addPlace_10 rfl q
theorem sJ_X3_isJoined_65 {E : Ev} {d kc ks : Nat} {Φ : Ou → Hp → Prop} {y0 : Nat} {y1 : Int32} {y2 : Int32} {y3 : Int32} {y4 : Int32} {y5 : Int32} {y6 : Int32} {y7 : Int32} {y8 : Option Value} {t0 : Int32} {h : Hp} {K3 : Int32 → Hp → Rs} (hK3 : ∀ (w5 : Int32) (w6 : Option Value) (w7 : Option Value) (w8 : Option Value) (h : Hp), OK (K3 w5 h) Φ → WE E mX3_isJoined (d + 0) 3 [some (.ref y0), some (.int y1), some (.int y2), some (.int y3), some (.int y4), some (.int w5), w6, w7, w8] [] h kc ks Φ) (q : OK (J_X3_isJoined_65 E K3 y0 y1 y2 y3 y4 y5 t0 h) Φ) : WE E mX3_isJoined (d + 0) 65 [some (.ref y0), some (.int y1), some (.int y2), some (.int y3), some (.int y4), some (.int y5), some (.int y6), some (.int y7), y8] [.int t0] h kc ks Φ := by
  refine r_istore (lv' := [_, _, _, _, _, _, _, _, _]) eX3_isJoined_65 (Nat.le_of_ble_eq_true rfl) rfl ?_
  refine r_iload eX3_isJoined_67 rfl ?_
  refine t_if_eq eX3_isJoined_69 (t := 97) (by decide) q (fun q => ?_) (fun q => ?_)
  · refine r_iinc (v := (1)) (lv' := [_, _, _, _, _, _, _, _, _]) eX3_isJoined_97 rfl (by decide) rfl ?_
    refine r_goto (t := 3) eX3_isJoined_100 (by decide) ?_
    exact hK3 _ _ _ _ _ q
  refine r_aload_n eX3_isJoined_72 rfl ?_
  refine t_gfR eX3_isJoined_73 f_3_24 q (fun v73 q => ?_)
  refine r_iload eX3_isJoined_76 rfl ?_
  refine t_gaI eX3_isJoined_78 q (fun v78 q => ?_)
  refine r_iload eX3_isJoined_79 rfl ?_
  refine t_icmp_gt eX3_isJoined_81 (t := 97) (by decide) q (fun q => ?_) (fun q => ?_)
  · refine r_iinc (v := (1)) (lv' := [_, _, _, _, _, _, _, _, _]) eX3_isJoined_97 rfl (by decide) rfl ?_
    refine r_goto (t := 3) eX3_isJoined_100 (by decide) ?_
    exact hK3 _ _ _ _ _ q
  refine r_iload_n eX3_isJoined_84 rfl ?_
  refine r_aload_n eX3_isJoined_85 rfl ?_
  refine t_gfR eX3_isJoined_86 f_3_27 q (fun v86 q => ?_)
  refine r_iload eX3_isJoined_89 rfl ?_
  refine t_gaI eX3_isJoined_91 q (fun v91 q => ?_)
  refine t_icmp_gt eX3_isJoined_92 (t := 97) (by decide) q (fun q => ?_) (fun q => ?_)
  · refine r_iinc (v := (1)) (lv' := [_, _, _, _, _, _, _, _, _]) eX3_isJoined_97 rfl (by decide) rfl ?_
    refine r_goto (t := 3) eX3_isJoined_100 (by decide) ?_
    exact hK3 _ _ _ _ _ q
  refine r_iconst (v := (1)) eX3_isJoined_95 (by decide) ?_
  exact t_rtZ eX3_isJoined_96 rfl q
theorem sJ_X3_isJoined_48 {E : Ev} {d kc ks : Nat} {Φ : Ou → Hp → Prop} {y0 : Nat} {y1 : Int32} {y2 : Int32} {y3 : Int32} {y4 : Int32} {y5 : Int32} {y6 : Int32} {y7 : Int32} {y8 : Option Value} {h : Hp} {K3 : Int32 → Hp → Rs} (hK3 : ∀ (w5 : Int32) (w6 : Option Value) (w7 : Option Value) (w8 : Option Value) (h : Hp), OK (K3 w5 h) Φ → WE E mX3_isJoined (d + 0) 3 [some (.ref y0), some (.int y1), some (.int y2), some (.int y3), some (.int y4), some (.int w5), w6, w7, w8] [] h kc ks Φ) (q : OK (J_X3_isJoined_48 E K3 y0 y1 y2 y3 y4 y5 y6 y7 h) Φ) : WE E mX3_isJoined (d + 0) 48 [some (.ref y0), some (.int y1), some (.int y2), some (.int y3), some (.int y4), some (.int y5), some (.int y6), some (.int y7), y8] [] h kc ks Φ := by
  refine r_iload eX3_isJoined_48 rfl ?_
  refine r_iload_n eX3_isJoined_50 rfl ?_
  refine t_icmp_ne eX3_isJoined_51 (t := 64) (by decide) q (fun q => ?_) (fun q => ?_)
  · refine r_iconst (v := (0)) eX3_isJoined_64 (by decide) ?_
    refine sJ_X3_isJoined_65 (fun w1 w2 w3 w4 h5 q => ?_) q
    exact hK3 _ _ _ _ _ q
  refine r_iload eX3_isJoined_54 rfl ?_
  refine r_iload_n eX3_isJoined_56 rfl ?_
  refine t_icmp_ne eX3_isJoined_57 (t := 64) (by decide) q (fun q => ?_) (fun q => ?_)
  · refine r_iconst (v := (0)) eX3_isJoined_64 (by decide) ?_
    refine sJ_X3_isJoined_65 (fun w6 w7 w8 w9 h10 q => ?_) q
    exact hK3 _ _ _ _ _ q
  refine r_iconst (v := (1)) eX3_isJoined_60 (by decide) ?_
  refine r_goto (t := 65) eX3_isJoined_61 (by decide) ?_
  refine sJ_X3_isJoined_65 (fun w11 w12 w13 w14 h15 q => ?_) q
  exact hK3 _ _ _ _ _ q
theorem sL_X3_isJoined_3 {E : Ev} {d kc ks : Nat} {Φ : Ou → Hp → Prop} {y0 : Nat} {y1 : Int32} {y2 : Int32} {y3 : Int32} {y4 : Int32}  : ∀ (g : Nat) (y5 : Int32) (y6 : Option Value) (y7 : Option Value) (y8 : Option Value) (h : Hp), OK (L_X3_isJoined_3 E y0 y1 y2 y3 y4 g y5 h) Φ → WE E mX3_isJoined (d + 0) 3 [some (.ref y0), some (.int y1), some (.int y2), some (.int y3), some (.int y4), some (.int y5), y6, y7, y8] [] h kc ks Φ := by
  intro g
  induction g with
  | zero => intro y5 y6 y7 y8 h q; exact q.elim
  | succ g ih =>
    intro y5 y6 y7 y8 h q
    refine r_iload eX3_isJoined_3 rfl ?_
    refine r_aload_n eX3_isJoined_5 rfl ?_
    refine t_gfI eX3_isJoined_6 f_3_59 q (fun v6 q => ?_)
    refine t_icmp_ge eX3_isJoined_9 (t := 103) (by decide) q (fun q => ?_) (fun q => ?_)
    · refine r_iconst (v := (0)) eX3_isJoined_103 (by decide) ?_
      exact t_rtZ eX3_isJoined_104 rfl q
    refine r_aload_n eX3_isJoined_12 rfl ?_
    refine t_gfR eX3_isJoined_13 f_3_30 q (fun v13 q => ?_)
    refine r_iconst (v := (4)) eX3_isJoined_16 (by decide) ?_
    refine r_iload eX3_isJoined_17 rfl ?_
    refine r_imul eX3_isJoined_19 ?_
    refine r_iconst (v := (1)) eX3_isJoined_20 (by decide) ?_
    refine r_iadd eX3_isJoined_21 ?_
    refine t_gaI eX3_isJoined_22 q (fun v22 q => ?_)
    refine r_istore (lv' := [_, _, _, _, _, _, _, _, _]) eX3_isJoined_23 (Nat.le_of_ble_eq_true rfl) rfl ?_
    refine r_aload_n eX3_isJoined_25 rfl ?_
    refine t_gfR eX3_isJoined_26 f_3_30 q (fun v26 q => ?_)
    refine r_iconst (v := (4)) eX3_isJoined_29 (by decide) ?_
    refine r_iload eX3_isJoined_30 rfl ?_
    refine r_imul eX3_isJoined_32 ?_
    refine t_gaI eX3_isJoined_33 q (fun v33 q => ?_)
    refine r_istore (lv' := [_, _, _, _, _, _, _, _, _]) eX3_isJoined_34 (Nat.le_of_ble_eq_true rfl) rfl ?_
    refine r_iload eX3_isJoined_36 rfl ?_
    refine r_iload_n eX3_isJoined_38 rfl ?_
    refine t_icmp_ne eX3_isJoined_39 (t := 48) (by decide) q (fun q => ?_) (fun q => ?_)
    · refine sJ_X3_isJoined_48 (fun w1 w2 w3 w4 h5 q => ?_) q
      exact ih _ _ _ _ _ q
    refine r_iload eX3_isJoined_42 rfl ?_
    refine r_iload_n eX3_isJoined_44 rfl ?_
    refine t_icmp_eq eX3_isJoined_45 (t := 60) (by decide) q (fun q => ?_) (fun q => ?_)
    · refine r_iconst (v := (1)) eX3_isJoined_60 (by decide) ?_
      refine r_goto (t := 65) eX3_isJoined_61 (by decide) ?_
      refine sJ_X3_isJoined_65 (fun w6 w7 w8 w9 h10 q => ?_) q
      exact ih _ _ _ _ _ q
    refine sJ_X3_isJoined_48 (fun w11 w12 w13 w14 h15 q => ?_) q
    exact ih _ _ _ _ _ q
theorem s_X3_isJoined {E : Ev} {d : Nat} {a0 : Nat} {x1 : Int32} {x2 : Int32} {x3 : Int32} {x4 : Int32} {h : Hp} {Φ : Ou → Hp → Prop} (q : OK (F_X3_isJoined E a0 x1 x2 x3 x4 h) Φ) : CE E mX3_isJoined (d + 0) [.ref a0, .int x1, .int x2, .int x3, .int x4] h 0 0 Φ := by
  show WE E mX3_isJoined (d + 0) 0 [some (.ref a0), some (.int x1), some (.int x2), some (.int x3), some (.int x4), none, none, none, none] [] h 0 0 Φ
  refine r_iconst (v := (0)) eX3_isJoined_0 (by decide) ?_
  refine r_istore (lv' := [_, _, _, _, _, _, _, _, _]) eX3_isJoined_1 (Nat.le_of_ble_eq_true rfl) rfl ?_
  exact sL_X3_isJoined_3  _ _ _ _ _ _ q
theorem s_X3_addWay {E : Ev} {d : Nat} {a0 : Nat} {x1 : Int32} {x2 : Int32} {x3 : Int32} {x4 : Int32} {x5 : Int32} {x6 : Int32} {h : Hp} {Φ : Ou → Hp → Prop} (q : OK (F_X3_addWay E a0 x1 x2 x3 x4 x5 x6 h) Φ) : CE E mX3_addWay (d + 0) [.ref a0, .int x1, .int x2, .int x3, .int x4, .int x5, .int x6] h 0 0 Φ := by
  show WE E mX3_addWay (d + 0) 0 [some (.ref a0), some (.int x1), some (.int x2), some (.int x3), some (.int x4), some (.int x5), some (.int x6)] [] h 0 0 Φ
  refine r_aload_n eX3_addWay_0 rfl ?_
  refine t_gfI eX3_addWay_1 f_3_59 q (fun v1 q => ?_)
  refine r_bipush (v := (60)) eX3_addWay_4 (by decide) ?_
  refine t_icmp_lt eX3_addWay_6 (t := 11) (by decide) q (fun q => ?_) (fun q => ?_)
  · refine r_aload_n eX3_addWay_11 rfl ?_
    refine t_gfR eX3_addWay_12 f_3_18 q (fun v12 q => ?_)
    refine r_aload_n eX3_addWay_15 rfl ?_
    refine t_gfI eX3_addWay_16 f_3_59 q (fun v16 q => ?_)
    refine r_iload_n eX3_addWay_19 rfl ?_
    refine t_paI eX3_addWay_20 q (fun h20 q => ?_)
    refine r_aload_n eX3_addWay_21 rfl ?_
    refine t_gfR eX3_addWay_22 f_3_21 q (fun v22 q => ?_)
    refine r_aload_n eX3_addWay_25 rfl ?_
    refine t_gfI eX3_addWay_26 f_3_59 q (fun v26 q => ?_)
    refine r_iload eX3_addWay_29 rfl ?_
    refine t_paI eX3_addWay_31 q (fun h31 q => ?_)
    refine r_aload_n eX3_addWay_32 rfl ?_
    refine t_gfR eX3_addWay_33 f_3_24 q (fun v33 q => ?_)
    refine r_aload_n eX3_addWay_36 rfl ?_
    refine t_gfI eX3_addWay_37 f_3_59 q (fun v37 q => ?_)
    refine r_iload eX3_addWay_40 rfl ?_
    refine t_paI eX3_addWay_42 q (fun h42 q => ?_)
    refine r_aload_n eX3_addWay_43 rfl ?_
    refine t_gfR eX3_addWay_44 f_3_27 q (fun v44 q => ?_)
    refine r_aload_n eX3_addWay_47 rfl ?_
    refine t_gfI eX3_addWay_48 f_3_59 q (fun v48 q => ?_)
    refine r_iload eX3_addWay_51 rfl ?_
    refine t_paI eX3_addWay_53 q (fun h53 q => ?_)
    refine r_aload_n eX3_addWay_54 rfl ?_
    refine t_gfR eX3_addWay_55 f_3_30 q (fun v55 q => ?_)
    refine r_iconst (v := (4)) eX3_addWay_58 (by decide) ?_
    refine r_aload_n eX3_addWay_59 rfl ?_
    refine t_gfI eX3_addWay_60 f_3_59 q (fun v60 q => ?_)
    refine r_imul eX3_addWay_63 ?_
    refine r_iload_n eX3_addWay_64 rfl ?_
    refine t_paI eX3_addWay_65 q (fun h65 q => ?_)
    refine r_aload_n eX3_addWay_66 rfl ?_
    refine t_gfR eX3_addWay_67 f_3_30 q (fun v67 q => ?_)
    refine r_iconst (v := (4)) eX3_addWay_70 (by decide) ?_
    refine r_aload_n eX3_addWay_71 rfl ?_
    refine t_gfI eX3_addWay_72 f_3_59 q (fun v72 q => ?_)
    refine r_imul eX3_addWay_75 ?_
    refine r_iconst (v := (1)) eX3_addWay_76 (by decide) ?_
    refine r_iadd eX3_addWay_77 ?_
    refine r_iload_n eX3_addWay_78 rfl ?_
    refine t_paI eX3_addWay_79 q (fun h79 q => ?_)
    refine r_aload_n eX3_addWay_80 rfl ?_
    refine t_gfR eX3_addWay_81 f_3_30 q (fun v81 q => ?_)
    refine r_iconst (v := (4)) eX3_addWay_84 (by decide) ?_
    refine r_aload_n eX3_addWay_85 rfl ?_
    refine t_gfI eX3_addWay_86 f_3_59 q (fun v86 q => ?_)
    refine r_imul eX3_addWay_89 ?_
    refine r_iconst (v := (2)) eX3_addWay_90 (by decide) ?_
    refine r_iadd eX3_addWay_91 ?_
    refine r_iload_n eX3_addWay_92 rfl ?_
    refine t_paI eX3_addWay_93 q (fun h93 q => ?_)
    refine r_aload_n eX3_addWay_94 rfl ?_
    refine t_gfR eX3_addWay_95 f_3_30 q (fun v95 q => ?_)
    refine r_iconst (v := (4)) eX3_addWay_98 (by decide) ?_
    refine r_aload_n eX3_addWay_99 rfl ?_
    refine t_gfI eX3_addWay_100 f_3_59 q (fun v100 q => ?_)
    refine r_imul eX3_addWay_103 ?_
    refine r_iconst (v := (3)) eX3_addWay_104 (by decide) ?_
    refine r_iadd eX3_addWay_105 ?_
    refine r_iload_n eX3_addWay_106 rfl ?_
    refine t_paI eX3_addWay_107 q (fun h107 q => ?_)
    refine r_aload_n eX3_addWay_108 rfl ?_
    refine t_gfR eX3_addWay_109 f_3_33 q (fun v109 q => ?_)
    refine r_iconst (v := (2)) eX3_addWay_112 (by decide) ?_
    refine r_aload_n eX3_addWay_113 rfl ?_
    refine t_gfI eX3_addWay_114 f_3_59 q (fun v114 q => ?_)
    refine r_imul eX3_addWay_117 ?_
    refine r_aload_n eX3_addWay_118 rfl ?_
    refine t_gfR eX3_addWay_119 f_3_9 q (fun v119 q => ?_)
    refine r_iload_n eX3_addWay_122 rfl ?_
    refine t_gaI eX3_addWay_123 q (fun v123 q => ?_)
    refine r_aload_n eX3_addWay_124 rfl ?_
    refine t_gfR eX3_addWay_125 f_3_9 q (fun v125 q => ?_)
    refine r_iload_n eX3_addWay_128 rfl ?_
    refine t_gaI eX3_addWay_129 q (fun v129 q => ?_)
    refine r_isub eX3_addWay_130 ?_
    refine t_paI eX3_addWay_131 q (fun h131 q => ?_)
    refine r_aload_n eX3_addWay_132 rfl ?_
    refine t_gfR eX3_addWay_133 f_3_36 q (fun v133 q => ?_)
    refine r_iconst (v := (2)) eX3_addWay_136 (by decide) ?_
    refine r_aload_n eX3_addWay_137 rfl ?_
    refine t_gfI eX3_addWay_138 f_3_59 q (fun v138 q => ?_)
    refine r_imul eX3_addWay_141 ?_
    refine r_aload_n eX3_addWay_142 rfl ?_
    refine t_gfR eX3_addWay_143 f_3_15 q (fun v143 q => ?_)
    refine r_iload_n eX3_addWay_146 rfl ?_
    refine t_gaI eX3_addWay_147 q (fun v147 q => ?_)
    refine r_aload_n eX3_addWay_148 rfl ?_
    refine t_gfR eX3_addWay_149 f_3_15 q (fun v149 q => ?_)
    refine r_iload_n eX3_addWay_152 rfl ?_
    refine t_gaI eX3_addWay_153 q (fun v153 q => ?_)
    refine r_isub eX3_addWay_154 ?_
    refine t_paI eX3_addWay_155 q (fun h155 q => ?_)
    refine r_aload_n eX3_addWay_156 rfl ?_
    refine t_gfR eX3_addWay_157 f_3_33 q (fun v157 q => ?_)
    refine r_iconst (v := (2)) eX3_addWay_160 (by decide) ?_
    refine r_aload_n eX3_addWay_161 rfl ?_
    refine t_gfI eX3_addWay_162 f_3_59 q (fun v162 q => ?_)
    refine r_imul eX3_addWay_165 ?_
    refine r_iconst (v := (1)) eX3_addWay_166 (by decide) ?_
    refine r_iadd eX3_addWay_167 ?_
    refine r_aload_n eX3_addWay_168 rfl ?_
    refine t_gfR eX3_addWay_169 f_3_9 q (fun v169 q => ?_)
    refine r_iload_n eX3_addWay_172 rfl ?_
    refine t_gaI eX3_addWay_173 q (fun v173 q => ?_)
    refine r_aload_n eX3_addWay_174 rfl ?_
    refine t_gfR eX3_addWay_175 f_3_9 q (fun v175 q => ?_)
    refine r_iload_n eX3_addWay_178 rfl ?_
    refine t_gaI eX3_addWay_179 q (fun v179 q => ?_)
    refine r_isub eX3_addWay_180 ?_
    refine t_paI eX3_addWay_181 q (fun h181 q => ?_)
    refine r_aload_n eX3_addWay_182 rfl ?_
    refine t_gfR eX3_addWay_183 f_3_36 q (fun v183 q => ?_)
    refine r_iconst (v := (2)) eX3_addWay_186 (by decide) ?_
    refine r_aload_n eX3_addWay_187 rfl ?_
    refine t_gfI eX3_addWay_188 f_3_59 q (fun v188 q => ?_)
    refine r_imul eX3_addWay_191 ?_
    refine r_iconst (v := (1)) eX3_addWay_192 (by decide) ?_
    refine r_iadd eX3_addWay_193 ?_
    refine r_aload_n eX3_addWay_194 rfl ?_
    refine t_gfR eX3_addWay_195 f_3_15 q (fun v195 q => ?_)
    refine r_iload_n eX3_addWay_198 rfl ?_
    refine t_gaI eX3_addWay_199 q (fun v199 q => ?_)
    refine r_aload_n eX3_addWay_200 rfl ?_
    refine t_gfR eX3_addWay_201 f_3_15 q (fun v201 q => ?_)
    refine r_iload_n eX3_addWay_204 rfl ?_
    refine t_gaI eX3_addWay_205 q (fun v205 q => ?_)
    refine r_isub eX3_addWay_206 ?_
    refine t_paI eX3_addWay_207 q (fun h207 q => ?_)
    refine r_aload_n eX3_addWay_208 rfl ?_
    refine r_dup eX3_addWay_209 rfl ?_
    refine t_gfI eX3_addWay_210 f_3_59 q (fun v210 q => ?_)
    refine r_dup_x1 eX3_addWay_213 rfl rfl ?_
    refine r_iconst (v := (1)) eX3_addWay_214 (by decide) ?_
    refine r_iadd eX3_addWay_215 ?_
    refine t_pf eX3_addWay_216 p_3_59 rfl rfl (fun q => by cases q) q (fun h216 q => ?_)
    exact t_rtI eX3_addWay_219 rfl q
  refine r_iconst (v := (-1)) eX3_addWay_9 (by decide) ?_
  exact t_rtI eX3_addWay_10 rfl q
theorem s_X3_addMark {E : Ev} {d : Nat} {a0 : Nat} {x1 : Int32} {x2 : Int32} {x3 : Int32} {x4 : Int32} {x5 : Int32} {h : Hp} {Φ : Ou → Hp → Prop} (q : OK (F_X3_addMark E a0 x1 x2 x3 x4 x5 h) Φ) : CE E mX3_addMark (d + 0) [.ref a0, .int x1, .int x2, .int x3, .int x4, .int x5] h 0 0 Φ := by
  show WE E mX3_addMark (d + 0) 0 [some (.ref a0), some (.int x1), some (.int x2), some (.int x3), some (.int x4), some (.int x5)] [] h 0 0 Φ
  refine r_aload_n eX3_addMark_0 rfl ?_
  refine t_gfI eX3_addMark_1 f_3_62 q (fun v1 q => ?_)
  refine r_bipush (v := (40)) eX3_addMark_4 (by decide) ?_
  refine t_icmp_lt eX3_addMark_6 (t := 11) (by decide) q (fun q => ?_) (fun q => ?_)
  · refine r_aload_n eX3_addMark_11 rfl ?_
    refine t_gfR eX3_addMark_12 f_3_39 q (fun v12 q => ?_)
    refine r_aload_n eX3_addMark_15 rfl ?_
    refine t_gfI eX3_addMark_16 f_3_62 q (fun v16 q => ?_)
    refine r_iload_n eX3_addMark_19 rfl ?_
    refine t_paI eX3_addMark_20 q (fun h20 q => ?_)
    refine r_aload_n eX3_addMark_21 rfl ?_
    refine t_gfR eX3_addMark_22 f_3_42 q (fun v22 q => ?_)
    refine r_aload_n eX3_addMark_25 rfl ?_
    refine t_gfI eX3_addMark_26 f_3_62 q (fun v26 q => ?_)
    refine r_iload_n eX3_addMark_29 rfl ?_
    refine t_paI eX3_addMark_30 q (fun h30 q => ?_)
    refine r_aload_n eX3_addMark_31 rfl ?_
    refine t_gfR eX3_addMark_32 f_3_45 q (fun v32 q => ?_)
    refine r_aload_n eX3_addMark_35 rfl ?_
    refine t_gfI eX3_addMark_36 f_3_62 q (fun v36 q => ?_)
    refine r_iload_n eX3_addMark_39 rfl ?_
    refine t_paZ eX3_addMark_40 q (fun h40 q => ?_)
    refine r_aload_n eX3_addMark_41 rfl ?_
    refine t_gfR eX3_addMark_42 f_3_49 q (fun v42 q => ?_)
    refine r_aload_n eX3_addMark_45 rfl ?_
    refine t_gfI eX3_addMark_46 f_3_62 q (fun v46 q => ?_)
    refine r_iload eX3_addMark_49 rfl ?_
    refine t_paI eX3_addMark_51 q (fun h51 q => ?_)
    refine r_aload_n eX3_addMark_52 rfl ?_
    refine t_gfR eX3_addMark_53 f_3_52 q (fun v53 q => ?_)
    refine r_aload_n eX3_addMark_56 rfl ?_
    refine t_gfI eX3_addMark_57 f_3_62 q (fun v57 q => ?_)
    refine r_iload eX3_addMark_60 rfl ?_
    refine t_paI eX3_addMark_62 q (fun h62 q => ?_)
    refine r_aload_n eX3_addMark_63 rfl ?_
    refine r_dup eX3_addMark_64 rfl ?_
    refine t_gfI eX3_addMark_65 f_3_62 q (fun v65 q => ?_)
    refine r_dup_x1 eX3_addMark_68 rfl rfl ?_
    refine r_iconst (v := (1)) eX3_addMark_69 (by decide) ?_
    refine r_iadd eX3_addMark_70 ?_
    refine t_pf eX3_addMark_71 p_3_62 rfl rfl (fun q => by cases q) q (fun h71 q => ?_)
    exact t_rtI eX3_addMark_74 rfl q
  refine r_iconst (v := (-1)) eX3_addMark_9 (by decide) ?_
  exact t_rtI eX3_addMark_10 rfl q
theorem sL_X3_marksOf_5 {E : Ev} {d kc ks : Nat} {Φ : Ou → Hp → Prop} {y0 : Nat} {y1 : Int32} {y2 : Int32}  : ∀ (g : Nat) (y3 : Int32) (y4 : Int32) (h : Hp), OK (L_X3_marksOf_5 E y0 y1 y2 g y3 y4 h) Φ → WE E mX3_marksOf (d + 0) 5 [some (.ref y0), some (.int y1), some (.int y2), some (.int y3), some (.int y4)] [] h kc ks Φ := by
  intro g
  induction g with
  | zero => intro y3 y4 h q; exact q.elim
  | succ g ih =>
    intro y3 y4 h q
    refine r_iload eX3_marksOf_5 rfl ?_
    refine r_aload_n eX3_marksOf_7 rfl ?_
    refine t_gfI eX3_marksOf_8 f_3_62 q (fun v8 q => ?_)
    refine t_icmp_ge eX3_marksOf_11 (t := 56) (by decide) q (fun q => ?_) (fun q => ?_)
    · refine r_iload_n eX3_marksOf_56 rfl ?_
      exact t_rtI eX3_marksOf_57 rfl q
    refine r_aload_n eX3_marksOf_14 rfl ?_
    refine t_gfR eX3_marksOf_15 f_3_42 q (fun v15 q => ?_)
    refine r_iload eX3_marksOf_18 rfl ?_
    refine t_gaI eX3_marksOf_20 q (fun v20 q => ?_)
    refine r_iload_n eX3_marksOf_21 rfl ?_
    refine t_icmp_ne eX3_marksOf_22 (t := 50) (by decide) q (fun q => ?_) (fun q => ?_)
    · refine r_iinc (v := (1)) (lv' := [_, _, _, _, _]) eX3_marksOf_50 rfl (by decide) rfl ?_
      refine r_goto (t := 5) eX3_marksOf_53 (by decide) ?_
      exact ih _ _ _ q
    refine r_aload_n eX3_marksOf_25 rfl ?_
    refine t_gfR eX3_marksOf_26 f_3_49 q (fun v26 q => ?_)
    refine r_iload eX3_marksOf_29 rfl ?_
    refine t_gaI eX3_marksOf_31 q (fun v31 q => ?_)
    refine r_iload_n eX3_marksOf_32 rfl ?_
    refine t_icmp_gt eX3_marksOf_33 (t := 50) (by decide) q (fun q => ?_) (fun q => ?_)
    · refine r_iinc (v := (1)) (lv' := [_, _, _, _, _]) eX3_marksOf_50 rfl (by decide) rfl ?_
      refine r_goto (t := 5) eX3_marksOf_53 (by decide) ?_
      exact ih _ _ _ q
    refine r_iload_n eX3_marksOf_36 rfl ?_
    refine r_aload_n eX3_marksOf_37 rfl ?_
    refine t_gfR eX3_marksOf_38 f_3_52 q (fun v38 q => ?_)
    refine r_iload eX3_marksOf_41 rfl ?_
    refine t_gaI eX3_marksOf_43 q (fun v43 q => ?_)
    refine t_icmp_gt eX3_marksOf_44 (t := 50) (by decide) q (fun q => ?_) (fun q => ?_)
    · refine r_iinc (v := (1)) (lv' := [_, _, _, _, _]) eX3_marksOf_50 rfl (by decide) rfl ?_
      refine r_goto (t := 5) eX3_marksOf_53 (by decide) ?_
      exact ih _ _ _ q
    refine r_iinc (v := (1)) (lv' := [_, _, _, _, _]) eX3_marksOf_47 rfl (by decide) rfl ?_
    refine r_iinc (v := (1)) (lv' := [_, _, _, _, _]) eX3_marksOf_50 rfl (by decide) rfl ?_
    refine r_goto (t := 5) eX3_marksOf_53 (by decide) ?_
    exact ih _ _ _ q
theorem s_X3_marksOf {E : Ev} {d : Nat} {a0 : Nat} {x1 : Int32} {x2 : Int32} {h : Hp} {Φ : Ou → Hp → Prop} (q : OK (F_X3_marksOf E a0 x1 x2 h) Φ) : CE E mX3_marksOf (d + 0) [.ref a0, .int x1, .int x2] h 0 0 Φ := by
  show WE E mX3_marksOf (d + 0) 0 [some (.ref a0), some (.int x1), some (.int x2), none, none] [] h 0 0 Φ
  refine r_iconst (v := (0)) eX3_marksOf_0 (by decide) ?_
  refine r_istore_n (lv' := [_, _, _, _, _]) eX3_marksOf_1 (Nat.le_of_ble_eq_true rfl) rfl ?_
  refine r_iconst (v := (0)) eX3_marksOf_2 (by decide) ?_
  refine r_istore (lv' := [_, _, _, _, _]) eX3_marksOf_3 (Nat.le_of_ble_eq_true rfl) rfl ?_
  exact sL_X3_marksOf_5  _ _ _ _ q
theorem sL_X3_take_222 {E : Ev} {d kc ks : Nat} {Φ : Ou → Hp → Prop} {y0 : Nat} {y1 : Nat}  : ∀ (g : Nat) (y2 : Int32) (h : Hp), OK (L_X3_take_222 E y0 y1 g y2 h) Φ → WE E mX3_take (d + 0) 222 [some (.ref y0), some (.ref y1), some (.int y2)] [] h kc ks Φ := by
  intro g
  induction g with
  | zero => intro y2 h q; exact q.elim
  | succ g ih =>
    intro y2 h q
    refine r_iload_n eX3_take_222 rfl ?_
    refine r_bipush (v := (40)) eX3_take_223 (by decide) ?_
    refine t_icmp_ge eX3_take_225 (t := 246) (by decide) q (fun q => ?_) (fun q => ?_)
    · exact t_rtV eX3_take_246 rfl q
    refine r_aload_n eX3_take_228 rfl ?_
    refine t_gfR eX3_take_229 f_3_45 q (fun v229 q => ?_)
    refine r_iload_n eX3_take_232 rfl ?_
    refine r_aload_n eX3_take_233 rfl ?_
    refine t_gfR eX3_take_234 f_3_45 q (fun v234 q => ?_)
    refine r_iload_n eX3_take_237 rfl ?_
    refine t_gaZ eX3_take_238 q (fun v238 q => ?_)
    refine t_paZ eX3_take_239 q (fun h239 q => ?_)
    refine r_iinc (v := (1)) (lv' := [_, _, _]) eX3_take_240 rfl (by decide) rfl ?_
    refine r_goto (t := 222) eX3_take_243 (by decide) ?_
    exact ih _ _ q
theorem s_X3_take {E : Ev} {d : Nat} {a0 : Nat} {a1 : Nat} {h : Hp} {Φ : Ou → Hp → Prop} (q : OK (F_X3_take E a0 a1 h) Φ) : CE E mX3_take (d + 0) [.ref a0, .ref a1] h 0 0 Φ := by
  show WE E mX3_take (d + 0) 0 [some (.ref a0), some (.ref a1), none] [] h 0 0 Φ
  refine r_aload_n eX3_take_0 rfl ?_
  refine r_aload_n eX3_take_1 rfl ?_
  refine t_gfI eX3_take_2 f_3_55 q (fun v2 q => ?_)
  refine t_pf eX3_take_5 p_3_55 rfl rfl (fun q => by cases q) q (fun h5 q => ?_)
  refine r_aload_n eX3_take_8 rfl ?_
  refine t_gfR eX3_take_9 f_3_9 q (fun v9 q => ?_)
  refine r_iconst (v := (0)) eX3_take_12 (by decide) ?_
  refine r_aload_n eX3_take_13 rfl ?_
  refine t_gfR eX3_take_14 f_3_9 q (fun v14 q => ?_)
  refine r_iconst (v := (0)) eX3_take_17 (by decide) ?_
  refine r_bipush (v := (40)) eX3_take_18 (by decide) ?_
  refine t_acp (t := 0) eX3_take_20 jl_3_65 (Nat.le_of_ble_eq_true rfl) q (fun h20 q => ?_)
  refine r_aload_n eX3_take_23 rfl ?_
  refine t_gfR eX3_take_24 f_3_15 q (fun v24 q => ?_)
  refine r_iconst (v := (0)) eX3_take_27 (by decide) ?_
  refine r_aload_n eX3_take_28 rfl ?_
  refine t_gfR eX3_take_29 f_3_15 q (fun v29 q => ?_)
  refine r_iconst (v := (0)) eX3_take_32 (by decide) ?_
  refine r_bipush (v := (40)) eX3_take_33 (by decide) ?_
  refine t_acp (t := 0) eX3_take_35 jl_3_65 (Nat.le_of_ble_eq_true rfl) q (fun h35 q => ?_)
  refine r_aload_n eX3_take_38 rfl ?_
  refine r_aload_n eX3_take_39 rfl ?_
  refine t_gfI eX3_take_40 f_3_59 q (fun v40 q => ?_)
  refine t_pf eX3_take_43 p_3_59 rfl rfl (fun q => by cases q) q (fun h43 q => ?_)
  refine r_aload_n eX3_take_46 rfl ?_
  refine t_gfR eX3_take_47 f_3_18 q (fun v47 q => ?_)
  refine r_iconst (v := (0)) eX3_take_50 (by decide) ?_
  refine r_aload_n eX3_take_51 rfl ?_
  refine t_gfR eX3_take_52 f_3_18 q (fun v52 q => ?_)
  refine r_iconst (v := (0)) eX3_take_55 (by decide) ?_
  refine r_bipush (v := (60)) eX3_take_56 (by decide) ?_
  refine t_acp (t := 0) eX3_take_58 jl_3_65 (Nat.le_of_ble_eq_true rfl) q (fun h58 q => ?_)
  refine r_aload_n eX3_take_61 rfl ?_
  refine t_gfR eX3_take_62 f_3_21 q (fun v62 q => ?_)
  refine r_iconst (v := (0)) eX3_take_65 (by decide) ?_
  refine r_aload_n eX3_take_66 rfl ?_
  refine t_gfR eX3_take_67 f_3_21 q (fun v67 q => ?_)
  refine r_iconst (v := (0)) eX3_take_70 (by decide) ?_
  refine r_bipush (v := (60)) eX3_take_71 (by decide) ?_
  refine t_acp (t := 0) eX3_take_73 jl_3_65 (Nat.le_of_ble_eq_true rfl) q (fun h73 q => ?_)
  refine r_aload_n eX3_take_76 rfl ?_
  refine t_gfR eX3_take_77 f_3_24 q (fun v77 q => ?_)
  refine r_iconst (v := (0)) eX3_take_80 (by decide) ?_
  refine r_aload_n eX3_take_81 rfl ?_
  refine t_gfR eX3_take_82 f_3_24 q (fun v82 q => ?_)
  refine r_iconst (v := (0)) eX3_take_85 (by decide) ?_
  refine r_bipush (v := (60)) eX3_take_86 (by decide) ?_
  refine t_acp (t := 0) eX3_take_88 jl_3_65 (Nat.le_of_ble_eq_true rfl) q (fun h88 q => ?_)
  refine r_aload_n eX3_take_91 rfl ?_
  refine t_gfR eX3_take_92 f_3_27 q (fun v92 q => ?_)
  refine r_iconst (v := (0)) eX3_take_95 (by decide) ?_
  refine r_aload_n eX3_take_96 rfl ?_
  refine t_gfR eX3_take_97 f_3_27 q (fun v97 q => ?_)
  refine r_iconst (v := (0)) eX3_take_100 (by decide) ?_
  refine r_bipush (v := (60)) eX3_take_101 (by decide) ?_
  refine t_acp (t := 0) eX3_take_103 jl_3_65 (Nat.le_of_ble_eq_true rfl) q (fun h103 q => ?_)
  refine r_aload_n eX3_take_106 rfl ?_
  refine t_gfR eX3_take_107 f_3_30 q (fun v107 q => ?_)
  refine r_iconst (v := (0)) eX3_take_110 (by decide) ?_
  refine r_aload_n eX3_take_111 rfl ?_
  refine t_gfR eX3_take_112 f_3_30 q (fun v112 q => ?_)
  refine r_iconst (v := (0)) eX3_take_115 (by decide) ?_
  refine r_sipush (v := (240)) eX3_take_116 (by decide) ?_
  refine t_acp (t := 0) eX3_take_119 jl_3_65 (Nat.le_of_ble_eq_true rfl) q (fun h119 q => ?_)
  refine r_aload_n eX3_take_122 rfl ?_
  refine t_gfR eX3_take_123 f_3_33 q (fun v123 q => ?_)
  refine r_iconst (v := (0)) eX3_take_126 (by decide) ?_
  refine r_aload_n eX3_take_127 rfl ?_
  refine t_gfR eX3_take_128 f_3_33 q (fun v128 q => ?_)
  refine r_iconst (v := (0)) eX3_take_131 (by decide) ?_
  refine r_bipush (v := (120)) eX3_take_132 (by decide) ?_
  refine t_acp (t := 0) eX3_take_134 jl_3_65 (Nat.le_of_ble_eq_true rfl) q (fun h134 q => ?_)
  refine r_aload_n eX3_take_137 rfl ?_
  refine t_gfR eX3_take_138 f_3_36 q (fun v138 q => ?_)
  refine r_iconst (v := (0)) eX3_take_141 (by decide) ?_
  refine r_aload_n eX3_take_142 rfl ?_
  refine t_gfR eX3_take_143 f_3_36 q (fun v143 q => ?_)
  refine r_iconst (v := (0)) eX3_take_146 (by decide) ?_
  refine r_bipush (v := (120)) eX3_take_147 (by decide) ?_
  refine t_acp (t := 0) eX3_take_149 jl_3_65 (Nat.le_of_ble_eq_true rfl) q (fun h149 q => ?_)
  refine r_aload_n eX3_take_152 rfl ?_
  refine r_aload_n eX3_take_153 rfl ?_
  refine t_gfI eX3_take_154 f_3_62 q (fun v154 q => ?_)
  refine t_pf eX3_take_157 p_3_62 rfl rfl (fun q => by cases q) q (fun h157 q => ?_)
  refine r_aload_n eX3_take_160 rfl ?_
  refine t_gfR eX3_take_161 f_3_39 q (fun v161 q => ?_)
  refine r_iconst (v := (0)) eX3_take_164 (by decide) ?_
  refine r_aload_n eX3_take_165 rfl ?_
  refine t_gfR eX3_take_166 f_3_39 q (fun v166 q => ?_)
  refine r_iconst (v := (0)) eX3_take_169 (by decide) ?_
  refine r_bipush (v := (40)) eX3_take_170 (by decide) ?_
  refine t_acp (t := 0) eX3_take_172 jl_3_65 (Nat.le_of_ble_eq_true rfl) q (fun h172 q => ?_)
  refine r_aload_n eX3_take_175 rfl ?_
  refine t_gfR eX3_take_176 f_3_42 q (fun v176 q => ?_)
  refine r_iconst (v := (0)) eX3_take_179 (by decide) ?_
  refine r_aload_n eX3_take_180 rfl ?_
  refine t_gfR eX3_take_181 f_3_42 q (fun v181 q => ?_)
  refine r_iconst (v := (0)) eX3_take_184 (by decide) ?_
  refine r_bipush (v := (40)) eX3_take_185 (by decide) ?_
  refine t_acp (t := 0) eX3_take_187 jl_3_65 (Nat.le_of_ble_eq_true rfl) q (fun h187 q => ?_)
  refine r_aload_n eX3_take_190 rfl ?_
  refine t_gfR eX3_take_191 f_3_49 q (fun v191 q => ?_)
  refine r_iconst (v := (0)) eX3_take_194 (by decide) ?_
  refine r_aload_n eX3_take_195 rfl ?_
  refine t_gfR eX3_take_196 f_3_49 q (fun v196 q => ?_)
  refine r_iconst (v := (0)) eX3_take_199 (by decide) ?_
  refine r_bipush (v := (40)) eX3_take_200 (by decide) ?_
  refine t_acp (t := 0) eX3_take_202 jl_3_65 (Nat.le_of_ble_eq_true rfl) q (fun h202 q => ?_)
  refine r_aload_n eX3_take_205 rfl ?_
  refine t_gfR eX3_take_206 f_3_52 q (fun v206 q => ?_)
  refine r_iconst (v := (0)) eX3_take_209 (by decide) ?_
  refine r_aload_n eX3_take_210 rfl ?_
  refine t_gfR eX3_take_211 f_3_52 q (fun v211 q => ?_)
  refine r_iconst (v := (0)) eX3_take_214 (by decide) ?_
  refine r_bipush (v := (40)) eX3_take_215 (by decide) ?_
  refine t_acp (t := 0) eX3_take_217 jl_3_65 (Nat.le_of_ble_eq_true rfl) q (fun h217 q => ?_)
  refine r_iconst (v := (0)) eX3_take_220 (by decide) ?_
  refine r_istore_n (lv' := [_, _, _]) eX3_take_221 (Nat.le_of_ble_eq_true rfl) rfl ?_
  exact sL_X3_take_222  _ _ _ q
theorem sL_J7_fill_53178_5 {E : Ev} {d kc ks : Nat} {Φ : Ou → Hp → Prop} {y0 : Nat} {y1 : Int32} {y3 : Int32}  : ∀ (g : Nat) (y2 : Int32) (h : Hp), OK (L_J7_fill_53178_5 E y0 y1 y3 g y2 h) Φ → WE E mJ7_fill_53178 (d + 0) 5 [some (.ref y0), some (.int y1), some (.int y2), some (.int y3)] [] h kc ks Φ := by
  intro g
  induction g with
  | zero => intro y2 h q; exact q.elim
  | succ g ih =>
    intro y2 h q
    refine r_iload_n eJ7_fill_53178_5 rfl ?_
    refine r_iload_n eJ7_fill_53178_6 rfl ?_
    refine t_icmp_ge eJ7_fill_53178_7 (t := 20) (by decide) q (fun q => ?_) (fun q => ?_)
    · exact t_rtV eJ7_fill_53178_20 rfl q
    refine r_aload_n eJ7_fill_53178_10 rfl ?_
    refine r_iload_n eJ7_fill_53178_11 rfl ?_
    refine r_iload_n eJ7_fill_53178_12 rfl ?_
    refine t_paI eJ7_fill_53178_13 q (fun h13 q => ?_)
    refine r_iinc (v := (1)) (lv' := [_, _, _, _]) eJ7_fill_53178_14 rfl (by decide) rfl ?_
    refine r_goto (t := 5) eJ7_fill_53178_17 (by decide) ?_
    exact ih _ _ q
theorem s_J7_fill_53178 {E : Ev} {d : Nat} {a0 : Nat} {x1 : Int32} {h : Hp} {Φ : Ou → Hp → Prop} (q : OK (F_J7_fill_53178 E a0 x1 h) Φ) : CE E mJ7_fill_53178 (d + 0) [.ref a0, .int x1] h 0 0 Φ := by
  show WE E mJ7_fill_53178 (d + 0) 0 [some (.ref a0), some (.int x1), none, none] [] h 0 0 Φ
  refine r_iconst (v := (0)) eJ7_fill_53178_0 (by decide) ?_
  refine r_istore_n (lv' := [_, _, _, _]) eJ7_fill_53178_1 (Nat.le_of_ble_eq_true rfl) rfl ?_
  refine r_aload_n eJ7_fill_53178_2 rfl ?_
  refine t_aln eJ7_fill_53178_3 (by decide) q (fun v3 q => ?_)
  refine r_istore_n (lv' := [_, _, _, _]) eJ7_fill_53178_4 (Nat.le_of_ble_eq_true rfl) rfl ?_
  exact sL_J7_fill_53178_5  _ _ _ q
theorem s_X4_start {E : Ev} {d : Nat} {a0 : Nat} {x1 : Int32} {h : Hp} {Φ : Ou → Hp → Prop} (q : OK (F_X4_start E a0 x1 h) Φ) : CE E mX4_start (d + 1) [.ref a0, .int x1] h 0 0 Φ := by
  show WE E mX4_start (d + 1) 0 [some (.ref a0), some (.int x1)] [] h 0 0 Φ
  refine r_aload_n eX4_start_0 rfl ?_
  refine t_gfR eX4_start_1 f_4_9 q (fun v1 q => ?_)
  refine r_iconst (v := (0)) eX4_start_4 (by decide) ?_
  refine t_statV (As := [_, _]) (rest := []) (d' := d + 0 + 0) eX4_start_5 k_4_41 rfl (by omega) (Nat.le_of_ble_eq_true rfl) (Nat.le_of_ble_eq_true rfl) (fun _ q => s_J7_fill_53178 q) q (fun h5 q => ?_)
  refine r_aload_n eX4_start_8 rfl ?_
  refine t_gfR eX4_start_9 f_4_9 q (fun v9 q => ?_)
  refine r_iload_n eX4_start_12 rfl ?_
  refine r_ldc eX4_start_13 g_4_47 ?_
  refine t_paI eX4_start_15 q (fun h15 q => ?_)
  exact t_rtV eX4_start_16 rfl q
theorem sL_X4_share_31 {E : Ev} {d kc ks : Nat} {Φ : Ou → Hp → Prop} {y0 : Nat} {y1 : Int32} {y2 : Nat} {y3 : Nat} {y4 : Int32} {y5 : Int32} {y6 : Int32}  : ∀ (g : Nat) (y7 : Int32) (h : Hp), OK (L_X4_share_31 E y0 y3 y4 y5 y6 g y7 h) Φ → WE E mX4_share (d + 3) 31 [some (.ref y0), some (.int y1), some (.ref y2), some (.ref y3), some (.int y4), some (.int y5), some (.int y6), some (.int y7)] [] h kc ks Φ := by
  intro g
  induction g with
  | zero => intro y7 h q; exact q.elim
  | succ g ih =>
    intro y7 h q
    refine r_iload eX4_share_31 rfl ?_
    refine r_iload eX4_share_33 rfl ?_
    refine t_icmp_ge eX4_share_35 (t := 72) (by decide) q (fun q => ?_) (fun q => ?_)
    · exact t_rtV eX4_share_72 rfl q
    refine r_aload_n eX4_share_38 rfl ?_
    refine r_aload_n eX4_share_39 rfl ?_
    refine t_gfR eX4_share_40 f_4_28 q (fun v40 q => ?_)
    refine r_iload eX4_share_43 rfl ?_
    refine t_gaI eX4_share_45 q (fun v45 q => ?_)
    refine r_dup2 eX4_share_46 rfl rfl ?_
    refine t_gaI eX4_share_47 q (fun v47 q => ?_)
    refine r_iload eX4_share_48 rfl ?_
    refine r_iload eX4_share_50 rfl ?_
    refine t_icmp_ge eX4_share_52 (t := 62) (by decide) q (fun q => ?_) (fun q => ?_)
    · refine r_iload eX4_share_62 rfl ?_
      refine r_iadd eX4_share_64 ?_
      refine t_paI eX4_share_65 q (fun h65 q => ?_)
      refine r_iinc (v := (1)) (lv' := [_, _, _, _, _, _, _, _]) eX4_share_66 rfl (by decide) rfl ?_
      refine r_goto (t := 31) eX4_share_69 (by decide) ?_
      exact ih _ _ q
    refine r_iload eX4_share_55 rfl ?_
    refine r_iconst (v := (1)) eX4_share_57 (by decide) ?_
    refine r_iadd eX4_share_58 ?_
    refine r_goto (t := 64) eX4_share_59 (by decide) ?_
    refine r_iadd eX4_share_64 ?_
    refine t_paI eX4_share_65 q (fun h65 q => ?_)
    refine r_iinc (v := (1)) (lv' := [_, _, _, _, _, _, _, _]) eX4_share_66 rfl (by decide) rfl ?_
    refine r_goto (t := 31) eX4_share_69 (by decide) ?_
    exact ih _ _ q
theorem s_X4_share {E : Ev} {d : Nat} {a0 : Nat} {x1 : Int32} {a2 : Nat} {a3 : Nat} {h : Hp} {Φ : Ou → Hp → Prop} (q : OK (F_X4_share E a0 x1 a2 a3 h) Φ) : CE E mX4_share (d + 3) [.ref a0, .int x1, .ref a2, .ref a3] h 0 0 Φ := by
  show WE E mX4_share (d + 3) 0 [some (.ref a0), some (.int x1), some (.ref a2), some (.ref a3), none, none, none, none] [] h 0 0 Φ
  refine r_aload_n eX4_share_0 rfl ?_
  refine r_aload_n eX4_share_1 rfl ?_
  refine t_gfR eX4_share_2 f_4_28 q (fun v2 q => ?_)
  refine t_virtI (As := [_]) (rest := []) (d' := d + 0 + 2) (ci := 6) eX4_share_5 k_4_52 rfl rfl rfl (by omega) (Nat.le_of_ble_eq_true rfl) (Nat.le_of_ble_eq_true rfl) (fun _ q => s_X6_list q) q (fun v5 h5 q => ?_)
  refine r_istore (lv' := [_, _, _, _, _, _, _, _]) eX4_share_8 (Nat.le_of_ble_eq_true rfl) rfl ?_
  refine r_iload eX4_share_10 rfl ?_
  refine t_if_ne eX4_share_12 (t := 16) (by decide) q (fun q => ?_) (fun q => ?_)
  · refine r_iload_n eX4_share_16 rfl ?_
    refine r_iload eX4_share_17 rfl ?_
    refine t_dvI eX4_share_19 q (fun v19 q => ?_)
    refine r_istore (lv' := [_, _, _, _, _, _, _, _]) eX4_share_20 (Nat.le_of_ble_eq_true rfl) rfl ?_
    refine r_iload_n eX4_share_22 rfl ?_
    refine r_iload eX4_share_23 rfl ?_
    refine t_rmI eX4_share_25 q (fun v25 q => ?_)
    refine r_istore (lv' := [_, _, _, _, _, _, _, _]) eX4_share_26 (Nat.le_of_ble_eq_true rfl) rfl ?_
    refine r_iconst (v := (0)) eX4_share_28 (by decide) ?_
    refine r_istore (lv' := [_, _, _, _, _, _, _, _]) eX4_share_29 (Nat.le_of_ble_eq_true rfl) rfl ?_
    exact sL_X4_share_31  _ _ _ q
  exact t_rtV eX4_share_15 rfl q
theorem s_X4_spread {E : Ev} {d : Nat} {a0 : Nat} {a1 : Nat} {h : Hp} {Φ : Ou → Hp → Prop} (q : OK (F_X4_spread E a0 a1 h) Φ) : CE E mX4_spread (d + 4) [.ref a0, .ref a1] h 0 0 Φ := by
  show WE E mX4_spread (d + 4) 0 [some (.ref a0), some (.ref a1)] [] h 0 0 Φ
  refine r_aload_n eX4_spread_0 rfl ?_
  refine t_gfR eX4_spread_1 f_4_9 q (fun v1 q => ?_)
  refine r_iconst (v := (0)) eX4_spread_4 (by decide) ?_
  refine t_statV (As := [_, _]) (rest := []) (d' := d + 3 + 0) eX4_spread_5 k_4_41 rfl (by omega) (Nat.le_of_ble_eq_true rfl) (Nat.le_of_ble_eq_true rfl) (fun _ q => s_J7_fill_53178 q) q (fun h5 q => ?_)
  refine r_aload_n eX4_spread_8 rfl ?_
  refine r_ldc eX4_spread_9 g_4_47 ?_
  refine r_aload_n eX4_spread_11 rfl ?_
  refine r_aload_n eX4_spread_12 rfl ?_
  refine t_gfR eX4_spread_13 f_4_9 q (fun v13 q => ?_)
  refine t_virtV (As := [_, _, _]) (rest := []) (d' := d + 0 + 3) (ci := 4) eX4_spread_16 k_4_48 rfl rfl rfl (by omega) (Nat.le_of_ble_eq_true rfl) (Nat.le_of_ble_eq_true rfl) (fun _ q => s_X4_share q) q (fun h16 q => ?_)
  exact t_rtV eX4_spread_19 rfl q
theorem sL_X4_goOn_78 {E : Ev} {d kc ks : Nat} {Φ : Ou → Hp → Prop} {y0 : Nat} {y1 : Int32} {y2 : Int32} {y3 : Int32} {y4 : Int32} {y5 : Int32} {K141 : Hp → Rs} (hK141 : ∀ (w6 : Int32) (h : Hp), OK (K141 h) Φ → WE E mX4_goOn (d + 6) 141 [some (.ref y0), some (.int y1), some (.int y2), some (.int y3), some (.int y4), some (.int y5), some (.int w6)] [] h kc ks Φ) : ∀ (g : Nat) (y6 : Int32) (h : Hp), OK (L_X4_goOn_78 E K141 y0 y4 g y6 h) Φ → WE E mX4_goOn (d + 6) 78 [some (.ref y0), some (.int y1), some (.int y2), some (.int y3), some (.int y4), some (.int y5), some (.int y6)] [] h kc ks Φ := by
  intro g
  induction g with
  | zero => intro y6 h q; exact q.elim
  | succ g ih =>
    intro y6 h q
    refine r_iload eX4_goOn_78 rfl ?_
    refine r_iconst (v := (4)) eX4_goOn_80 (by decide) ?_
    refine t_icmp_ge eX4_goOn_81 (t := 141) (by decide) q (fun q => ?_) (fun q => ?_)
    · exact hK141 _ _ q
    refine r_aload_n eX4_goOn_84 rfl ?_
    refine t_gfR eX4_goOn_85 f_4_37 q (fun v85 q => ?_)
    refine t_gfR eX4_goOn_88 f_4_55 q (fun v88 q => ?_)
    refine t_gfR eX4_goOn_91 f_4_69 q (fun v91 q => ?_)
    refine r_iload eX4_goOn_94 rfl ?_
    refine r_iload eX4_goOn_96 rfl ?_
    refine r_iadd eX4_goOn_98 ?_
    refine t_gaI eX4_goOn_99 q (fun v99 q => ?_)
    refine t_if_eq eX4_goOn_100 (t := 141) (by decide) q (fun q => ?_) (fun q => ?_)
    · exact hK141 _ _ q
    refine r_aload_n eX4_goOn_103 rfl ?_
    refine t_gfR eX4_goOn_104 f_4_37 q (fun v104 q => ?_)
    refine r_aload_n eX4_goOn_107 rfl ?_
    refine t_gfR eX4_goOn_108 f_4_37 q (fun v108 q => ?_)
    refine t_gfR eX4_goOn_111 f_4_55 q (fun v111 q => ?_)
    refine t_gfR eX4_goOn_114 f_4_69 q (fun v114 q => ?_)
    refine r_iload eX4_goOn_117 rfl ?_
    refine r_iload eX4_goOn_119 rfl ?_
    refine r_iadd eX4_goOn_121 ?_
    refine t_gaI eX4_goOn_122 q (fun v122 q => ?_)
    refine r_aload_n eX4_goOn_123 rfl ?_
    refine t_gfR eX4_goOn_124 f_4_18 q (fun v124 q => ?_)
    refine r_iconst (v := (1)) eX4_goOn_127 (by decide) ?_
    refine r_aload_n eX4_goOn_128 rfl ?_
    refine t_gfR eX4_goOn_129 f_4_24 q (fun v129 q => ?_)
    refine t_virtV (As := [_, _, _, _]) (rest := []) (d' := d + 0 + 5) (ci := 9) eX4_goOn_132 k_4_72 rfl rfl rfl (by omega) (Nat.le_of_ble_eq_true rfl) (Nat.le_of_ble_eq_true rfl) (fun _ q => s_X9_lead q) q (fun h132 q => ?_)
    refine r_iinc (v := (1)) (lv' := [_, _, _, _, _, _, _]) eX4_goOn_135 rfl (by decide) rfl ?_
    refine r_goto (t := 78) eX4_goOn_138 (by decide) ?_
    exact ih _ _ q
theorem sJ_X4_goOn_141 {E : Ev} {d kc ks : Nat} {Φ : Ou → Hp → Prop} {y0 : Nat} {y1 : Int32} {y2 : Int32} {y3 : Int32} {y4 : Int32} {y5 : Int32} {y6 : Int32} {h : Hp} {K39 : Int32 → Hp → Rs} (hK39 : ∀ (w5 : Int32) (w6 : Option Value) (h : Hp), OK (K39 w5 h) Φ → WE E mX4_goOn (d + 6) 39 [some (.ref y0), some (.int y1), some (.int y2), some (.int y3), some (.int y4), some (.int w5), w6] [] h kc ks Φ) (q : OK (J_X4_goOn_141 E K39 y0 y4 y5 h) Φ) : WE E mX4_goOn (d + 6) 141 [some (.ref y0), some (.int y1), some (.int y2), some (.int y3), some (.int y4), some (.int y5), some (.int y6)] [] h kc ks Φ := by
  refine r_aload_n eX4_goOn_141 rfl ?_
  refine r_aload_n eX4_goOn_142 rfl ?_
  refine t_gfR eX4_goOn_143 f_4_9 q (fun v143 q => ?_)
  refine r_iload eX4_goOn_146 rfl ?_
  refine t_gaI eX4_goOn_148 q (fun v148 q => ?_)
  refine r_aload_n eX4_goOn_149 rfl ?_
  refine t_gfR eX4_goOn_150 f_4_24 q (fun v150 q => ?_)
  refine r_aload_n eX4_goOn_153 rfl ?_
  refine t_gfR eX4_goOn_154 f_4_15 q (fun v154 q => ?_)
  refine t_virtV (As := [_, _, _]) (rest := []) (d' := d + 2 + 3) (ci := 4) eX4_goOn_157 k_4_48 rfl rfl rfl (by omega) (Nat.le_of_ble_eq_true rfl) (Nat.le_of_ble_eq_true rfl) (fun _ q => s_X4_share q) q (fun h157 q => ?_)
  refine r_iinc (v := (1)) (lv' := [_, _, _, _, _, _, _]) eX4_goOn_160 rfl (by decide) rfl ?_
  refine r_goto (t := 39) eX4_goOn_163 (by decide) ?_
  exact hK39 _ _ _ q
theorem sL_X4_goOn_39 {E : Ev} {d kc ks : Nat} {Φ : Ou → Hp → Prop} {y0 : Nat} {y1 : Int32} {y2 : Int32} {y3 : Int32} {y4 : Int32} {K166 : Hp → Rs} (hK166 : ∀ (w5 : Int32) (w6 : Option Value) (h : Hp), OK (K166 h) Φ → WE E mX4_goOn (d + 6) 166 [some (.ref y0), some (.int y1), some (.int y2), some (.int y3), some (.int y4), some (.int w5), w6] [] h kc ks Φ) : ∀ (g : Nat) (y5 : Int32) (y6 : Option Value) (h : Hp), OK (L_X4_goOn_39 E K166 y0 y4 g y5 h) Φ → WE E mX4_goOn (d + 6) 39 [some (.ref y0), some (.int y1), some (.int y2), some (.int y3), some (.int y4), some (.int y5), y6] [] h kc ks Φ := by
  intro g
  induction g with
  | zero => intro y5 y6 h q; exact q.elim
  | succ g ih =>
    intro y5 y6 h q
    refine r_iload eX4_goOn_39 rfl ?_
    refine r_sipush (v := (240)) eX4_goOn_41 (by decide) ?_
    refine t_icmp_ge eX4_goOn_44 (t := 166) (by decide) q (fun q => ?_) (fun q => ?_)
    · exact hK166 _ _ _ q
    refine r_aload_n eX4_goOn_47 rfl ?_
    refine t_gfR eX4_goOn_48 f_4_9 q (fun v48 q => ?_)
    refine r_iload eX4_goOn_51 rfl ?_
    refine t_gaI eX4_goOn_53 q (fun v53 q => ?_)
    refine t_if_ne eX4_goOn_54 (t := 60) (by decide) q (fun q => ?_) (fun q => ?_)
    · refine r_aload_n eX4_goOn_60 rfl ?_
      refine t_gfR eX4_goOn_61 f_4_18 q (fun v61 q => ?_)
      refine r_iconst (v := (0)) eX4_goOn_64 (by decide) ?_
      refine r_iload eX4_goOn_65 rfl ?_
      refine t_paI eX4_goOn_67 q (fun h67 q => ?_)
      refine r_aload_n eX4_goOn_68 rfl ?_
      refine t_gfR eX4_goOn_69 f_4_24 q (fun v69 q => ?_)
      refine t_virtV (As := []) (rest := []) (d' := d + 4 + 1) (ci := 6) eX4_goOn_72 k_4_66 rfl rfl rfl (by omega) (Nat.le_of_ble_eq_true rfl) (Nat.le_of_ble_eq_true rfl) (fun _ q => s_X6_clear q) q (fun h72 q => ?_)
      refine r_iconst (v := (0)) eX4_goOn_75 (by decide) ?_
      refine r_istore (lv' := [_, _, _, _, _, _, _]) eX4_goOn_76 (Nat.le_of_ble_eq_true rfl) rfl ?_
      refine sL_X4_goOn_78 (fun w1 h2 q => ?_) _ _ _ q
      refine sJ_X4_goOn_141 (fun w3 w4 h5 q => ?_) q
      exact ih _ _ _ q
    refine r_goto (t := 160) eX4_goOn_57 (by decide) ?_
    refine r_iinc (v := (1)) (lv' := [_, _, _, _, _, _, _]) eX4_goOn_160 rfl (by decide) rfl ?_
    refine r_goto (t := 39) eX4_goOn_163 (by decide) ?_
    exact ih _ _ _ q
theorem sL_X4_goOn_2 {E : Ev} {d kc ks : Nat} {Φ : Ou → Hp → Prop} {y0 : Nat} {y1 : Int32} {y2 : Int32}  : ∀ (g : Nat) (y3 : Int32) (y4 : Option Value) (y5 : Option Value) (y6 : Option Value) (h : Hp), OK (L_X4_goOn_2 E y0 y1 g y3 h) Φ → WE E mX4_goOn (d + 6) 2 [some (.ref y0), some (.int y1), some (.int y2), some (.int y3), y4, y5, y6] [] h kc ks Φ := by
  intro g
  induction g with
  | zero => intro y3 y4 y5 y6 h q; exact q.elim
  | succ g ih =>
    intro y3 y4 y5 y6 h q
    refine r_iload_n eX4_goOn_2 rfl ?_
    refine r_aload_n eX4_goOn_3 rfl ?_
    refine t_gfR eX4_goOn_4 f_4_37 q (fun v4 q => ?_)
    refine t_gfR eX4_goOn_7 f_4_55 q (fun v7 q => ?_)
    refine t_gfR eX4_goOn_10 f_4_61 q (fun v10 q => ?_)
    refine r_iload_n eX4_goOn_13 rfl ?_
    refine t_gaI eX4_goOn_14 q (fun v14 q => ?_)
    refine t_icmp_ge eX4_goOn_15 (t := 192) (by decide) q (fun q => ?_) (fun q => ?_)
    · exact t_rtV eX4_goOn_192 rfl q
    refine r_iload_n eX4_goOn_18 rfl ?_
    refine r_bipush (v := (40)) eX4_goOn_19 (by decide) ?_
    refine r_imul eX4_goOn_21 ?_
    refine r_iload_n eX4_goOn_22 rfl ?_
    refine r_iconst (v := (4)) eX4_goOn_23 (by decide) ?_
    refine r_imul eX4_goOn_24 ?_
    refine r_iadd eX4_goOn_25 ?_
    replace q := OK_lt q
    refine r_istore (lv' := [_, _, _, _, _, _, _]) eX4_goOn_26 (Nat.le_of_ble_eq_true rfl) rfl ?_
    refine r_aload_n eX4_goOn_28 rfl ?_
    refine t_gfR eX4_goOn_29 f_4_15 q (fun v29 q => ?_)
    refine r_iconst (v := (0)) eX4_goOn_32 (by decide) ?_
    refine t_statV (As := [_, _]) (rest := []) (d' := d + 5 + 0) eX4_goOn_33 k_4_41 rfl (by omega) (Nat.le_of_ble_eq_true rfl) (Nat.le_of_ble_eq_true rfl) (fun _ q => s_J7_fill_53178 q) q (fun h33 q => ?_)
    refine r_iconst (v := (0)) eX4_goOn_36 (by decide) ?_
    refine r_istore (lv' := [_, _, _, _, _, _, _]) eX4_goOn_37 (Nat.le_of_ble_eq_true rfl) rfl ?_
    refine sL_X4_goOn_39 (fun w2 w3 h4 q => ?_) _ _ _ _ q
    refine r_aload_n eX4_goOn_166 rfl ?_
    refine t_gfR eX4_goOn_167 f_4_9 q (fun v167 q => ?_)
    refine r_astore (lv' := [_, _, _, _, _, _, _]) eX4_goOn_170 (Nat.le_of_ble_eq_true rfl) rfl ?_
    refine r_aload_n eX4_goOn_172 rfl ?_
    refine r_aload_n eX4_goOn_173 rfl ?_
    refine t_gfR eX4_goOn_174 f_4_15 q (fun v174 q => ?_)
    refine t_pf eX4_goOn_177 p_4_9 rfl rfl (fun q => by cases q) q (fun h177 q => ?_)
    refine r_aload_n eX4_goOn_180 rfl ?_
    refine r_aload eX4_goOn_181 rfl ?_
    refine t_pf eX4_goOn_183 p_4_15 rfl rfl (fun q => by cases q) q (fun h183 q => ?_)
    refine r_iinc (v := (1)) (lv' := [_, _, _, _, _, _, _]) eX4_goOn_186 rfl (by decide) rfl ?_
    refine r_goto (t := 2) eX4_goOn_189 (by decide) ?_
    exact ih _ _ _ _ _ q
theorem s_X4_goOn {E : Ev} {d : Nat} {a0 : Nat} {x1 : Int32} {x2 : Int32} {h : Hp} {Φ : Ou → Hp → Prop} (q : OK (F_X4_goOn E a0 x1 x2 h) Φ) : CE E mX4_goOn (d + 6) [.ref a0, .int x1, .int x2] h 0 0 Φ := by
  show WE E mX4_goOn (d + 6) 0 [some (.ref a0), some (.int x1), some (.int x2), none, none, none, none] [] h 0 0 Φ
  refine r_iload_n eX4_goOn_0 rfl ?_
  refine r_istore_n (lv' := [_, _, _, _, _, _, _]) eX4_goOn_1 (Nat.le_of_ble_eq_true rfl) rfl ?_
  exact sL_X4_goOn_2  _ _ _ _ _ _ q
theorem sL_X4_partsAt_4 {E : Ev} {d kc ks : Nat} {Φ : Ou → Hp → Prop} {y0 : Nat} {y1 : Int32}  : ∀ (g : Nat) (y2 : Int32) (y3 : Int32) (h : Hp), OK (L_X4_partsAt_4 E y0 y1 g y2 y3 h) Φ → WE E mX4_partsAt (d + 0) 4 [some (.ref y0), some (.int y1), some (.int y2), some (.int y3)] [] h kc ks Φ := by
  intro g
  induction g with
  | zero => intro y2 y3 h q; exact q.elim
  | succ g ih =>
    intro y2 y3 h q
    refine r_iload_n eX4_partsAt_4 rfl ?_
    refine r_iconst (v := (4)) eX4_partsAt_5 (by decide) ?_
    refine r_aload_n eX4_partsAt_6 rfl ?_
    refine t_gfR eX4_partsAt_7 f_4_37 q (fun v7 q => ?_)
    refine t_gfR eX4_partsAt_10 f_4_76 q (fun v10 q => ?_)
    refine t_gfR eX4_partsAt_13 f_4_80 q (fun v13 q => ?_)
    refine t_gfI eX4_partsAt_16 f_4_86 q (fun v16 q => ?_)
    refine r_imul eX4_partsAt_19 ?_
    refine t_icmp_ge eX4_partsAt_20 (t := 57) (by decide) q (fun q => ?_) (fun q => ?_)
    · refine r_iload_n eX4_partsAt_57 rfl ?_
      exact t_rtI eX4_partsAt_58 rfl q
    refine r_aload_n eX4_partsAt_23 rfl ?_
    refine t_gfR eX4_partsAt_24 f_4_37 q (fun v24 q => ?_)
    refine t_gfR eX4_partsAt_27 f_4_76 q (fun v27 q => ?_)
    refine t_gfR eX4_partsAt_30 f_4_80 q (fun v30 q => ?_)
    refine t_gfR eX4_partsAt_33 f_4_92 q (fun v33 q => ?_)
    refine r_iload_n eX4_partsAt_36 rfl ?_
    refine t_gaI eX4_partsAt_37 q (fun v37 q => ?_)
    refine r_iload_n eX4_partsAt_38 rfl ?_
    refine t_icmp_ne eX4_partsAt_39 (t := 51) (by decide) q (fun q => ?_) (fun q => ?_)
    · refine r_iinc (v := (1)) (lv' := [_, _, _, _]) eX4_partsAt_51 rfl (by decide) rfl ?_
      refine r_goto (t := 4) eX4_partsAt_54 (by decide) ?_
      exact ih _ _ _ q
    refine r_iload_n eX4_partsAt_42 rfl ?_
    refine r_aload_n eX4_partsAt_43 rfl ?_
    refine t_gfR eX4_partsAt_44 f_4_9 q (fun v44 q => ?_)
    refine r_iload_n eX4_partsAt_47 rfl ?_
    refine t_gaI eX4_partsAt_48 q (fun v48 q => ?_)
    refine r_iadd eX4_partsAt_49 ?_
    refine r_istore_n (lv' := [_, _, _, _]) eX4_partsAt_50 (Nat.le_of_ble_eq_true rfl) rfl ?_
    refine r_iinc (v := (1)) (lv' := [_, _, _, _]) eX4_partsAt_51 rfl (by decide) rfl ?_
    refine r_goto (t := 4) eX4_partsAt_54 (by decide) ?_
    exact ih _ _ _ q
theorem s_X4_partsAt {E : Ev} {d : Nat} {a0 : Nat} {x1 : Int32} {h : Hp} {Φ : Ou → Hp → Prop} (q : OK (F_X4_partsAt E a0 x1 h) Φ) : CE E mX4_partsAt (d + 0) [.ref a0, .int x1] h 0 0 Φ := by
  show WE E mX4_partsAt (d + 0) 0 [some (.ref a0), some (.int x1), none, none] [] h 0 0 Φ
  refine r_iconst (v := (0)) eX4_partsAt_0 (by decide) ?_
  refine r_istore_n (lv' := [_, _, _, _]) eX4_partsAt_1 (Nat.le_of_ble_eq_true rfl) rfl ?_
  refine r_iconst (v := (0)) eX4_partsAt_2 (by decide) ?_
  refine r_istore_n (lv' := [_, _, _, _]) eX4_partsAt_3 (Nat.le_of_ble_eq_true rfl) rfl ?_
  exact sL_X4_partsAt_4  _ _ _ _ q
theorem sL_X4_sumUp_7 {E : Ev} {d kc ks : Nat} {Φ : Ou → Hp → Prop} {y0 : Nat} {y1 : Nat}  : ∀ (g : Nat) (y2 : Int32) (h : Hp), OK (L_X4_sumUp_7 E y0 y1 g y2 h) Φ → WE E mX4_sumUp (d + 1) 7 [some (.ref y0), some (.ref y1), some (.int y2)] [] h kc ks Φ := by
  intro g
  induction g with
  | zero => intro y2 h q; exact q.elim
  | succ g ih =>
    intro y2 h q
    refine r_iload_n eX4_sumUp_7 rfl ?_
    refine r_iconst (v := (4)) eX4_sumUp_8 (by decide) ?_
    refine r_aload_n eX4_sumUp_9 rfl ?_
    refine t_gfR eX4_sumUp_10 f_4_37 q (fun v10 q => ?_)
    refine t_gfR eX4_sumUp_13 f_4_76 q (fun v13 q => ?_)
    refine t_gfR eX4_sumUp_16 f_4_80 q (fun v16 q => ?_)
    refine t_gfI eX4_sumUp_19 f_4_86 q (fun v19 q => ?_)
    refine r_imul eX4_sumUp_22 ?_
    refine t_icmp_ge eX4_sumUp_23 (t := 58) (by decide) q (fun q => ?_) (fun q => ?_)
    · exact t_rtV eX4_sumUp_58 rfl q
    refine r_aload_n eX4_sumUp_26 rfl ?_
    refine r_aload_n eX4_sumUp_27 rfl ?_
    refine t_gfR eX4_sumUp_28 f_4_37 q (fun v28 q => ?_)
    refine t_gfR eX4_sumUp_31 f_4_76 q (fun v31 q => ?_)
    refine t_gfR eX4_sumUp_34 f_4_80 q (fun v34 q => ?_)
    refine t_gfR eX4_sumUp_37 f_4_92 q (fun v37 q => ?_)
    refine r_iload_n eX4_sumUp_40 rfl ?_
    refine t_gaI eX4_sumUp_41 q (fun v41 q => ?_)
    refine r_dup2 eX4_sumUp_42 rfl rfl ?_
    refine t_gaI eX4_sumUp_43 q (fun v43 q => ?_)
    refine r_aload_n eX4_sumUp_44 rfl ?_
    refine t_gfR eX4_sumUp_45 f_4_9 q (fun v45 q => ?_)
    refine r_iload_n eX4_sumUp_48 rfl ?_
    refine t_gaI eX4_sumUp_49 q (fun v49 q => ?_)
    refine r_iadd eX4_sumUp_50 ?_
    refine t_paI eX4_sumUp_51 q (fun h51 q => ?_)
    refine r_iinc (v := (1)) (lv' := [_, _, _]) eX4_sumUp_52 rfl (by decide) rfl ?_
    refine r_goto (t := 7) eX4_sumUp_55 (by decide) ?_
    exact ih _ _ q
theorem s_X4_sumUp {E : Ev} {d : Nat} {a0 : Nat} {a1 : Nat} {h : Hp} {Φ : Ou → Hp → Prop} (q : OK (F_X4_sumUp E a0 a1 h) Φ) : CE E mX4_sumUp (d + 1) [.ref a0, .ref a1] h 0 0 Φ := by
  show WE E mX4_sumUp (d + 1) 0 [some (.ref a0), some (.ref a1), none] [] h 0 0 Φ
  refine r_aload_n eX4_sumUp_0 rfl ?_
  refine r_iconst (v := (0)) eX4_sumUp_1 (by decide) ?_
  refine t_statV (As := [_, _]) (rest := []) (d' := d + 0 + 0) eX4_sumUp_2 k_4_41 rfl (by omega) (Nat.le_of_ble_eq_true rfl) (Nat.le_of_ble_eq_true rfl) (fun _ q => s_J7_fill_53178 q) q (fun h2 q => ?_)
  refine r_iconst (v := (0)) eX4_sumUp_5 (by decide) ?_
  refine r_istore_n (lv' := [_, _, _]) eX4_sumUp_6 (Nat.le_of_ble_eq_true rfl) rfl ?_
  exact sL_X4_sumUp_7  _ _ _ q
theorem sL_X4_meet_45 {E : Ev} {d kc ks : Nat} {Φ : Ou → Hp → Prop} {y0 : Nat} {y1 : Int32} {y2 : Int32} {y3 : Int32} {y4 : Int32}  : ∀ (g : Nat) (y5 : Int64) (y7 : Int32) (h : Hp), OK (L_X4_meet_45 E y0 g y5 y7 h) Φ → WE E mX4_meet (d + 7) 45 [some (.ref y0), some (.int y1), some (.int y2), some (.int y3), some (.int y4), some (.long y5), none, some (.int y7)] [] h kc ks Φ := by
  intro g
  induction g with
  | zero => intro y5 y7 h q; exact q.elim
  | succ g ih =>
    intro y5 y7 h q
    refine r_iload eX4_meet_45 rfl ?_
    refine r_bipush (v := (40)) eX4_meet_47 (by decide) ?_
    refine t_icmp_ge eX4_meet_49 (t := 84) (by decide) q (fun q => ?_) (fun q => ?_)
    · refine r_lload eX4_meet_84 rfl ?_
      refine r_l2i eX4_meet_86 ?_
      exact t_rtI eX4_meet_87 rfl q
    refine r_lload eX4_meet_52 rfl ?_
    refine r_aload_n eX4_meet_54 rfl ?_
    refine t_gfR eX4_meet_55 f_4_31 q (fun v55 q => ?_)
    refine r_iload eX4_meet_58 rfl ?_
    refine t_gaI eX4_meet_60 q (fun v60 q => ?_)
    refine r_i2l eX4_meet_61 ?_
    refine r_aload_n eX4_meet_62 rfl ?_
    refine t_gfR eX4_meet_63 f_4_34 q (fun v63 q => ?_)
    refine r_iload eX4_meet_66 rfl ?_
    refine t_gaI eX4_meet_68 q (fun v68 q => ?_)
    refine r_i2l eX4_meet_69 ?_
    refine r_lmul eX4_meet_70 ?_
    refine r_ldc2 eX4_meet_71 g_4_107 ?_
    refine t_dvL eX4_meet_74 q (fun v74 q => ?_)
    refine r_ladd eX4_meet_75 ?_
    refine r_lstore (lv' := [_, _, _, _, _, _, _, _]) eX4_meet_76 (Nat.le_of_ble_eq_true rfl) rfl ?_
    refine r_iinc (v := (1)) (lv' := [_, _, _, _, _, _, _, _]) eX4_meet_78 rfl (by decide) rfl ?_
    refine r_goto (t := 45) eX4_meet_81 (by decide) ?_
    exact ih _ _ _ q
theorem s_X4_meet {E : Ev} {d : Nat} {a0 : Nat} {x1 : Int32} {x2 : Int32} {x3 : Int32} {x4 : Int32} {h : Hp} {Φ : Ou → Hp → Prop} (q : OK (F_X4_meet E a0 x1 x2 x3 x4 h) Φ) : CE E mX4_meet (d + 7) [.ref a0, .int x1, .int x2, .int x3, .int x4] h 0 0 Φ := by
  show WE E mX4_meet (d + 7) 0 [some (.ref a0), some (.int x1), some (.int x2), some (.int x3), some (.int x4), none, none, none] [] h 0 0 Φ
  refine r_aload_n eX4_meet_0 rfl ?_
  refine r_iload_n eX4_meet_1 rfl ?_
  refine t_virtV (As := [_]) (rest := []) (d' := d + 5 + 1) (ci := 4) eX4_meet_2 k_4_95 rfl rfl rfl (by omega) (Nat.le_of_ble_eq_true rfl) (Nat.le_of_ble_eq_true rfl) (fun _ q => s_X4_start q) q (fun h2 q => ?_)
  refine r_aload_n eX4_meet_5 rfl ?_
  refine r_iload_n eX4_meet_6 rfl ?_
  refine r_iconst (v := (0)) eX4_meet_7 (by decide) ?_
  refine t_virtV (As := [_, _]) (rest := []) (d' := d + 0 + 6) (ci := 4) eX4_meet_8 k_4_99 rfl rfl rfl (by omega) (Nat.le_of_ble_eq_true rfl) (Nat.le_of_ble_eq_true rfl) (fun _ q => s_X4_goOn q) q (fun h8 q => ?_)
  refine r_aload_n eX4_meet_11 rfl ?_
  refine r_aload_n eX4_meet_12 rfl ?_
  refine t_gfR eX4_meet_13 f_4_31 q (fun v13 q => ?_)
  refine t_virtV (As := [_]) (rest := []) (d' := d + 5 + 1) (ci := 4) eX4_meet_16 k_4_103 rfl rfl rfl (by omega) (Nat.le_of_ble_eq_true rfl) (Nat.le_of_ble_eq_true rfl) (fun _ q => s_X4_sumUp q) q (fun h16 q => ?_)
  refine r_aload_n eX4_meet_19 rfl ?_
  refine r_iload eX4_meet_20 rfl ?_
  refine t_virtV (As := [_]) (rest := []) (d' := d + 5 + 1) (ci := 4) eX4_meet_22 k_4_95 rfl rfl rfl (by omega) (Nat.le_of_ble_eq_true rfl) (Nat.le_of_ble_eq_true rfl) (fun _ q => s_X4_start q) q (fun h22 q => ?_)
  refine r_aload_n eX4_meet_25 rfl ?_
  refine r_iload_n eX4_meet_26 rfl ?_
  refine r_iconst (v := (0)) eX4_meet_27 (by decide) ?_
  refine t_virtV (As := [_, _]) (rest := []) (d' := d + 0 + 6) (ci := 4) eX4_meet_28 k_4_99 rfl rfl rfl (by omega) (Nat.le_of_ble_eq_true rfl) (Nat.le_of_ble_eq_true rfl) (fun _ q => s_X4_goOn q) q (fun h28 q => ?_)
  refine r_aload_n eX4_meet_31 rfl ?_
  refine r_aload_n eX4_meet_32 rfl ?_
  refine t_gfR eX4_meet_33 f_4_34 q (fun v33 q => ?_)
  refine t_virtV (As := [_]) (rest := []) (d' := d + 5 + 1) (ci := 4) eX4_meet_36 k_4_103 rfl rfl rfl (by omega) (Nat.le_of_ble_eq_true rfl) (Nat.le_of_ble_eq_true rfl) (fun _ q => s_X4_sumUp q) q (fun h36 q => ?_)
  refine r_lconst (v := 0) eX4_meet_39 rfl ?_
  refine r_lstore (lv' := [_, _, _, _, _, _, _, _]) eX4_meet_40 (Nat.le_of_ble_eq_true rfl) rfl ?_
  refine r_iconst (v := (0)) eX4_meet_42 (by decide) ?_
  refine r_istore (lv' := [_, _, _, _, _, _, _, _]) eX4_meet_43 (Nat.le_of_ble_eq_true rfl) rfl ?_
  exact sL_X4_meet_45  _ _ _ _ q
theorem sL_X5_put_3 {E : Ev} {d kc ks : Nat} {Φ : Ou → Hp → Prop} {y0 : Nat} {y1 : Int32}  : ∀ (g : Nat) (y2 : Int32) (h : Hp), OK (L_X5_put_3 E y0 y1 g y2 h) Φ → WE E mX5_put (d + 0) 3 [some (.ref y0), some (.int y1), some (.int y2)] [] h kc ks Φ := by
  intro g
  induction g with
  | zero => intro y2 h q; exact q.elim
  | succ g ih =>
    intro y2 h q
    refine r_iload_n eX5_put_3 rfl ?_
    refine t_if_lt eX5_put_4 (t := 46) (by decide) q (fun q => ?_) (fun q => ?_)
    · exact t_rtV eX5_put_46 rfl q
    refine r_aload_n eX5_put_7 rfl ?_
    refine t_gfI eX5_put_8 f_5_23 q (fun v8 q => ?_)
    refine r_sipush (v := (200)) eX5_put_11 (by decide) ?_
    refine t_icmp_ge eX5_put_14 (t := 46) (by decide) q (fun q => ?_) (fun q => ?_)
    · exact t_rtV eX5_put_46 rfl q
    refine r_aload_n eX5_put_17 rfl ?_
    refine t_gfR eX5_put_18 f_5_9 q (fun v18 q => ?_)
    refine r_aload_n eX5_put_21 rfl ?_
    refine t_gfI eX5_put_22 f_5_23 q (fun v22 q => ?_)
    refine r_iload_n eX5_put_25 rfl ?_
    refine r_iload_n eX5_put_26 rfl ?_
    refine r_ishr eX5_put_27 ?_
    refine r_i2b eX5_put_28 ?_
    refine t_paB eX5_put_29 q (fun h29 q => ?_)
    refine r_aload_n eX5_put_30 rfl ?_
    refine r_dup eX5_put_31 rfl ?_
    refine t_gfI eX5_put_32 f_5_23 q (fun v32 q => ?_)
    refine r_iconst (v := (1)) eX5_put_35 (by decide) ?_
    refine r_iadd eX5_put_36 ?_
    refine t_pf eX5_put_37 p_5_23 rfl rfl (fun q => by cases q) q (fun h37 q => ?_)
    refine r_iinc (v := (-8)) (lv' := [_, _, _]) eX5_put_40 rfl (by decide) rfl ?_
    refine r_goto (t := 3) eX5_put_43 (by decide) ?_
    exact ih _ _ q
theorem s_X5_put {E : Ev} {d : Nat} {a0 : Nat} {x1 : Int32} {h : Hp} {Φ : Ou → Hp → Prop} (q : OK (F_X5_put E a0 x1 h) Φ) : CE E mX5_put (d + 0) [.ref a0, .int x1] h 0 0 Φ := by
  show WE E mX5_put (d + 0) 0 [some (.ref a0), some (.int x1), none] [] h 0 0 Φ
  refine r_bipush (v := (24)) eX5_put_0 (by decide) ?_
  refine r_istore_n (lv' := [_, _, _]) eX5_put_2 (Nat.le_of_ble_eq_true rfl) rfl ?_
  exact sL_X5_put_3  _ _ _ q
theorem sJ_X5_scanNumber_82 {E : Ev} {d kc ks : Nat} {Φ : Ou → Hp → Prop} {y0 : Nat} {y1 : Int32} {t0 : Nat} {t1 : Int32} {h : Hp} {K5 : Hp → Rs} (hK5 : ∀  (h : Hp), OK (K5 h) Φ → WE E mX5_scanNumber (d + 0) 5 [some (.ref y0), some (.int y1)] [] h kc ks Φ) (q : OK (J_X5_scanNumber_82 E K5 y0 y1 t0 t1 h) Φ) : WE E mX5_scanNumber (d + 0) 82 [some (.ref y0), some (.int y1)] [.int t1, .ref t0] h kc ks Φ := by
  refine t_pf eX5_scanNumber_82 p_5_67 rfl rfl (fun q => by cases q) q (fun h82 q => ?_)
  refine r_aload_n eX5_scanNumber_85 rfl ?_
  refine r_dup eX5_scanNumber_86 rfl ?_
  refine t_gfI eX5_scanNumber_87 f_5_35 q (fun v87 q => ?_)
  refine r_iconst (v := (1)) eX5_scanNumber_90 (by decide) ?_
  refine r_iadd eX5_scanNumber_91 ?_
  refine t_pf eX5_scanNumber_92 p_5_35 rfl rfl (fun q => by cases q) q (fun h92 q => ?_)
  refine r_goto (t := 5) eX5_scanNumber_95 (by decide) ?_
  exact hK5 _ q
theorem sL_X5_scanNumber_5 {E : Ev} {d kc ks : Nat} {Φ : Ou → Hp → Prop} {y0 : Nat} {y1 : Int32} {K98 : Hp → Rs} (hK98 : ∀  (h : Hp), OK (K98 h) Φ → WE E mX5_scanNumber (d + 0) 98 [some (.ref y0), some (.int y1)] [] h kc ks Φ) : ∀ (g : Nat)  (h : Hp), OK (L_X5_scanNumber_5 E K98 y0 y1 g h) Φ → WE E mX5_scanNumber (d + 0) 5 [some (.ref y0), some (.int y1)] [] h kc ks Φ := by
  intro g
  induction g with
  | zero => intro  h q; exact q.elim
  | succ g ih =>
    intro  h q
    refine r_aload_n eX5_scanNumber_5 rfl ?_
    refine t_gfI eX5_scanNumber_6 f_5_35 q (fun v6 q => ?_)
    refine r_iload_n eX5_scanNumber_9 rfl ?_
    refine t_icmp_ge eX5_scanNumber_10 (t := 98) (by decide) q (fun q => ?_) (fun q => ?_)
    · exact hK98 _ q
    refine r_aload_n eX5_scanNumber_13 rfl ?_
    refine t_gfR eX5_scanNumber_14 f_5_9 q (fun v14 q => ?_)
    refine r_aload_n eX5_scanNumber_17 rfl ?_
    refine t_gfI eX5_scanNumber_18 f_5_35 q (fun v18 q => ?_)
    refine t_gaB eX5_scanNumber_21 q (fun v21 q => ?_)
    refine r_bipush (v := (48)) eX5_scanNumber_22 (by decide) ?_
    refine t_icmp_lt eX5_scanNumber_24 (t := 98) (by decide) q (fun q => ?_) (fun q => ?_)
    · exact hK98 _ q
    refine r_aload_n eX5_scanNumber_27 rfl ?_
    refine t_gfR eX5_scanNumber_28 f_5_9 q (fun v28 q => ?_)
    refine r_aload_n eX5_scanNumber_31 rfl ?_
    refine t_gfI eX5_scanNumber_32 f_5_35 q (fun v32 q => ?_)
    refine t_gaB eX5_scanNumber_35 q (fun v35 q => ?_)
    refine r_bipush (v := (57)) eX5_scanNumber_36 (by decide) ?_
    refine t_icmp_gt eX5_scanNumber_38 (t := 98) (by decide) q (fun q => ?_) (fun q => ?_)
    · exact hK98 _ q
    refine r_aload_n eX5_scanNumber_41 rfl ?_
    refine r_aload_n eX5_scanNumber_42 rfl ?_
    refine t_gfI eX5_scanNumber_43 f_5_35 q (fun v43 q => ?_)
    refine r_aload_n eX5_scanNumber_46 rfl ?_
    refine t_gfI eX5_scanNumber_47 f_5_58 q (fun v47 q => ?_)
    refine r_isub eX5_scanNumber_50 ?_
    refine r_iconst (v := (2)) eX5_scanNumber_51 (by decide) ?_
    refine t_icmp_ge eX5_scanNumber_52 (t := 78) (by decide) q (fun q => ?_) (fun q => ?_)
    · refine r_aload_n eX5_scanNumber_78 rfl ?_
      refine t_gfI eX5_scanNumber_79 f_5_67 q (fun v79 q => ?_)
      refine sJ_X5_scanNumber_82 (fun h1 q => ?_) q
      exact ih _ q
    refine r_bipush (v := (10)) eX5_scanNumber_55 (by decide) ?_
    refine r_aload_n eX5_scanNumber_57 rfl ?_
    refine t_gfI eX5_scanNumber_58 f_5_67 q (fun v58 q => ?_)
    refine r_imul eX5_scanNumber_61 ?_
    refine r_aload_n eX5_scanNumber_62 rfl ?_
    refine t_gfR eX5_scanNumber_63 f_5_9 q (fun v63 q => ?_)
    refine r_aload_n eX5_scanNumber_66 rfl ?_
    refine t_gfI eX5_scanNumber_67 f_5_35 q (fun v67 q => ?_)
    refine t_gaB eX5_scanNumber_70 q (fun v70 q => ?_)
    refine r_iadd eX5_scanNumber_71 ?_
    refine r_bipush (v := (48)) eX5_scanNumber_72 (by decide) ?_
    refine r_isub eX5_scanNumber_74 ?_
    refine r_goto (t := 82) eX5_scanNumber_75 (by decide) ?_
    refine sJ_X5_scanNumber_82 (fun h2 q => ?_) q
    exact ih _ q
theorem sJ_X5_scanNumber_98 {E : Ev} {d kc ks : Nat} {Φ : Ou → Hp → Prop} {y0 : Nat} {y1 : Int32} {h : Hp}  (q : OK (J_X5_scanNumber_98 E y0 h) Φ) : WE E mX5_scanNumber (d + 0) 98 [some (.ref y0), some (.int y1)] [] h kc ks Φ := by
  refine r_aload_n eX5_scanNumber_98 rfl ?_
  refine r_aload_n eX5_scanNumber_99 rfl ?_
  refine t_gfI eX5_scanNumber_100 f_5_35 q (fun v100 q => ?_)
  refine r_aload_n eX5_scanNumber_103 rfl ?_
  refine t_gfI eX5_scanNumber_104 f_5_58 q (fun v104 q => ?_)
  refine r_isub eX5_scanNumber_107 ?_
  refine r_iconst (v := (2)) eX5_scanNumber_108 (by decide) ?_
  refine t_icmp_gt eX5_scanNumber_109 (t := 117) (by decide) q (fun q => ?_) (fun q => ?_)
  · refine r_iconst (v := (-1)) eX5_scanNumber_117 (by decide) ?_
    refine t_pf eX5_scanNumber_118 p_5_44 rfl rfl (fun q => by cases q) q (fun h118 q => ?_)
    exact t_rtV eX5_scanNumber_121 rfl q
  refine r_bipush (v := (24)) eX5_scanNumber_112 (by decide) ?_
  refine r_goto (t := 118) eX5_scanNumber_114 (by decide) ?_
  refine t_pf eX5_scanNumber_118 p_5_44 rfl rfl (fun q => by cases q) q (fun h118 q => ?_)
  exact t_rtV eX5_scanNumber_121 rfl q
theorem s_X5_scanNumber {E : Ev} {d : Nat} {a0 : Nat} {x1 : Int32} {h : Hp} {Φ : Ou → Hp → Prop} (q : OK (F_X5_scanNumber E a0 x1 h) Φ) : CE E mX5_scanNumber (d + 0) [.ref a0, .int x1] h 0 0 Φ := by
  show WE E mX5_scanNumber (d + 0) 0 [some (.ref a0), some (.int x1)] [] h 0 0 Φ
  refine r_aload_n eX5_scanNumber_0 rfl ?_
  refine r_iconst (v := (0)) eX5_scanNumber_1 (by decide) ?_
  refine t_pf eX5_scanNumber_2 p_5_67 rfl rfl (fun q => by cases q) q (fun h2 q => ?_)
  refine sL_X5_scanNumber_5 (fun h1 q => ?_) _ _ q
  exact sJ_X5_scanNumber_98  q
theorem sJ_X5_isWord_37 {E : Ev} {d kc ks : Nat} {Φ : Ou → Hp → Prop} {y0 : Nat} {y1 : Int32} {y2 : Int32} {y3 : Option Value} {t0 : Int32} {h : Hp} {K2 : Int32 → Hp → Rs} (hK2 : ∀ (w2 : Int32) (w3 : Option Value) (h : Hp), OK (K2 w2 h) Φ → WE E mX5_isWord (d + 0) 2 [some (.ref y0), some (.int y1), some (.int w2), w3] [] h kc ks Φ) (q : OK (J_X5_isWord_37 E K2 y0 y1 y2 t0 h) Φ) : WE E mX5_isWord (d + 0) 37 [some (.ref y0), some (.int y1), some (.int y2), y3] [.int t0] h kc ks Φ := by
  refine r_istore_n (lv' := [_, _, _, _]) eX5_isWord_37 (Nat.le_of_ble_eq_true rfl) rfl ?_
  refine r_ldcs (j := 0) eX5_isWord_38 rfl ?_
  refine r_iload_n eX5_isWord_40 rfl ?_
  refine r_bipush (v := (6)) eX5_isWord_41 (by decide) ?_
  refine r_imul eX5_isWord_43 ?_
  refine r_iload_n eX5_isWord_44 rfl ?_
  refine r_iadd eX5_isWord_45 ?_
  refine t_sCh eX5_isWord_46 jl_5_76 (Nat.le_of_ble_eq_true rfl) q (fun v46 q => ?_)
  refine r_iload_n eX5_isWord_49 rfl ?_
  refine t_icmp_eq eX5_isWord_50 (t := 55) (by decide) q (fun q => ?_) (fun q => ?_)
  · refine r_iinc (v := (1)) (lv' := [_, _, _, _]) eX5_isWord_55 rfl (by decide) rfl ?_
    refine r_goto (t := 2) eX5_isWord_58 (by decide) ?_
    exact hK2 _ _ _ q
  refine r_iconst (v := (0)) eX5_isWord_53 (by decide) ?_
  exact t_rtZ eX5_isWord_54 rfl q
theorem sL_X5_isWord_2 {E : Ev} {d kc ks : Nat} {Φ : Ou → Hp → Prop} {y0 : Nat} {y1 : Int32}  : ∀ (g : Nat) (y2 : Int32) (y3 : Option Value) (h : Hp), OK (L_X5_isWord_2 E y0 y1 g y2 h) Φ → WE E mX5_isWord (d + 0) 2 [some (.ref y0), some (.int y1), some (.int y2), y3] [] h kc ks Φ := by
  intro g
  induction g with
  | zero => intro y2 y3 h q; exact q.elim
  | succ g ih =>
    intro y2 y3 h q
    refine r_iload_n eX5_isWord_2 rfl ?_
    refine r_bipush (v := (6)) eX5_isWord_3 (by decide) ?_
    refine t_icmp_ge eX5_isWord_5 (t := 61) (by decide) q (fun q => ?_) (fun q => ?_)
    · refine r_iconst (v := (1)) eX5_isWord_61 (by decide) ?_
      exact t_rtZ eX5_isWord_62 rfl q
    refine r_aload_n eX5_isWord_8 rfl ?_
    refine t_gfI eX5_isWord_9 f_5_58 q (fun v9 q => ?_)
    refine r_iload_n eX5_isWord_12 rfl ?_
    refine r_iadd eX5_isWord_13 ?_
    refine r_aload_n eX5_isWord_14 rfl ?_
    refine t_gfI eX5_isWord_15 f_5_35 q (fun v15 q => ?_)
    refine t_icmp_ge eX5_isWord_18 (t := 35) (by decide) q (fun q => ?_) (fun q => ?_)
    · refine r_bipush (v := (32)) eX5_isWord_35 (by decide) ?_
      refine sJ_X5_isWord_37 (fun w1 w2 h3 q => ?_) q
      exact ih _ _ _ q
    refine r_aload_n eX5_isWord_21 rfl ?_
    refine t_gfR eX5_isWord_22 f_5_9 q (fun v22 q => ?_)
    refine r_aload_n eX5_isWord_25 rfl ?_
    refine t_gfI eX5_isWord_26 f_5_58 q (fun v26 q => ?_)
    refine r_iload_n eX5_isWord_29 rfl ?_
    refine r_iadd eX5_isWord_30 ?_
    refine t_gaB eX5_isWord_31 q (fun v31 q => ?_)
    refine r_goto (t := 37) eX5_isWord_32 (by decide) ?_
    refine sJ_X5_isWord_37 (fun w4 w5 h6 q => ?_) q
    exact ih _ _ _ q
theorem s_X5_isWord {E : Ev} {d : Nat} {a0 : Nat} {x1 : Int32} {h : Hp} {Φ : Ou → Hp → Prop} (q : OK (F_X5_isWord E a0 x1 h) Φ) : CE E mX5_isWord (d + 0) [.ref a0, .int x1] h 0 0 Φ := by
  show WE E mX5_isWord (d + 0) 0 [some (.ref a0), some (.int x1), none, none] [] h 0 0 Φ
  refine r_iconst (v := (0)) eX5_isWord_0 (by decide) ?_
  refine r_istore_n (lv' := [_, _, _, _]) eX5_isWord_1 (Nat.le_of_ble_eq_true rfl) rfl ?_
  exact sL_X5_isWord_2  _ _ _ _ q
theorem sL_X5_scanWord_0 {E : Ev} {d kc ks : Nat} {Φ : Ou → Hp → Prop} {y0 : Nat} {y1 : Int32} {K49 : Hp → Rs} (hK49 : ∀  (h : Hp), OK (K49 h) Φ → WE E mX5_scanWord (d + 1) 49 [some (.ref y0), some (.int y1), none] [] h kc ks Φ) : ∀ (g : Nat)  (h : Hp), OK (L_X5_scanWord_0 E K49 y0 y1 g h) Φ → WE E mX5_scanWord (d + 1) 0 [some (.ref y0), some (.int y1), none] [] h kc ks Φ := by
  intro g
  induction g with
  | zero => intro  h q; exact q.elim
  | succ g ih =>
    intro  h q
    refine r_aload_n eX5_scanWord_0 rfl ?_
    refine t_gfI eX5_scanWord_1 f_5_35 q (fun v1 q => ?_)
    refine r_iload_n eX5_scanWord_4 rfl ?_
    refine t_icmp_ge eX5_scanWord_5 (t := 49) (by decide) q (fun q => ?_) (fun q => ?_)
    · exact hK49 _ q
    refine r_aload_n eX5_scanWord_8 rfl ?_
    refine t_gfR eX5_scanWord_9 f_5_9 q (fun v9 q => ?_)
    refine r_aload_n eX5_scanWord_12 rfl ?_
    refine t_gfI eX5_scanWord_13 f_5_35 q (fun v13 q => ?_)
    refine t_gaB eX5_scanWord_16 q (fun v16 q => ?_)
    refine r_bipush (v := (97)) eX5_scanWord_17 (by decide) ?_
    refine t_icmp_lt eX5_scanWord_19 (t := 49) (by decide) q (fun q => ?_) (fun q => ?_)
    · exact hK49 _ q
    refine r_aload_n eX5_scanWord_22 rfl ?_
    refine t_gfR eX5_scanWord_23 f_5_9 q (fun v23 q => ?_)
    refine r_aload_n eX5_scanWord_26 rfl ?_
    refine t_gfI eX5_scanWord_27 f_5_35 q (fun v27 q => ?_)
    refine t_gaB eX5_scanWord_30 q (fun v30 q => ?_)
    refine r_bipush (v := (122)) eX5_scanWord_31 (by decide) ?_
    refine t_icmp_gt eX5_scanWord_33 (t := 49) (by decide) q (fun q => ?_) (fun q => ?_)
    · exact hK49 _ q
    refine r_aload_n eX5_scanWord_36 rfl ?_
    refine r_dup eX5_scanWord_37 rfl ?_
    refine t_gfI eX5_scanWord_38 f_5_35 q (fun v38 q => ?_)
    refine r_iconst (v := (1)) eX5_scanWord_41 (by decide) ?_
    refine r_iadd eX5_scanWord_42 ?_
    refine t_pf eX5_scanWord_43 p_5_35 rfl rfl (fun q => by cases q) q (fun h43 q => ?_)
    refine r_goto (t := 0) eX5_scanWord_46 (by decide) ?_
    exact ih _ q
theorem sL_X5_scanWord_57 {E : Ev} {d kc ks : Nat} {Φ : Ou → Hp → Prop} {y0 : Nat} {y1 : Int32}  : ∀ (g : Nat) (y2 : Int32) (h : Hp), OK (L_X5_scanWord_57 E y0 g y2 h) Φ → WE E mX5_scanWord (d + 1) 57 [some (.ref y0), some (.int y1), some (.int y2)] [] h kc ks Φ := by
  intro g
  induction g with
  | zero => intro y2 h q; exact q.elim
  | succ g ih =>
    intro y2 h q
    refine r_iload_n eX5_scanWord_57 rfl ?_
    refine r_bipush (v := (24)) eX5_scanWord_58 (by decide) ?_
    refine t_icmp_ge eX5_scanWord_60 (t := 96) (by decide) q (fun q => ?_) (fun q => ?_)
    · exact t_rtV eX5_scanWord_96 rfl q
    refine r_aload_n eX5_scanWord_63 rfl ?_
    refine t_gfI eX5_scanWord_64 f_5_35 q (fun v64 q => ?_)
    refine r_aload_n eX5_scanWord_67 rfl ?_
    refine t_gfI eX5_scanWord_68 f_5_58 q (fun v68 q => ?_)
    refine r_isub eX5_scanWord_71 ?_
    refine r_bipush (v := (6)) eX5_scanWord_72 (by decide) ?_
    refine t_icmp_gt eX5_scanWord_74 (t := 96) (by decide) q (fun q => ?_) (fun q => ?_)
    · exact t_rtV eX5_scanWord_96 rfl q
    refine r_aload_n eX5_scanWord_77 rfl ?_
    refine r_iload_n eX5_scanWord_78 rfl ?_
    refine t_virtI (As := [_]) (rest := []) (d' := d + 0 + 0) (ci := 5) eX5_scanWord_79 k_5_70 rfl rfl rfl (by omega) (Nat.le_of_ble_eq_true rfl) (Nat.le_of_ble_eq_true rfl) (fun _ q => s_X5_isWord q) q (fun v79 h79 q => ?_)
    refine t_if_eq eX5_scanWord_82 (t := 90) (by decide) q (fun q => ?_) (fun q => ?_)
    · refine r_iinc (v := (1)) (lv' := [_, _, _]) eX5_scanWord_90 rfl (by decide) rfl ?_
      refine r_goto (t := 57) eX5_scanWord_93 (by decide) ?_
      exact ih _ _ q
    refine r_aload_n eX5_scanWord_85 rfl ?_
    refine r_iload_n eX5_scanWord_86 rfl ?_
    refine t_pf eX5_scanWord_87 p_5_44 rfl rfl (fun q => by cases q) q (fun h87 q => ?_)
    refine r_iinc (v := (1)) (lv' := [_, _, _]) eX5_scanWord_90 rfl (by decide) rfl ?_
    refine r_goto (t := 57) eX5_scanWord_93 (by decide) ?_
    exact ih _ _ q
theorem s_X5_scanWord {E : Ev} {d : Nat} {a0 : Nat} {x1 : Int32} {h : Hp} {Φ : Ou → Hp → Prop} (q : OK (F_X5_scanWord E a0 x1 h) Φ) : CE E mX5_scanWord (d + 1) [.ref a0, .int x1] h 0 0 Φ := by
  show WE E mX5_scanWord (d + 1) 0 [some (.ref a0), some (.int x1), none] [] h 0 0 Φ
  refine sL_X5_scanWord_0 (fun h1 q => ?_) _ _ q
  refine r_aload_n eX5_scanWord_49 rfl ?_
  refine r_bipush (v := (27)) eX5_scanWord_50 (by decide) ?_
  refine t_pf eX5_scanWord_52 p_5_44 rfl rfl (fun q => by cases q) q (fun h52 q => ?_)
  refine r_iconst (v := (0)) eX5_scanWord_55 (by decide) ?_
  refine r_istore_n (lv' := [_, _, _]) eX5_scanWord_56 (Nat.le_of_ble_eq_true rfl) rfl ?_
  exact sL_X5_scanWord_57  _ _ _ q
theorem sJ_X5_scan_36 {E : Ev} {d kc ks : Nat} {Φ : Ou → Hp → Prop} {y0 : Nat} {y1 : Int32} {h : Hp} {K0 : Hp → Rs} (hK0 : ∀  (h : Hp), OK (K0 h) Φ → WE E mX5_scan (d + 2) 0 [some (.ref y0), some (.int y1)] [] h kc ks Φ) (q : OK (J_X5_scan_36 E K0 y0 y1 h) Φ) : WE E mX5_scan (d + 2) 36 [some (.ref y0), some (.int y1)] [] h kc ks Φ := by
  refine r_aload_n eX5_scan_36 rfl ?_
  refine r_dup eX5_scan_37 rfl ?_
  refine t_gfI eX5_scan_38 f_5_35 q (fun v38 q => ?_)
  refine r_iconst (v := (1)) eX5_scan_41 (by decide) ?_
  refine r_iadd eX5_scan_42 ?_
  refine t_pf eX5_scan_43 p_5_35 rfl rfl (fun q => by cases q) q (fun h43 q => ?_)
  refine r_goto (t := 0) eX5_scan_46 (by decide) ?_
  exact hK0 _ q
theorem sL_X5_scan_0 {E : Ev} {d kc ks : Nat} {Φ : Ou → Hp → Prop} {y0 : Nat} {y1 : Int32} {K49 : Hp → Rs} (hK49 : ∀  (h : Hp), OK (K49 h) Φ → WE E mX5_scan (d + 2) 49 [some (.ref y0), some (.int y1)] [] h kc ks Φ) : ∀ (g : Nat)  (h : Hp), OK (L_X5_scan_0 E K49 y0 y1 g h) Φ → WE E mX5_scan (d + 2) 0 [some (.ref y0), some (.int y1)] [] h kc ks Φ := by
  intro g
  induction g with
  | zero => intro  h q; exact q.elim
  | succ g ih =>
    intro  h q
    refine r_aload_n eX5_scan_0 rfl ?_
    refine t_gfI eX5_scan_1 f_5_35 q (fun v1 q => ?_)
    refine r_iload_n eX5_scan_4 rfl ?_
    refine t_icmp_ge eX5_scan_5 (t := 49) (by decide) q (fun q => ?_) (fun q => ?_)
    · exact hK49 _ q
    refine r_aload_n eX5_scan_8 rfl ?_
    refine t_gfR eX5_scan_9 f_5_9 q (fun v9 q => ?_)
    refine r_aload_n eX5_scan_12 rfl ?_
    refine t_gfI eX5_scan_13 f_5_35 q (fun v13 q => ?_)
    refine t_gaB eX5_scan_16 q (fun v16 q => ?_)
    refine r_bipush (v := (32)) eX5_scan_17 (by decide) ?_
    refine t_icmp_eq eX5_scan_19 (t := 36) (by decide) q (fun q => ?_) (fun q => ?_)
    · refine sJ_X5_scan_36 (fun h1 q => ?_) q
      exact ih _ q
    refine r_aload_n eX5_scan_22 rfl ?_
    refine t_gfR eX5_scan_23 f_5_9 q (fun v23 q => ?_)
    refine r_aload_n eX5_scan_26 rfl ?_
    refine t_gfI eX5_scan_27 f_5_35 q (fun v27 q => ?_)
    refine t_gaB eX5_scan_30 q (fun v30 q => ?_)
    refine r_bipush (v := (10)) eX5_scan_31 (by decide) ?_
    refine t_icmp_ne eX5_scan_33 (t := 49) (by decide) q (fun q => ?_) (fun q => ?_)
    · exact hK49 _ q
    refine sJ_X5_scan_36 (fun h2 q => ?_) q
    exact ih _ q
theorem sJ_X5_scan_143 {E : Ev} {d kc ks : Nat} {Φ : Ou → Hp → Prop} {y0 : Nat} {y1 : Int32} {h : Hp}  (q : OK (J_X5_scan_143 E y0 y1 h) Φ) : WE E mX5_scan (d + 2) 143 [some (.ref y0), some (.int y1)] [] h kc ks Φ := by
  refine r_aload_n eX5_scan_143 rfl ?_
  refine t_gfR eX5_scan_144 f_5_9 q (fun v144 q => ?_)
  refine r_aload_n eX5_scan_147 rfl ?_
  refine t_gfI eX5_scan_148 f_5_35 q (fun v148 q => ?_)
  refine t_gaB eX5_scan_151 q (fun v151 q => ?_)
  refine r_bipush (v := (97)) eX5_scan_152 (by decide) ?_
  refine t_icmp_lt eX5_scan_154 (t := 179) (by decide) q (fun q => ?_) (fun q => ?_)
  · refine r_aload_n eX5_scan_179 rfl ?_
    refine r_iconst (v := (-1)) eX5_scan_180 (by decide) ?_
    refine t_pf eX5_scan_181 p_5_44 rfl rfl (fun q => by cases q) q (fun h181 q => ?_)
    exact t_rtV eX5_scan_184 rfl q
  refine r_aload_n eX5_scan_157 rfl ?_
  refine t_gfR eX5_scan_158 f_5_9 q (fun v158 q => ?_)
  refine r_aload_n eX5_scan_161 rfl ?_
  refine t_gfI eX5_scan_162 f_5_35 q (fun v162 q => ?_)
  refine t_gaB eX5_scan_165 q (fun v165 q => ?_)
  refine r_bipush (v := (122)) eX5_scan_166 (by decide) ?_
  refine t_icmp_gt eX5_scan_168 (t := 179) (by decide) q (fun q => ?_) (fun q => ?_)
  · refine r_aload_n eX5_scan_179 rfl ?_
    refine r_iconst (v := (-1)) eX5_scan_180 (by decide) ?_
    refine t_pf eX5_scan_181 p_5_44 rfl rfl (fun q => by cases q) q (fun h181 q => ?_)
    exact t_rtV eX5_scan_184 rfl q
  refine r_aload_n eX5_scan_171 rfl ?_
  refine r_iload_n eX5_scan_172 rfl ?_
  refine t_virtV (As := [_]) (rest := []) (d' := d + 0 + 1) (ci := 5) eX5_scan_173 k_5_64 rfl rfl rfl (by omega) (Nat.le_of_ble_eq_true rfl) (Nat.le_of_ble_eq_true rfl) (fun _ q => s_X5_scanWord q) q (fun h173 q => ?_)
  refine r_goto (t := 184) eX5_scan_176 (by decide) ?_
  exact t_rtV eX5_scan_184 rfl q
theorem sJ_X5_scan_49 {E : Ev} {d kc ks : Nat} {Φ : Ou → Hp → Prop} {y0 : Nat} {y1 : Int32} {h : Hp}  (q : OK (J_X5_scan_49 E y0 y1 h) Φ) : WE E mX5_scan (d + 2) 49 [some (.ref y0), some (.int y1)] [] h kc ks Φ := by
  refine r_aload_n eX5_scan_49 rfl ?_
  refine r_aload_n eX5_scan_50 rfl ?_
  refine t_gfI eX5_scan_51 f_5_35 q (fun v51 q => ?_)
  refine t_pf eX5_scan_54 p_5_58 rfl rfl (fun q => by cases q) q (fun h54 q => ?_)
  refine r_aload_n eX5_scan_57 rfl ?_
  refine t_gfI eX5_scan_58 f_5_35 q (fun v58 q => ?_)
  refine r_iload_n eX5_scan_61 rfl ?_
  refine t_icmp_lt eX5_scan_62 (t := 74) (by decide) q (fun q => ?_) (fun q => ?_)
  · refine r_aload_n eX5_scan_74 rfl ?_
    refine t_gfR eX5_scan_75 f_5_9 q (fun v75 q => ?_)
    refine r_aload_n eX5_scan_78 rfl ?_
    refine t_gfI eX5_scan_79 f_5_35 q (fun v79 q => ?_)
    refine t_gaB eX5_scan_82 q (fun v82 q => ?_)
    refine r_bipush (v := (59)) eX5_scan_83 (by decide) ?_
    refine t_icmp_ne eX5_scan_85 (t := 107) (by decide) q (fun q => ?_) (fun q => ?_)
    · refine r_aload_n eX5_scan_107 rfl ?_
      refine t_gfR eX5_scan_108 f_5_9 q (fun v108 q => ?_)
      refine r_aload_n eX5_scan_111 rfl ?_
      refine t_gfI eX5_scan_112 f_5_35 q (fun v112 q => ?_)
      refine t_gaB eX5_scan_115 q (fun v115 q => ?_)
      refine r_bipush (v := (48)) eX5_scan_116 (by decide) ?_
      refine t_icmp_lt eX5_scan_118 (t := 143) (by decide) q (fun q => ?_) (fun q => ?_)
      · exact sJ_X5_scan_143  q
      refine r_aload_n eX5_scan_121 rfl ?_
      refine t_gfR eX5_scan_122 f_5_9 q (fun v122 q => ?_)
      refine r_aload_n eX5_scan_125 rfl ?_
      refine t_gfI eX5_scan_126 f_5_35 q (fun v126 q => ?_)
      refine t_gaB eX5_scan_129 q (fun v129 q => ?_)
      refine r_bipush (v := (57)) eX5_scan_130 (by decide) ?_
      refine t_icmp_gt eX5_scan_132 (t := 143) (by decide) q (fun q => ?_) (fun q => ?_)
      · exact sJ_X5_scan_143  q
      refine r_aload_n eX5_scan_135 rfl ?_
      refine r_iload_n eX5_scan_136 rfl ?_
      refine t_virtV (As := [_]) (rest := []) (d' := d + 1 + 0) (ci := 5) eX5_scan_137 k_5_61 rfl rfl rfl (by omega) (Nat.le_of_ble_eq_true rfl) (Nat.le_of_ble_eq_true rfl) (fun _ q => s_X5_scanNumber q) q (fun h137 q => ?_)
      refine r_goto (t := 184) eX5_scan_140 (by decide) ?_
      exact t_rtV eX5_scan_184 rfl q
    refine r_aload_n eX5_scan_88 rfl ?_
    refine r_dup eX5_scan_89 rfl ?_
    refine t_gfI eX5_scan_90 f_5_35 q (fun v90 q => ?_)
    refine r_iconst (v := (1)) eX5_scan_93 (by decide) ?_
    refine r_iadd eX5_scan_94 ?_
    refine t_pf eX5_scan_95 p_5_35 rfl rfl (fun q => by cases q) q (fun h95 q => ?_)
    refine r_aload_n eX5_scan_98 rfl ?_
    refine r_bipush (v := (25)) eX5_scan_99 (by decide) ?_
    refine t_pf eX5_scan_101 p_5_44 rfl rfl (fun q => by cases q) q (fun h101 q => ?_)
    refine r_goto (t := 184) eX5_scan_104 (by decide) ?_
    exact t_rtV eX5_scan_184 rfl q
  refine r_aload_n eX5_scan_65 rfl ?_
  refine r_bipush (v := (26)) eX5_scan_66 (by decide) ?_
  refine t_pf eX5_scan_68 p_5_44 rfl rfl (fun q => by cases q) q (fun h68 q => ?_)
  refine r_goto (t := 184) eX5_scan_71 (by decide) ?_
  exact t_rtV eX5_scan_184 rfl q
theorem s_X5_scan {E : Ev} {d : Nat} {a0 : Nat} {x1 : Int32} {h : Hp} {Φ : Ou → Hp → Prop} (q : OK (F_X5_scan E a0 x1 h) Φ) : CE E mX5_scan (d + 2) [.ref a0, .int x1] h 0 0 Φ := by
  show WE E mX5_scan (d + 2) 0 [some (.ref a0), some (.int x1)] [] h 0 0 Φ
  refine sL_X5_scan_0 (fun h1 q => ?_) _ _ q
  exact sJ_X5_scan_49  q
