theorem s_X5_await {E : Ev} {d : Nat} {a0 : Nat} {x1 : Int32} {x2 : Int32} {h : Hp} {Φ : Ou → Hp → Prop} (q : OK (F_X5_await E a0 x1 x2 h) Φ) : CE E mX5_await (d + 0) [.ref a0, .int x1, .int x2] h 0 0 Φ := by
  show WE E mX5_await (d + 0) 0 [some (.ref a0), some (.int x1), some (.int x2)] [] h 0 0 Φ
  refine r_aload_n eX5_await_0 rfl ?_
  refine r_iload_n eX5_await_1 rfl ?_
  refine t_pf eX5_await_2 p_5_38 rfl rfl (fun q => by cases q) q (fun h2 q => ?_)
  refine r_aload_n eX5_await_5 rfl ?_
  refine r_iload_n eX5_await_6 rfl ?_
  refine t_pf eX5_await_7 p_5_96 rfl rfl (fun q => by cases q) q (fun h7 q => ?_)
  refine r_iconst (v := (0)) eX5_await_10 (by decide) ?_
  exact t_rtI eX5_await_11 rfl q
theorem s_X5_keep {E : Ev} {d : Nat} {a0 : Nat} {x1 : Int32} {x2 : Int32} {h : Hp} {Φ : Ou → Hp → Prop} (q : OK (F_X5_keep E a0 x1 x2 h) Φ) : CE E mX5_keep (d + 0) [.ref a0, .int x1, .int x2] h 0 0 Φ := by
  show WE E mX5_keep (d + 0) 0 [some (.ref a0), some (.int x1), some (.int x2), none] [] h 0 0 Φ
  refine r_aload_n eX5_keep_0 rfl ?_
  refine t_gfI eX5_keep_1 f_5_32 q (fun v1 q => ?_)
  refine r_iconst (v := (4)) eX5_keep_4 (by decide) ?_
  refine r_imul eX5_keep_5 ?_
  refine r_aload_n eX5_keep_6 rfl ?_
  refine t_gfI eX5_keep_7 f_5_41 q (fun v7 q => ?_)
  refine r_iadd eX5_keep_10 ?_
  replace q := OK_lt q
  refine r_istore_n (lv' := [_, _, _, _]) eX5_keep_11 (Nat.le_of_ble_eq_true rfl) rfl ?_
  refine r_iload_n eX5_keep_12 rfl ?_
  refine r_bipush (v := (40)) eX5_keep_13 (by decide) ?_
  refine t_icmp_ge eX5_keep_15 (t := 25) (by decide) q (fun q => ?_) (fun q => ?_)
  · refine r_aload_n eX5_keep_25 rfl ?_
    refine r_iload_n eX5_keep_26 rfl ?_
    refine t_pf eX5_keep_27 p_5_38 rfl rfl (fun q => by cases q) q (fun h27 q => ?_)
    refine r_iconst (v := (0)) eX5_keep_30 (by decide) ?_
    exact t_rtI eX5_keep_31 rfl q
  refine r_aload_n eX5_keep_18 rfl ?_
  refine t_gfR eX5_keep_19 f_5_19 q (fun v19 q => ?_)
  refine r_iload_n eX5_keep_22 rfl ?_
  refine r_iload_n eX5_keep_23 rfl ?_
  refine t_paI eX5_keep_24 q (fun h24 q => ?_)
  refine r_aload_n eX5_keep_25 rfl ?_
  refine r_iload_n eX5_keep_26 rfl ?_
  refine t_pf eX5_keep_27 p_5_38 rfl rfl (fun q => by cases q) q (fun h27 q => ?_)
  refine r_iconst (v := (0)) eX5_keep_30 (by decide) ?_
  exact t_rtI eX5_keep_31 rfl q
theorem s_X5_isBadNumber {E : Ev} {d : Nat} {a0 : Nat} {h : Hp} {Φ : Ou → Hp → Prop} (q : OK (F_X5_isBadNumber E a0 h) Φ) : CE E mX5_isBadNumber (d + 0) [.ref a0] h 0 0 Φ := by
  show WE E mX5_isBadNumber (d + 0) 0 [some (.ref a0)] [] h 0 0 Φ
  refine r_aload_n eX5_isBadNumber_0 rfl ?_
  refine t_gfI eX5_isBadNumber_1 f_5_67 q (fun v1 q => ?_)
  refine r_iconst (v := (1)) eX5_isBadNumber_4 (by decide) ?_
  refine t_icmp_lt eX5_isBadNumber_5 (t := 17) (by decide) q (fun q => ?_) (fun q => ?_)
  · refine r_iconst (v := (1)) eX5_isBadNumber_17 (by decide) ?_
    refine r_goto (t := 22) eX5_isBadNumber_18 (by decide) ?_
    exact t_rtZ eX5_isBadNumber_22 rfl q
  refine r_aload_n eX5_isBadNumber_8 rfl ?_
  refine t_gfI eX5_isBadNumber_9 f_5_67 q (fun v9 q => ?_)
  refine r_bipush (v := (20)) eX5_isBadNumber_12 (by decide) ?_
  refine t_icmp_le eX5_isBadNumber_14 (t := 21) (by decide) q (fun q => ?_) (fun q => ?_)
  · refine r_iconst (v := (0)) eX5_isBadNumber_21 (by decide) ?_
    exact t_rtZ eX5_isBadNumber_22 rfl q
  refine r_iconst (v := (1)) eX5_isBadNumber_17 (by decide) ?_
  refine r_goto (t := 22) eX5_isBadNumber_18 (by decide) ?_
  exact t_rtZ eX5_isBadNumber_22 rfl q
theorem s_X5_takeAmount {E : Ev} {d : Nat} {a0 : Nat} {x1 : Int32} {h : Hp} {Φ : Ou → Hp → Prop} (q : OK (F_X5_takeAmount E a0 x1 h) Φ) : CE E mX5_takeAmount (d + 1) [.ref a0, .int x1] h 0 0 Φ := by
  show WE E mX5_takeAmount (d + 1) 0 [some (.ref a0), some (.int x1)] [] h 0 0 Φ
  refine r_aload_n eX5_takeAmount_0 rfl ?_
  refine t_gfI eX5_takeAmount_1 f_5_44 q (fun v1 q => ?_)
  refine r_bipush (v := (24)) eX5_takeAmount_4 (by decide) ?_
  refine t_icmp_eq eX5_takeAmount_6 (t := 11) (by decide) q (fun q => ?_) (fun q => ?_)
  · refine r_aload_n eX5_takeAmount_11 rfl ?_
    refine t_virtI (As := []) (rest := []) (d' := d + 0 + 0) (ci := 5) eX5_takeAmount_12 k_5_115 rfl rfl rfl (by omega) (Nat.le_of_ble_eq_true rfl) (Nat.le_of_ble_eq_true rfl) (fun _ q => s_X5_isBadNumber q) q (fun v12 h12 q => ?_)
    refine t_if_eq eX5_takeAmount_15 (t := 22) (by decide) q (fun q => ?_) (fun q => ?_)
    · refine r_aload_n eX5_takeAmount_22 rfl ?_
      refine r_iload_n eX5_takeAmount_23 rfl ?_
      refine r_aload_n eX5_takeAmount_24 rfl ?_
      refine t_gfI eX5_takeAmount_25 f_5_67 q (fun v25 q => ?_)
      refine r_bipush (v := (15)) eX5_takeAmount_28 (by decide) ?_
      refine t_statI (As := [_, _, _]) (rest := [_]) (d' := d + 0 + 0) eX5_takeAmount_30 k_5_102 rfl (by omega) (Nat.le_of_ble_eq_true rfl) (Nat.le_of_ble_eq_true rfl) (fun _ q => s_X11_wordOf q) q (fun v30 h30 q => ?_)
      refine r_bipush (v := (6)) eX5_takeAmount_33 (by decide) ?_
      refine t_virtI (As := [_, _]) (rest := []) (d' := d + 0 + 0) (ci := 5) eX5_takeAmount_35 k_5_106 rfl rfl rfl (by omega) (Nat.le_of_ble_eq_true rfl) (Nat.le_of_ble_eq_true rfl) (fun _ q => s_X5_keep q) q (fun v35 h35 q => ?_)
      exact t_rtI eX5_takeAmount_38 rfl q
    refine r_iconst (v := (3)) eX5_takeAmount_18 (by decide) ?_
    refine r_goto (t := 38) eX5_takeAmount_19 (by decide) ?_
    exact t_rtI eX5_takeAmount_38 rfl q
  refine r_iconst (v := (2)) eX5_takeAmount_9 (by decide) ?_
  exact t_rtI eX5_takeAmount_10 rfl q
theorem s_X5_takeWord {E : Ev} {d : Nat} {a0 : Nat} {h : Hp} {Φ : Ou → Hp → Prop} (q : OK (F_X5_takeWord E a0 h) Φ) : CE E mX5_takeWord (d + 1) [.ref a0] h 0 0 Φ := by
  show WE E mX5_takeWord (d + 1) 0 [some (.ref a0)] [] h 0 0 Φ
  refine r_aload_n eX5_takeWord_0 rfl ?_
  refine r_iconst (v := (0)) eX5_takeWord_1 (by decide) ?_
  refine t_pf eX5_takeWord_2 p_5_99 rfl rfl (fun q => by cases q) q (fun h2 q => ?_)
  refine r_aload_n eX5_takeWord_5 rfl ?_
  refine t_gfI eX5_takeWord_6 f_5_44 q (fun v6 q => ?_)
  refine OK_ite q (fun c12 q => ?_) (fun n12 q => ?_)
  · refine r_tsw 76 eX5_takeWord_9 (by rw [c12]; decide) ?_
    refine r_aload_n eX5_takeWord_76 rfl ?_
    refine r_iconst (v := (2)) eX5_takeWord_77 (by decide) ?_
    refine r_iconst (v := (0)) eX5_takeWord_78 (by decide) ?_
    refine t_virtI (As := [_, _]) (rest := []) (d' := d + 0 + 0) (ci := 5) eX5_takeWord_79 k_5_88 rfl rfl rfl (by omega) (Nat.le_of_ble_eq_true rfl) (Nat.le_of_ble_eq_true rfl) (fun _ q => s_X5_await q) q (fun v79 h79 q => ?_)
    exact t_rtI eX5_takeWord_82 rfl q
  refine OK_ite q (fun c13 q => ?_) (fun n13 q => ?_)
  · refine r_tsw 198 eX5_takeWord_9 (by rw [c13]; decide) ?_
    refine r_iconst (v := (2)) eX5_takeWord_198 (by decide) ?_
    exact t_rtI eX5_takeWord_199 rfl q
  refine OK_ite q (fun c14 q => ?_) (fun n14 q => ?_)
  · refine r_tsw 83 eX5_takeWord_9 (by rw [c14]; decide) ?_
    refine r_aload_n eX5_takeWord_83 rfl ?_
    refine r_iconst (v := (4)) eX5_takeWord_84 (by decide) ?_
    refine r_iconst (v := (3)) eX5_takeWord_85 (by decide) ?_
    refine t_virtI (As := [_, _]) (rest := []) (d' := d + 0 + 0) (ci := 5) eX5_takeWord_86 k_5_88 rfl rfl rfl (by omega) (Nat.le_of_ble_eq_true rfl) (Nat.le_of_ble_eq_true rfl) (fun _ q => s_X5_await q) q (fun v86 h86 q => ?_)
    exact t_rtI eX5_takeWord_89 rfl q
  refine OK_ite q (fun c15 q => ?_) (fun n15 q => ?_)
  · refine r_tsw 90 eX5_takeWord_9 (by rw [c15]; decide) ?_
    refine r_aload_n eX5_takeWord_90 rfl ?_
    refine r_iconst (v := (3)) eX5_takeWord_91 (by decide) ?_
    refine r_iconst (v := (4)) eX5_takeWord_92 (by decide) ?_
    refine t_virtI (As := [_, _]) (rest := []) (d' := d + 0 + 0) (ci := 5) eX5_takeWord_93 k_5_88 rfl rfl rfl (by omega) (Nat.le_of_ble_eq_true rfl) (Nat.le_of_ble_eq_true rfl) (fun _ q => s_X5_await q) q (fun v93 h93 q => ?_)
    exact t_rtI eX5_takeWord_96 rfl q
  refine OK_ite q (fun c16 q => ?_) (fun n16 q => ?_)
  · refine r_tsw 97 eX5_takeWord_9 (by rw [c16]; decide) ?_
    refine r_aload_n eX5_takeWord_97 rfl ?_
    refine r_iconst (v := (4)) eX5_takeWord_98 (by decide) ?_
    refine r_iconst (v := (5)) eX5_takeWord_99 (by decide) ?_
    refine t_virtI (As := [_, _]) (rest := []) (d' := d + 0 + 0) (ci := 5) eX5_takeWord_100 k_5_88 rfl rfl rfl (by omega) (Nat.le_of_ble_eq_true rfl) (Nat.le_of_ble_eq_true rfl) (fun _ q => s_X5_await q) q (fun v100 h100 q => ?_)
    exact t_rtI eX5_takeWord_103 rfl q
  refine OK_ite q (fun c17 q => ?_) (fun n17 q => ?_)
  · refine r_tsw 104 eX5_takeWord_9 (by rw [c17]; decide) ?_
    refine r_aload_n eX5_takeWord_104 rfl ?_
    refine r_iconst (v := (4)) eX5_takeWord_105 (by decide) ?_
    refine r_bipush (v := (6)) eX5_takeWord_106 (by decide) ?_
    refine t_virtI (As := [_, _]) (rest := []) (d' := d + 0 + 0) (ci := 5) eX5_takeWord_108 k_5_88 rfl rfl rfl (by omega) (Nat.le_of_ble_eq_true rfl) (Nat.le_of_ble_eq_true rfl) (fun _ q => s_X5_await q) q (fun v108 h108 q => ?_)
    exact t_rtI eX5_takeWord_111 rfl q
  refine OK_ite q (fun c18 q => ?_) (fun n18 q => ?_)
  · refine r_tsw 112 eX5_takeWord_9 (by rw [c18]; decide) ?_
    refine r_aload_n eX5_takeWord_112 rfl ?_
    refine r_bipush (v := (7)) eX5_takeWord_113 (by decide) ?_
    refine r_iconst (v := (0)) eX5_takeWord_115 (by decide) ?_
    refine r_bipush (v := (15)) eX5_takeWord_116 (by decide) ?_
    refine t_statI (As := [_, _, _]) (rest := [_]) (d' := d + 0 + 0) eX5_takeWord_118 k_5_102 rfl (by omega) (Nat.le_of_ble_eq_true rfl) (Nat.le_of_ble_eq_true rfl) (fun _ q => s_X11_wordOf q) q (fun v118 h118 q => ?_)
    refine r_bipush (v := (6)) eX5_takeWord_121 (by decide) ?_
    refine t_virtI (As := [_, _]) (rest := []) (d' := d + 0 + 0) (ci := 5) eX5_takeWord_123 k_5_106 rfl rfl rfl (by omega) (Nat.le_of_ble_eq_true rfl) (Nat.le_of_ble_eq_true rfl) (fun _ q => s_X5_keep q) q (fun v123 h123 q => ?_)
    exact t_rtI eX5_takeWord_126 rfl q
  refine OK_ite q (fun c19 q => ?_) (fun n19 q => ?_)
  · refine r_tsw 127 eX5_takeWord_9 (by rw [c19]; decide) ?_
    refine r_aload_n eX5_takeWord_127 rfl ?_
    refine r_bipush (v := (8)) eX5_takeWord_128 (by decide) ?_
    refine r_iconst (v := (0)) eX5_takeWord_130 (by decide) ?_
    refine r_bipush (v := (15)) eX5_takeWord_131 (by decide) ?_
    refine t_statI (As := [_, _, _]) (rest := [_]) (d' := d + 0 + 0) eX5_takeWord_133 k_5_102 rfl (by omega) (Nat.le_of_ble_eq_true rfl) (Nat.le_of_ble_eq_true rfl) (fun _ q => s_X11_wordOf q) q (fun v133 h133 q => ?_)
    refine r_bipush (v := (6)) eX5_takeWord_136 (by decide) ?_
    refine t_virtI (As := [_, _]) (rest := []) (d' := d + 0 + 0) (ci := 5) eX5_takeWord_138 k_5_106 rfl rfl rfl (by omega) (Nat.le_of_ble_eq_true rfl) (Nat.le_of_ble_eq_true rfl) (fun _ q => s_X5_keep q) q (fun v138 h138 q => ?_)
    exact t_rtI eX5_takeWord_141 rfl q
  refine OK_ite q (fun c20 q => ?_) (fun n20 q => ?_)
  · refine r_tsw 142 eX5_takeWord_9 (by rw [c20]; decide) ?_
    refine r_aload_n eX5_takeWord_142 rfl ?_
    refine r_bipush (v := (9)) eX5_takeWord_143 (by decide) ?_
    refine r_iconst (v := (0)) eX5_takeWord_145 (by decide) ?_
    refine r_bipush (v := (15)) eX5_takeWord_146 (by decide) ?_
    refine t_statI (As := [_, _, _]) (rest := [_]) (d' := d + 0 + 0) eX5_takeWord_148 k_5_102 rfl (by omega) (Nat.le_of_ble_eq_true rfl) (Nat.le_of_ble_eq_true rfl) (fun _ q => s_X11_wordOf q) q (fun v148 h148 q => ?_)
    refine r_bipush (v := (6)) eX5_takeWord_151 (by decide) ?_
    refine t_virtI (As := [_, _]) (rest := []) (d' := d + 0 + 0) (ci := 5) eX5_takeWord_153 k_5_106 rfl rfl rfl (by omega) (Nat.le_of_ble_eq_true rfl) (Nat.le_of_ble_eq_true rfl) (fun _ q => s_X5_keep q) q (fun v153 h153 q => ?_)
    exact t_rtI eX5_takeWord_156 rfl q
  refine OK_ite q (fun c21 q => ?_) (fun n21 q => ?_)
  · refine r_tsw 157 eX5_takeWord_9 (by rw [c21]; decide) ?_
    refine r_aload_n eX5_takeWord_157 rfl ?_
    refine r_bipush (v := (10)) eX5_takeWord_158 (by decide) ?_
    refine r_iconst (v := (0)) eX5_takeWord_160 (by decide) ?_
    refine r_bipush (v := (15)) eX5_takeWord_161 (by decide) ?_
    refine t_statI (As := [_, _, _]) (rest := [_]) (d' := d + 0 + 0) eX5_takeWord_163 k_5_102 rfl (by omega) (Nat.le_of_ble_eq_true rfl) (Nat.le_of_ble_eq_true rfl) (fun _ q => s_X11_wordOf q) q (fun v163 h163 q => ?_)
    refine r_bipush (v := (6)) eX5_takeWord_166 (by decide) ?_
    refine t_virtI (As := [_, _]) (rest := []) (d' := d + 0 + 0) (ci := 5) eX5_takeWord_168 k_5_106 rfl rfl rfl (by omega) (Nat.le_of_ble_eq_true rfl) (Nat.le_of_ble_eq_true rfl) (fun _ q => s_X5_keep q) q (fun v168 h168 q => ?_)
    exact t_rtI eX5_takeWord_171 rfl q
  refine OK_ite q (fun c22 q => ?_) (fun n22 q => ?_)
  · refine r_tsw 198 eX5_takeWord_9 (by rw [c22]; decide) ?_
    refine r_iconst (v := (2)) eX5_takeWord_198 (by decide) ?_
    exact t_rtI eX5_takeWord_199 rfl q
  refine OK_ite q (fun c23 q => ?_) (fun n23 q => ?_)
  · refine r_tsw 198 eX5_takeWord_9 (by rw [c23]; decide) ?_
    refine r_iconst (v := (2)) eX5_takeWord_198 (by decide) ?_
    exact t_rtI eX5_takeWord_199 rfl q
  refine OK_ite q (fun c24 q => ?_) (fun n24 q => ?_)
  · refine r_tsw 172 eX5_takeWord_9 (by rw [c24]; decide) ?_
    refine r_aload_n eX5_takeWord_172 rfl ?_
    refine r_aload_n eX5_takeWord_173 rfl ?_
    refine t_gfI eX5_takeWord_174 f_5_67 q (fun v174 q => ?_)
    refine t_pf eX5_takeWord_177 p_5_99 rfl rfl (fun q => by cases q) q (fun h177 q => ?_)
    refine r_aload_n eX5_takeWord_180 rfl ?_
    refine t_virtI (As := []) (rest := []) (d' := d + 0 + 0) (ci := 5) eX5_takeWord_181 k_5_115 rfl rfl rfl (by omega) (Nat.le_of_ble_eq_true rfl) (Nat.le_of_ble_eq_true rfl) (fun _ q => s_X5_isBadNumber q) q (fun v181 h181 q => ?_)
    refine t_if_eq eX5_takeWord_184 (t := 191) (by decide) q (fun q => ?_) (fun q => ?_)
    · refine r_aload_n eX5_takeWord_191 rfl ?_
      refine r_iconst (v := (5)) eX5_takeWord_192 (by decide) ?_
      refine r_iconst (v := (0)) eX5_takeWord_193 (by decide) ?_
      refine t_virtI (As := [_, _]) (rest := []) (d' := d + 0 + 0) (ci := 5) eX5_takeWord_194 k_5_88 rfl rfl rfl (by omega) (Nat.le_of_ble_eq_true rfl) (Nat.le_of_ble_eq_true rfl) (fun _ q => s_X5_await q) q (fun v194 h194 q => ?_)
      exact t_rtI eX5_takeWord_197 rfl q
    refine r_iconst (v := (3)) eX5_takeWord_187 (by decide) ?_
    refine r_goto (t := 197) eX5_takeWord_188 (by decide) ?_
    exact t_rtI eX5_takeWord_197 rfl q
  refine r_tsw 198 eX5_takeWord_9 (tsw_d (by have z12 := ne_i n12; have z13 := ne_i n13; have z14 := ne_i n14; have z15 := ne_i n15; have z16 := ne_i n16; have z17 := ne_i n17; have z18 := ne_i n18; have z19 := ne_i n19; have z20 := ne_i n20; have z21 := ne_i n21; have z22 := ne_i n22; have z23 := ne_i n23; have z24 := ne_i n24; rw [show (12 : Int32).toInt = 12 from by decide] at z12; rw [show (13 : Int32).toInt = 13 from by decide] at z13; rw [show (14 : Int32).toInt = 14 from by decide] at z14; rw [show (15 : Int32).toInt = 15 from by decide] at z15; rw [show (16 : Int32).toInt = 16 from by decide] at z16; rw [show (17 : Int32).toInt = 17 from by decide] at z17; rw [show (18 : Int32).toInt = 18 from by decide] at z18; rw [show (19 : Int32).toInt = 19 from by decide] at z19; rw [show (20 : Int32).toInt = 20 from by decide] at z20; rw [show (21 : Int32).toInt = 21 from by decide] at z21; rw [show (22 : Int32).toInt = 22 from by decide] at z22; rw [show (23 : Int32).toInt = 23 from by decide] at z23; rw [show (24 : Int32).toInt = 24 from by decide] at z24; omega) (by decide) (by decide)) ?_
  refine r_iconst (v := (2)) eX5_takeWord_198 (by decide) ?_
  exact t_rtI eX5_takeWord_199 rfl q
theorem s_X5_takeFirst {E : Ev} {d : Nat} {a0 : Nat} {h : Hp} {Φ : Ou → Hp → Prop} (q : OK (F_X5_takeFirst E a0 h) Φ) : CE E mX5_takeFirst (d + 2) [.ref a0] h 0 0 Φ := by
  show WE E mX5_takeFirst (d + 2) 0 [some (.ref a0), none] [] h 0 0 Φ
  refine r_aload_n eX5_takeFirst_0 rfl ?_
  refine t_gfI eX5_takeFirst_1 f_5_44 q (fun v1 q => ?_)
  refine r_bipush (v := (26)) eX5_takeFirst_4 (by decide) ?_
  refine t_icmp_ne eX5_takeFirst_6 (t := 11) (by decide) q (fun q => ?_) (fun q => ?_)
  · refine r_aload_n eX5_takeFirst_11 rfl ?_
    refine t_virtI (As := []) (rest := []) (d' := d + 0 + 1) (ci := 5) eX5_takeFirst_12 k_5_85 rfl rfl rfl (by omega) (Nat.le_of_ble_eq_true rfl) (Nat.le_of_ble_eq_true rfl) (fun _ q => s_X5_takeWord q) q (fun v12 h12 q => ?_)
    refine r_istore_n (lv' := [_, _]) eX5_takeFirst_15 (Nat.le_of_ble_eq_true rfl) rfl ?_
    refine r_iload_n eX5_takeFirst_16 rfl ?_
    refine t_if_ne eX5_takeFirst_17 (t := 33) (by decide) q (fun q => ?_) (fun q => ?_)
    · refine r_iload_n eX5_takeFirst_33 rfl ?_
      exact t_rtI eX5_takeFirst_34 rfl q
    refine r_aload_n eX5_takeFirst_20 rfl ?_
    refine t_gfI eX5_takeFirst_21 f_5_32 q (fun v21 q => ?_)
    refine r_bipush (v := (10)) eX5_takeFirst_24 (by decide) ?_
    refine t_icmp_ne eX5_takeFirst_26 (t := 33) (by decide) q (fun q => ?_) (fun q => ?_)
    · refine r_iload_n eX5_takeFirst_33 rfl ?_
      exact t_rtI eX5_takeFirst_34 rfl q
    refine r_iconst (v := (4)) eX5_takeFirst_29 (by decide) ?_
    refine r_goto (t := 34) eX5_takeFirst_30 (by decide) ?_
    exact t_rtI eX5_takeFirst_34 rfl q
  refine r_iconst (v := (0)) eX5_takeFirst_9 (by decide) ?_
  exact t_rtI eX5_takeFirst_10 rfl q
theorem s_X5_takeMore {E : Ev} {d : Nat} {a0 : Nat} {h : Hp} {Φ : Ou → Hp → Prop} (q : OK (F_X5_takeMore E a0 h) Φ) : CE E mX5_takeMore (d + 1) [.ref a0] h 0 0 Φ := by
  show WE E mX5_takeMore (d + 1) 0 [some (.ref a0)] [] h 0 0 Φ
  refine r_aload_n eX5_takeMore_0 rfl ?_
  refine t_gfI eX5_takeMore_1 f_5_44 q (fun v1 q => ?_)
  refine r_bipush (v := (25)) eX5_takeMore_4 (by decide) ?_
  refine t_icmp_ne eX5_takeMore_6 (t := 31) (by decide) q (fun q => ?_) (fun q => ?_)
  · refine r_aload_n eX5_takeMore_31 rfl ?_
    refine t_gfI eX5_takeMore_32 f_5_44 q (fun v32 q => ?_)
    refine r_bipush (v := (22)) eX5_takeMore_35 (by decide) ?_
    refine t_icmp_ne eX5_takeMore_37 (t := 67) (by decide) q (fun q => ?_) (fun q => ?_)
    · refine r_aload_n eX5_takeMore_67 rfl ?_
      refine t_gfI eX5_takeMore_68 f_5_44 q (fun v68 q => ?_)
      refine r_bipush (v := (23)) eX5_takeMore_71 (by decide) ?_
      refine t_icmp_ne eX5_takeMore_73 (t := 95) (by decide) q (fun q => ?_) (fun q => ?_)
      · refine r_iconst (v := (2)) eX5_takeMore_95 (by decide) ?_
        exact t_rtI eX5_takeMore_96 rfl q
      refine r_aload_n eX5_takeMore_76 rfl ?_
      refine t_gfI eX5_takeMore_77 f_5_38 q (fun v77 q => ?_)
      refine r_bipush (v := (7)) eX5_takeMore_80 (by decide) ?_
      refine t_icmp_ne eX5_takeMore_82 (t := 95) (by decide) q (fun q => ?_) (fun q => ?_)
      · refine r_iconst (v := (2)) eX5_takeMore_95 (by decide) ?_
        exact t_rtI eX5_takeMore_96 rfl q
      refine r_aload_n eX5_takeMore_85 rfl ?_
      refine r_iconst (v := (4)) eX5_takeMore_86 (by decide) ?_
      refine r_aload_n eX5_takeMore_87 rfl ?_
      refine t_gfI eX5_takeMore_88 f_5_96 q (fun v88 q => ?_)
      refine t_virtI (As := [_, _]) (rest := []) (d' := d + 0 + 0) (ci := 5) eX5_takeMore_91 k_5_88 rfl rfl rfl (by omega) (Nat.le_of_ble_eq_true rfl) (Nat.le_of_ble_eq_true rfl) (fun _ q => s_X5_await q) q (fun v91 h91 q => ?_)
      exact t_rtI eX5_takeMore_94 rfl q
    refine r_aload_n eX5_takeMore_40 rfl ?_
    refine t_gfI eX5_takeMore_41 f_5_41 q (fun v41 q => ?_)
    refine r_iconst (v := (3)) eX5_takeMore_44 (by decide) ?_
    refine t_icmp_ne eX5_takeMore_45 (t := 50) (by decide) q (fun q => ?_) (fun q => ?_)
    · refine r_aload_n eX5_takeMore_50 rfl ?_
      refine r_dup eX5_takeMore_51 rfl ?_
      refine t_gfI eX5_takeMore_52 f_5_41 q (fun v52 q => ?_)
      refine r_iconst (v := (1)) eX5_takeMore_55 (by decide) ?_
      refine r_iadd eX5_takeMore_56 ?_
      refine t_pf eX5_takeMore_57 p_5_41 rfl rfl (fun q => by cases q) q (fun h57 q => ?_)
      refine r_aload_n eX5_takeMore_60 rfl ?_
      refine r_iconst (v := (1)) eX5_takeMore_61 (by decide) ?_
      refine r_iconst (v := (0)) eX5_takeMore_62 (by decide) ?_
      refine t_virtI (As := [_, _]) (rest := []) (d' := d + 0 + 0) (ci := 5) eX5_takeMore_63 k_5_88 rfl rfl rfl (by omega) (Nat.le_of_ble_eq_true rfl) (Nat.le_of_ble_eq_true rfl) (fun _ q => s_X5_await q) q (fun v63 h63 q => ?_)
      exact t_rtI eX5_takeMore_66 rfl q
    refine r_iconst (v := (4)) eX5_takeMore_48 (by decide) ?_
    exact t_rtI eX5_takeMore_49 rfl q
  refine r_aload_n eX5_takeMore_9 rfl ?_
  refine r_dup eX5_takeMore_10 rfl ?_
  refine t_gfI eX5_takeMore_11 f_5_32 q (fun v11 q => ?_)
  refine r_iconst (v := (1)) eX5_takeMore_14 (by decide) ?_
  refine r_iadd eX5_takeMore_15 ?_
  refine t_pf eX5_takeMore_16 p_5_32 rfl rfl (fun q => by cases q) q (fun h16 q => ?_)
  refine r_aload_n eX5_takeMore_19 rfl ?_
  refine r_iconst (v := (0)) eX5_takeMore_20 (by decide) ?_
  refine t_pf eX5_takeMore_21 p_5_41 rfl rfl (fun q => by cases q) q (fun h21 q => ?_)
  refine r_aload_n eX5_takeMore_24 rfl ?_
  refine r_iconst (v := (0)) eX5_takeMore_25 (by decide) ?_
  refine r_iconst (v := (0)) eX5_takeMore_26 (by decide) ?_
  refine t_virtI (As := [_, _]) (rest := []) (d' := d + 0 + 0) (ci := 5) eX5_takeMore_27 k_5_88 rfl rfl rfl (by omega) (Nat.le_of_ble_eq_true rfl) (Nat.le_of_ble_eq_true rfl) (fun _ q => s_X5_await q) q (fun v27 h27 q => ?_)
  exact t_rtI eX5_takeMore_30 rfl q
theorem sJ_X5_takeSide_37 {E : Ev} {d kc ks : Nat} {Φ : Ou → Hp → Prop} {y0 : Nat} {t0 : Nat} {t1 : Int32} {h : Hp}  (q : OK (J_X5_takeSide_37 E y0 t0 t1 h) Φ) : WE E mX5_takeSide (d + 1) 37 [some (.ref y0)] [.int t1, .ref t0] h kc ks Φ := by
  refine t_pf eX5_takeSide_37 p_5_96 rfl rfl (fun q => by cases q) q (fun h37 q => ?_)
  refine r_aload_n eX5_takeSide_40 rfl ?_
  refine r_aload_n eX5_takeSide_41 rfl ?_
  refine t_gfI eX5_takeSide_42 f_5_96 q (fun v42 q => ?_)
  refine r_aload_n eX5_takeSide_45 rfl ?_
  refine t_gfI eX5_takeSide_46 f_5_99 q (fun v46 q => ?_)
  refine r_bipush (v := (15)) eX5_takeSide_49 (by decide) ?_
  refine t_statI (As := [_, _, _]) (rest := [_]) (d' := d + 0 + 0) eX5_takeSide_51 k_5_102 rfl (by omega) (Nat.le_of_ble_eq_true rfl) (Nat.le_of_ble_eq_true rfl) (fun _ q => s_X11_wordOf q) q (fun v51 h51 q => ?_)
  refine r_bipush (v := (7)) eX5_takeSide_54 (by decide) ?_
  refine t_virtI (As := [_, _]) (rest := []) (d' := d + 0 + 0) (ci := 5) eX5_takeSide_56 k_5_106 rfl rfl rfl (by omega) (Nat.le_of_ble_eq_true rfl) (Nat.le_of_ble_eq_true rfl) (fun _ q => s_X5_keep q) q (fun v56 h56 q => ?_)
  exact t_rtI eX5_takeSide_59 rfl q
theorem sJ_X5_takeSide_20 {E : Ev} {d kc ks : Nat} {Φ : Ou → Hp → Prop} {y0 : Nat} {h : Hp}  (q : OK (J_X5_takeSide_20 E y0 h) Φ) : WE E mX5_takeSide (d + 1) 20 [some (.ref y0)] [] h kc ks Φ := by
  refine r_aload_n eX5_takeSide_20 rfl ?_
  refine r_aload_n eX5_takeSide_21 rfl ?_
  refine t_gfI eX5_takeSide_22 f_5_44 q (fun v22 q => ?_)
  refine r_bipush (v := (20)) eX5_takeSide_25 (by decide) ?_
  refine t_icmp_ne eX5_takeSide_27 (t := 35) (by decide) q (fun q => ?_) (fun q => ?_)
  · refine r_bipush (v := (12)) eX5_takeSide_35 (by decide) ?_
    exact sJ_X5_takeSide_37  q
  refine r_bipush (v := (11)) eX5_takeSide_30 (by decide) ?_
  refine r_goto (t := 37) eX5_takeSide_32 (by decide) ?_
  exact sJ_X5_takeSide_37  q
theorem s_X5_takeSide {E : Ev} {d : Nat} {a0 : Nat} {h : Hp} {Φ : Ou → Hp → Prop} (q : OK (F_X5_takeSide E a0 h) Φ) : CE E mX5_takeSide (d + 1) [.ref a0] h 0 0 Φ := by
  show WE E mX5_takeSide (d + 1) 0 [some (.ref a0)] [] h 0 0 Φ
  refine r_aload_n eX5_takeSide_0 rfl ?_
  refine t_gfI eX5_takeSide_1 f_5_44 q (fun v1 q => ?_)
  refine r_bipush (v := (20)) eX5_takeSide_4 (by decide) ?_
  refine t_icmp_eq eX5_takeSide_6 (t := 20) (by decide) q (fun q => ?_) (fun q => ?_)
  · exact sJ_X5_takeSide_20  q
  refine r_aload_n eX5_takeSide_9 rfl ?_
  refine t_gfI eX5_takeSide_10 f_5_44 q (fun v10 q => ?_)
  refine r_bipush (v := (21)) eX5_takeSide_13 (by decide) ?_
  refine t_icmp_eq eX5_takeSide_15 (t := 20) (by decide) q (fun q => ?_) (fun q => ?_)
  · exact sJ_X5_takeSide_20  q
  refine r_iconst (v := (2)) eX5_takeSide_18 (by decide) ?_
  exact t_rtI eX5_takeSide_19 rfl q
theorem s_X5_take {E : Ev} {d : Nat} {a0 : Nat} {h : Hp} {Φ : Ou → Hp → Prop} (q : OK (F_X5_take E a0 h) Φ) : CE E mX5_take (d + 3) [.ref a0] h 0 0 Φ := by
  show WE E mX5_take (d + 3) 0 [some (.ref a0)] [] h 0 0 Φ
  refine r_aload_n eX5_take_0 rfl ?_
  refine t_gfI eX5_take_1 f_5_38 q (fun v1 q => ?_)
  refine OK_ite q (fun c0 q => ?_) (fun n0 q => ?_)
  · refine r_tsw 44 eX5_take_4 (by rw [c0]; decide) ?_
    refine r_aload_n eX5_take_44 rfl ?_
    refine t_virtI (As := []) (rest := []) (d' := d + 0 + 2) (ci := 5) eX5_take_45 k_5_82 rfl rfl rfl (by omega) (Nat.le_of_ble_eq_true rfl) (Nat.le_of_ble_eq_true rfl) (fun _ q => s_X5_takeFirst q) q (fun v45 h45 q => ?_)
    exact t_rtI eX5_take_48 rfl q
  refine OK_ite q (fun c1 q => ?_) (fun n1 q => ?_)
  · refine r_tsw 49 eX5_take_4 (by rw [c1]; decide) ?_
    refine r_aload_n eX5_take_49 rfl ?_
    refine t_virtI (As := []) (rest := []) (d' := d + 1 + 1) (ci := 5) eX5_take_50 k_5_85 rfl rfl rfl (by omega) (Nat.le_of_ble_eq_true rfl) (Nat.le_of_ble_eq_true rfl) (fun _ q => s_X5_takeWord q) q (fun v50 h50 q => ?_)
    exact t_rtI eX5_take_53 rfl q
  refine OK_ite q (fun c2 q => ?_) (fun n2 q => ?_)
  · refine r_tsw 54 eX5_take_4 (by rw [c2]; decide) ?_
    refine r_aload_n eX5_take_54 rfl ?_
    refine t_gfI eX5_take_55 f_5_44 q (fun v55 q => ?_)
    refine r_bipush (v := (13)) eX5_take_58 (by decide) ?_
    refine t_icmp_ne eX5_take_60 (t := 70) (by decide) q (fun q => ?_) (fun q => ?_)
    · refine r_aload_n eX5_take_70 rfl ?_
      refine r_iconst (v := (1)) eX5_take_71 (by decide) ?_
      refine t_virtI (As := [_]) (rest := []) (d' := d + 1 + 1) (ci := 5) eX5_take_72 k_5_92 rfl rfl rfl (by omega) (Nat.le_of_ble_eq_true rfl) (Nat.le_of_ble_eq_true rfl) (fun _ q => s_X5_takeAmount q) q (fun v72 h72 q => ?_)
      exact t_rtI eX5_take_75 rfl q
    refine r_aload_n eX5_take_63 rfl ?_
    refine r_iconst (v := (4)) eX5_take_64 (by decide) ?_
    refine r_iconst (v := (2)) eX5_take_65 (by decide) ?_
    refine t_virtI (As := [_, _]) (rest := []) (d' := d + 2 + 0) (ci := 5) eX5_take_66 k_5_88 rfl rfl rfl (by omega) (Nat.le_of_ble_eq_true rfl) (Nat.le_of_ble_eq_true rfl) (fun _ q => s_X5_await q) q (fun v66 h66 q => ?_)
    exact t_rtI eX5_take_69 rfl q
  refine OK_ite q (fun c3 q => ?_) (fun n3 q => ?_)
  · refine r_tsw 76 eX5_take_4 (by rw [c3]; decide) ?_
    refine r_aload_n eX5_take_76 rfl ?_
    refine r_iconst (v := (4)) eX5_take_77 (by decide) ?_
    refine t_virtI (As := [_]) (rest := []) (d' := d + 1 + 1) (ci := 5) eX5_take_78 k_5_92 rfl rfl rfl (by omega) (Nat.le_of_ble_eq_true rfl) (Nat.le_of_ble_eq_true rfl) (fun _ q => s_X5_takeAmount q) q (fun v78 h78 q => ?_)
    exact t_rtI eX5_take_81 rfl q
  refine OK_ite q (fun c4 q => ?_) (fun n4 q => ?_)
  · refine r_tsw 82 eX5_take_4 (by rw [c4]; decide) ?_
    refine r_aload_n eX5_take_82 rfl ?_
    refine t_gfI eX5_take_83 f_5_44 q (fun v83 q => ?_)
    refine r_bipush (v := (12)) eX5_take_86 (by decide) ?_
    refine t_icmp_ge eX5_take_88 (t := 115) (by decide) q (fun q => ?_) (fun q => ?_)
    · refine r_iconst (v := (2)) eX5_take_115 (by decide) ?_
      exact t_rtI eX5_take_116 rfl q
    refine r_aload_n eX5_take_91 rfl ?_
    refine r_aload_n eX5_take_92 rfl ?_
    refine t_gfI eX5_take_93 f_5_96 q (fun v93 q => ?_)
    refine r_aload_n eX5_take_96 rfl ?_
    refine t_gfI eX5_take_97 f_5_99 q (fun v97 q => ?_)
    refine r_aload_n eX5_take_100 rfl ?_
    refine t_gfI eX5_take_101 f_5_44 q (fun v101 q => ?_)
    refine t_statI (As := [_, _, _]) (rest := [_]) (d' := d + 2 + 0) eX5_take_104 k_5_102 rfl (by omega) (Nat.le_of_ble_eq_true rfl) (Nat.le_of_ble_eq_true rfl) (fun _ q => s_X11_wordOf q) q (fun v104 h104 q => ?_)
    refine r_bipush (v := (6)) eX5_take_107 (by decide) ?_
    refine t_virtI (As := [_, _]) (rest := []) (d' := d + 2 + 0) (ci := 5) eX5_take_109 k_5_106 rfl rfl rfl (by omega) (Nat.le_of_ble_eq_true rfl) (Nat.le_of_ble_eq_true rfl) (fun _ q => s_X5_keep q) q (fun v109 h109 q => ?_)
    refine r_goto (t := 116) eX5_take_112 (by decide) ?_
    exact t_rtI eX5_take_116 rfl q
  refine OK_ite q (fun c5 q => ?_) (fun n5 q => ?_)
  · refine r_tsw 117 eX5_take_4 (by rw [c5]; decide) ?_
    refine r_aload_n eX5_take_117 rfl ?_
    refine t_virtI (As := []) (rest := []) (d' := d + 1 + 1) (ci := 5) eX5_take_118 k_5_109 rfl rfl rfl (by omega) (Nat.le_of_ble_eq_true rfl) (Nat.le_of_ble_eq_true rfl) (fun _ q => s_X5_takeSide q) q (fun v118 h118 q => ?_)
    exact t_rtI eX5_take_121 rfl q
  refine r_tsw 122 eX5_take_4 (tsw_d (by have z0 := ne_i n0; have z1 := ne_i n1; have z2 := ne_i n2; have z3 := ne_i n3; have z4 := ne_i n4; have z5 := ne_i n5; rw [show (0 : Int32).toInt = 0 from by decide] at z0; rw [show (1 : Int32).toInt = 1 from by decide] at z1; rw [show (2 : Int32).toInt = 2 from by decide] at z2; rw [show (3 : Int32).toInt = 3 from by decide] at z3; rw [show (4 : Int32).toInt = 4 from by decide] at z4; rw [show (5 : Int32).toInt = 5 from by decide] at z5; omega) (by decide) (by decide)) ?_
  refine r_aload_n eX5_take_122 rfl ?_
  refine t_virtI (As := []) (rest := []) (d' := d + 1 + 1) (ci := 5) eX5_take_123 k_5_112 rfl rfl rfl (by omega) (Nat.le_of_ble_eq_true rfl) (Nat.le_of_ble_eq_true rfl) (fun _ q => s_X5_takeMore q) q (fun v123 h123 q => ?_)
  exact t_rtI eX5_take_126 rfl q
theorem sL_X5_read_38 {E : Ev} {d kc ks : Nat} {Φ : Ou → Hp → Prop} {y0 : Nat} {y1 : Int32} {K84 : Int32 → Hp → Rs} (hK84 : ∀ (w2 : Int32) (w3 : Int32) (h : Hp), OK (K84 w2 h) Φ → WE E mX5_read (d + 4) 84 [some (.ref y0), some (.int y1), some (.int w2), some (.int w3)] [] h kc ks Φ) : ∀ (g : Nat) (y2 : Int32) (y3 : Int32) (h : Hp), OK (L_X5_read_38 E K84 y0 y1 g y2 y3 h) Φ → WE E mX5_read (d + 4) 38 [some (.ref y0), some (.int y1), some (.int y2), some (.int y3)] [] h kc ks Φ := by
  intro g
  induction g with
  | zero => intro y2 y3 h q; exact q.elim
  | succ g ih =>
    intro y2 y3 h q
    refine r_iload_n eX5_read_38 rfl ?_
    refine r_iload_n eX5_read_39 rfl ?_
    refine t_icmp_gt eX5_read_40 (t := 84) (by decide) q (fun q => ?_) (fun q => ?_)
    · exact hK84 _ _ _ q
    refine r_iload_n eX5_read_43 rfl ?_
    refine t_if_ne eX5_read_44 (t := 84) (by decide) q (fun q => ?_) (fun q => ?_)
    · exact hK84 _ _ _ q
    refine r_aload_n eX5_read_47 rfl ?_
    refine t_gfI eX5_read_48 f_5_44 q (fun v48 q => ?_)
    refine r_bipush (v := (26)) eX5_read_51 (by decide) ?_
    refine t_icmp_eq eX5_read_53 (t := 84) (by decide) q (fun q => ?_) (fun q => ?_)
    · exact hK84 _ _ _ q
    refine r_aload_n eX5_read_56 rfl ?_
    refine r_iload_n eX5_read_57 rfl ?_
    refine t_virtV (As := [_]) (rest := []) (d' := d + 1 + 2) (ci := 5) eX5_read_58 k_5_47 rfl rfl rfl (by omega) (Nat.le_of_ble_eq_true rfl) (Nat.le_of_ble_eq_true rfl) (fun _ q => s_X5_scan q) q (fun h58 q => ?_)
    refine r_aload_n eX5_read_61 rfl ?_
    refine t_gfI eX5_read_62 f_5_44 q (fun v62 q => ?_)
    refine r_iconst (v := (-1)) eX5_read_65 (by decide) ?_
    refine t_icmp_ne eX5_read_66 (t := 73) (by decide) q (fun q => ?_) (fun q => ?_)
    · refine r_aload_n eX5_read_73 rfl ?_
      refine t_virtI (As := []) (rest := []) (d' := d + 0 + 3) (ci := 5) eX5_read_74 k_5_51 rfl rfl rfl (by omega) (Nat.le_of_ble_eq_true rfl) (Nat.le_of_ble_eq_true rfl) (fun _ q => s_X5_take q) q (fun v74 h74 q => ?_)
      refine r_istore_n (lv' := [_, _, _, _]) eX5_read_77 (Nat.le_of_ble_eq_true rfl) rfl ?_
      refine r_iinc (v := (1)) (lv' := [_, _, _, _]) eX5_read_78 rfl (by decide) rfl ?_
      refine r_goto (t := 38) eX5_read_81 (by decide) ?_
      exact ih _ _ _ q
    refine r_iconst (v := (1)) eX5_read_69 (by decide) ?_
    refine r_goto (t := 77) eX5_read_70 (by decide) ?_
    refine r_istore_n (lv' := [_, _, _, _]) eX5_read_77 (Nat.le_of_ble_eq_true rfl) rfl ?_
    refine r_iinc (v := (1)) (lv' := [_, _, _, _]) eX5_read_78 rfl (by decide) rfl ?_
    refine r_goto (t := 38) eX5_read_81 (by decide) ?_
    exact ih _ _ _ q
theorem sJ_X5_read_84 {E : Ev} {d kc ks : Nat} {Φ : Ou → Hp → Prop} {y0 : Nat} {y1 : Int32} {y2 : Int32} {y3 : Int32} {h : Hp}  (q : OK (J_X5_read_84 E y0 y2 h) Φ) : WE E mX5_read (d + 4) 84 [some (.ref y0), some (.int y1), some (.int y2), some (.int y3)] [] h kc ks Φ := by
  refine r_aload_n eX5_read_84 rfl ?_
  refine r_iconst (v := (0)) eX5_read_85 (by decide) ?_
  refine t_pf eX5_read_86 p_5_23 rfl rfl (fun q => by cases q) q (fun h86 q => ?_)
  refine r_aload_n eX5_read_89 rfl ?_
  refine r_iload_n eX5_read_90 rfl ?_
  refine t_pf eX5_read_91 p_5_55 rfl rfl (fun q => by cases q) q (fun h91 q => ?_)
  refine r_aload_n eX5_read_94 rfl ?_
  refine r_iload_n eX5_read_95 rfl ?_
  refine t_if_ne eX5_read_96 (t := 103) (by decide) q (fun q => ?_) (fun q => ?_)
  · refine r_aload_n eX5_read_103 rfl ?_
    refine t_gfI eX5_read_104 f_5_58 q (fun v104 q => ?_)
    refine t_pf eX5_read_107 p_5_15 rfl rfl (fun q => by cases q) q (fun h107 q => ?_)
    refine r_iload_n eX5_read_110 rfl ?_
    exact t_rtI eX5_read_111 rfl q
  refine r_iconst (v := (-1)) eX5_read_99 (by decide) ?_
  refine r_goto (t := 107) eX5_read_100 (by decide) ?_
  refine t_pf eX5_read_107 p_5_15 rfl rfl (fun q => by cases q) q (fun h107 q => ?_)
  refine r_iload_n eX5_read_110 rfl ?_
  exact t_rtI eX5_read_111 rfl q
theorem s_X5_read {E : Ev} {d : Nat} {a0 : Nat} {x1 : Int32} {h : Hp} {Φ : Ou → Hp → Prop} (q : OK (F_X5_read E a0 x1 h) Φ) : CE E mX5_read (d + 4) [.ref a0, .int x1] h 0 0 Φ := by
  show WE E mX5_read (d + 4) 0 [some (.ref a0), some (.int x1), none, none] [] h 0 0 Φ
  refine r_aload_n eX5_read_0 rfl ?_
  refine t_gfR eX5_read_1 f_5_19 q (fun v1 q => ?_)
  refine r_iconst (v := (0)) eX5_read_4 (by decide) ?_
  refine t_statV (As := [_, _]) (rest := []) (d' := d + 3 + 0) eX5_read_5 k_5_26 rfl (by omega) (Nat.le_of_ble_eq_true rfl) (Nat.le_of_ble_eq_true rfl) (fun _ q => s_J7_fill_53178 q) q (fun h5 q => ?_)
  refine r_aload_n eX5_read_8 rfl ?_
  refine r_iconst (v := (0)) eX5_read_9 (by decide) ?_
  refine t_pf eX5_read_10 p_5_32 rfl rfl (fun q => by cases q) q (fun h10 q => ?_)
  refine r_aload_n eX5_read_13 rfl ?_
  refine r_iconst (v := (0)) eX5_read_14 (by decide) ?_
  refine t_pf eX5_read_15 p_5_35 rfl rfl (fun q => by cases q) q (fun h15 q => ?_)
  refine r_aload_n eX5_read_18 rfl ?_
  refine r_iconst (v := (0)) eX5_read_19 (by decide) ?_
  refine t_pf eX5_read_20 p_5_38 rfl rfl (fun q => by cases q) q (fun h20 q => ?_)
  refine r_aload_n eX5_read_23 rfl ?_
  refine r_iconst (v := (0)) eX5_read_24 (by decide) ?_
  refine t_pf eX5_read_25 p_5_41 rfl rfl (fun q => by cases q) q (fun h25 q => ?_)
  refine r_aload_n eX5_read_28 rfl ?_
  refine r_bipush (v := (25)) eX5_read_29 (by decide) ?_
  refine t_pf eX5_read_31 p_5_44 rfl rfl (fun q => by cases q) q (fun h31 q => ?_)
  refine r_iconst (v := (0)) eX5_read_34 (by decide) ?_
  refine r_istore_n (lv' := [_, _, _, _]) eX5_read_35 (Nat.le_of_ble_eq_true rfl) rfl ?_
  refine r_iconst (v := (0)) eX5_read_36 (by decide) ?_
  refine r_istore_n (lv' := [_, _, _, _]) eX5_read_37 (Nat.le_of_ble_eq_true rfl) rfl ?_
  refine sL_X5_read_38 (fun w1 w2 h3 q => ?_) _ _ _ _ q
  exact sJ_X5_read_84  q
theorem s_X6_size {E : Ev} {d : Nat} {a0 : Nat} {h : Hp} {Φ : Ou → Hp → Prop} (q : OK (F_X6_size E a0 h) Φ) : CE E mX6_size (d + 1) [.ref a0] h 0 0 Φ := by
  show WE E mX6_size (d + 1) 0 [some (.ref a0)] [] h 0 0 Φ
  refine r_aload_n eX6_size_0 rfl ?_
  refine t_gfR eX6_size_1 f_6_11 q (fun v1 q => ?_)
  refine r_iconst (v := (0)) eX6_size_4 (by decide) ?_
  refine t_gaL eX6_size_5 q (fun v5 q => ?_)
  refine t_statI (As := [_]) (rest := []) (d' := d + 0 + 0) eX6_size_6 k_6_21 rfl (by omega) (Nat.le_of_ble_eq_true rfl) (Nat.le_of_ble_eq_true rfl) (fun _ q => s_J13_bitCount_95d88 q) q (fun v6 h6 q => ?_)
  refine r_aload_n eX6_size_9 rfl ?_
  refine t_gfR eX6_size_10 f_6_11 q (fun v10 q => ?_)
  refine r_iconst (v := (1)) eX6_size_13 (by decide) ?_
  refine t_gaL eX6_size_14 q (fun v14 q => ?_)
  refine t_statI (As := [_]) (rest := [_]) (d' := d + 0 + 0) eX6_size_15 k_6_21 rfl (by omega) (Nat.le_of_ble_eq_true rfl) (Nat.le_of_ble_eq_true rfl) (fun _ q => s_J13_bitCount_95d88 q) q (fun v15 h15 q => ?_)
  refine r_iadd eX6_size_18 ?_
  refine r_aload_n eX6_size_19 rfl ?_
  refine t_gfR eX6_size_20 f_6_11 q (fun v20 q => ?_)
  refine r_iconst (v := (2)) eX6_size_23 (by decide) ?_
  refine t_gaL eX6_size_24 q (fun v24 q => ?_)
  refine t_statI (As := [_]) (rest := [_]) (d' := d + 0 + 0) eX6_size_25 k_6_21 rfl (by omega) (Nat.le_of_ble_eq_true rfl) (Nat.le_of_ble_eq_true rfl) (fun _ q => s_J13_bitCount_95d88 q) q (fun v25 h25 q => ?_)
  refine r_iadd eX6_size_28 ?_
  refine r_aload_n eX6_size_29 rfl ?_
  refine t_gfR eX6_size_30 f_6_11 q (fun v30 q => ?_)
  refine r_iconst (v := (3)) eX6_size_33 (by decide) ?_
  refine t_gaL eX6_size_34 q (fun v34 q => ?_)
  refine t_statI (As := [_]) (rest := [_]) (d' := d + 0 + 0) eX6_size_35 k_6_21 rfl (by omega) (Nat.le_of_ble_eq_true rfl) (Nat.le_of_ble_eq_true rfl) (fun _ q => s_J13_bitCount_95d88 q) q (fun v35 h35 q => ?_)
  refine r_iadd eX6_size_38 ?_
  exact t_rtI eX6_size_39 rfl q
theorem sL_X6_nth_19 {E : Ev} {d kc ks : Nat} {Φ : Ou → Hp → Prop} {y0 : Nat} {y1 : Int32} {y3 : Int32} {K70 : Int32 → Hp → Rs} (hK70 : ∀ (w2 : Int32) (w4 : Int32) (h : Hp), OK (K70 w2 h) Φ → WE E mX6_nth (d + 1) 70 [some (.ref y0), some (.int y1), some (.int w2), some (.int y3), some (.int w4)] [] h kc ks Φ) : ∀ (g : Nat) (y2 : Int32) (y4 : Int32) (h : Hp), OK (L_X6_nth_19 E K70 y0 y1 y3 g y2 y4 h) Φ → WE E mX6_nth (d + 1) 19 [some (.ref y0), some (.int y1), some (.int y2), some (.int y3), some (.int y4)] [] h kc ks Φ := by
  intro g
  induction g with
  | zero => intro y2 y4 h q; exact q.elim
  | succ g ih =>
    intro y2 y4 h q
    refine r_iload eX6_nth_19 rfl ?_
    refine r_iconst (v := (2)) eX6_nth_21 (by decide) ?_
    refine t_icmp_ge eX6_nth_22 (t := 70) (by decide) q (fun q => ?_) (fun q => ?_)
    · exact hK70 _ _ _ q
    refine r_aload_n eX6_nth_25 rfl ?_
    refine t_gfR eX6_nth_26 f_6_11 q (fun v26 q => ?_)
    refine r_iconst (v := (2)) eX6_nth_29 (by decide) ?_
    refine r_iload eX6_nth_30 rfl ?_
    refine r_imul eX6_nth_32 ?_
    refine r_iload_n eX6_nth_33 rfl ?_
    refine r_bipush (v := (6)) eX6_nth_34 (by decide) ?_
    refine r_ishr eX6_nth_36 ?_
    refine r_iadd eX6_nth_37 ?_
    refine t_gaL eX6_nth_38 q (fun v38 q => ?_)
    refine r_iload_n eX6_nth_39 rfl ?_
    refine r_bipush (v := (63)) eX6_nth_40 (by decide) ?_
    refine r_iand eX6_nth_42 ?_
    refine t_statI (As := [_, _]) (rest := []) (d' := d + 0 + 0) eX6_nth_43 k_6_30 rfl (by omega) (Nat.le_of_ble_eq_true rfl) (Nat.le_of_ble_eq_true rfl) (fun _ q => s_X11_isIn q) q (fun v43 h43 q => ?_)
    refine t_if_eq eX6_nth_46 (t := 64) (by decide) q (fun q => ?_) (fun q => ?_)
    · refine r_iinc (v := (1)) (lv' := [_, _, _, _, _]) eX6_nth_64 rfl (by decide) rfl ?_
      refine r_goto (t := 19) eX6_nth_67 (by decide) ?_
      exact ih _ _ _ q
    refine r_iload_n eX6_nth_49 rfl ?_
    refine r_iload_n eX6_nth_50 rfl ?_
    refine t_icmp_ne eX6_nth_51 (t := 61) (by decide) q (fun q => ?_) (fun q => ?_)
    · refine r_iinc (v := (1)) (lv' := [_, _, _, _, _]) eX6_nth_61 rfl (by decide) rfl ?_
      refine r_iinc (v := (1)) (lv' := [_, _, _, _, _]) eX6_nth_64 rfl (by decide) rfl ?_
      refine r_goto (t := 19) eX6_nth_67 (by decide) ?_
      exact ih _ _ _ q
    refine r_iconst (v := (2)) eX6_nth_54 (by decide) ?_
    refine r_iload_n eX6_nth_55 rfl ?_
    refine r_imul eX6_nth_56 ?_
    refine r_iload eX6_nth_57 rfl ?_
    refine r_iadd eX6_nth_59 ?_
    exact t_rtI eX6_nth_60 rfl q
theorem sL_X6_nth_10 {E : Ev} {d kc ks : Nat} {Φ : Ou → Hp → Prop} {y0 : Nat} {y1 : Int32}  : ∀ (g : Nat) (y2 : Int32) (y3 : Int32) (y4 : Option Value) (h : Hp), OK (L_X6_nth_10 E y0 y1 g y2 y3 h) Φ → WE E mX6_nth (d + 1) 10 [some (.ref y0), some (.int y1), some (.int y2), some (.int y3), y4] [] h kc ks Φ := by
  intro g
  induction g with
  | zero => intro y2 y3 y4 h q; exact q.elim
  | succ g ih =>
    intro y2 y3 y4 h q
    refine r_iload_n eX6_nth_10 rfl ?_
    refine r_bipush (v := (120)) eX6_nth_11 (by decide) ?_
    refine t_icmp_ge eX6_nth_13 (t := 76) (by decide) q (fun q => ?_) (fun q => ?_)
    · refine r_iconst (v := (-1)) eX6_nth_76 (by decide) ?_
      exact t_rtI eX6_nth_77 rfl q
    refine r_iconst (v := (0)) eX6_nth_16 (by decide) ?_
    refine r_istore (lv' := [_, _, _, _, _]) eX6_nth_17 (Nat.le_of_ble_eq_true rfl) rfl ?_
    refine sL_X6_nth_19 (fun w1 w2 h3 q => ?_) _ _ _ _ q
    refine r_iinc (v := (1)) (lv' := [_, _, _, _, _]) eX6_nth_70 rfl (by decide) rfl ?_
    refine r_goto (t := 10) eX6_nth_73 (by decide) ?_
    exact ih _ _ _ _ q
theorem s_X6_nth {E : Ev} {d : Nat} {a0 : Nat} {x1 : Int32} {h : Hp} {Φ : Ou → Hp → Prop} (q : OK (F_X6_nth E a0 x1 h) Φ) : CE E mX6_nth (d + 1) [.ref a0, .int x1] h 0 0 Φ := by
  show WE E mX6_nth (d + 1) 0 [some (.ref a0), some (.int x1), none, none, none] [] h 0 0 Φ
  refine r_iload_n eX6_nth_0 rfl ?_
  refine t_if_ge eX6_nth_1 (t := 6) (by decide) q (fun q => ?_) (fun q => ?_)
  · refine r_iconst (v := (0)) eX6_nth_6 (by decide) ?_
    refine r_istore_n (lv' := [_, _, _, _, _]) eX6_nth_7 (Nat.le_of_ble_eq_true rfl) rfl ?_
    refine r_iconst (v := (0)) eX6_nth_8 (by decide) ?_
    refine r_istore_n (lv' := [_, _, _, _, _]) eX6_nth_9 (Nat.le_of_ble_eq_true rfl) rfl ?_
    exact sL_X6_nth_10  _ _ _ _ _ q
  refine r_iconst (v := (-1)) eX6_nth_4 (by decide) ?_
  exact t_rtI eX6_nth_5 rfl q
theorem s_X8_lay {E : Ev} {d : Nat} {a0 : Nat} {x1 : Int32} {x2 : Int32} {h : Hp} {Φ : Ou → Hp → Prop} (q : OK (F_X8_lay E a0 x1 x2 h) Φ) : CE E mX8_lay (d + 1) [.ref a0, .int x1, .int x2] h 0 0 Φ := by
  show WE E mX8_lay (d + 1) 0 [some (.ref a0), some (.int x1), some (.int x2)] [] h 0 0 Φ
  refine r_aload_n eX8_lay_0 rfl ?_
  refine r_iconst (v := (0)) eX8_lay_1 (by decide) ?_
  refine t_pfZ eX8_lay_2 p_8_9 (fun q => by cases q) q (fun h2 q => ?_)
  refine r_aload_n eX8_lay_5 rfl ?_
  refine r_iload_n eX8_lay_6 rfl ?_
  refine t_pf eX8_lay_7 p_8_19 rfl rfl (fun q => by cases q) q (fun h7 q => ?_)
  refine r_aload_n eX8_lay_10 rfl ?_
  refine r_iload_n eX8_lay_11 rfl ?_
  refine t_pf eX8_lay_12 p_8_23 rfl rfl (fun q => by cases q) q (fun h12 q => ?_)
  refine r_aload_n eX8_lay_15 rfl ?_
  refine t_gfR eX8_lay_16 f_8_15 q (fun v16 q => ?_)
  refine r_lconst (v := 0) eX8_lay_19 rfl ?_
  refine t_statV (As := [_, _]) (rest := []) (d' := d + 0 + 0) eX8_lay_20 k_8_26 rfl (by omega) (Nat.le_of_ble_eq_true rfl) (Nat.le_of_ble_eq_true rfl) (fun _ q => s_J7_fill_d0a16 q) q (fun h20 q => ?_)
  exact t_rtV eX8_lay_23 rfl q
theorem s_X8_cut {E : Ev} {d : Nat} {a0 : Nat} {x1 : Int64} {h : Hp} {Φ : Ou → Hp → Prop} (q : OK (F_X8_cut E a0 x1 h) Φ) : CE E mX8_cut (d + 0) [.ref a0, .long x1] h 0 0 Φ := by
  show WE E mX8_cut (d + 0) 0 [some (.ref a0), some (.long x1), none] [] h 0 0 Φ
  refine r_aload_n eX8_cut_0 rfl ?_
  refine t_gfI eX8_cut_1 f_8_19 q (fun v1 q => ?_)
  refine OK_ite q (fun c0 q => ?_) (fun n0 q => ?_)
  · refine r_tsw 32 eX8_cut_4 (by rw [c0]; decide) ?_
    refine r_lload_n eX8_cut_32 rfl ?_
    refine r_l2i eX8_cut_33 ?_
    refine r_i2b eX8_cut_34 ?_
    refine r_i2l eX8_cut_35 ?_
    exact t_rtL eX8_cut_36 rfl q
  refine OK_ite q (fun c1 q => ?_) (fun n1 q => ?_)
  · refine r_tsw 37 eX8_cut_4 (by rw [c1]; decide) ?_
    refine r_lload_n eX8_cut_37 rfl ?_
    refine r_l2i eX8_cut_38 ?_
    refine r_i2s eX8_cut_39 ?_
    refine r_i2l eX8_cut_40 ?_
    exact t_rtL eX8_cut_41 rfl q
  refine OK_ite q (fun c2 q => ?_) (fun n2 q => ?_)
  · refine r_tsw 42 eX8_cut_4 (by rw [c2]; decide) ?_
    refine r_lload_n eX8_cut_42 rfl ?_
    refine r_l2i eX8_cut_43 ?_
    refine r_i2l eX8_cut_44 ?_
    exact t_rtL eX8_cut_45 rfl q
  refine r_tsw 46 eX8_cut_4 (tsw_d (by have z0 := ne_i n0; have z1 := ne_i n1; have z2 := ne_i n2; rw [show (0 : Int32).toInt = 0 from by decide] at z0; rw [show (1 : Int32).toInt = 1 from by decide] at z1; rw [show (2 : Int32).toInt = 2 from by decide] at z2; omega) (by decide) (by decide)) ?_
  refine r_lload_n eX8_cut_46 rfl ?_
  exact t_rtL eX8_cut_47 rfl q
theorem sL_X8_isSayable_13 {E : Ev} {d kc ks : Nat} {Φ : Ou → Hp → Prop} {y0 : Nat}  : ∀ (g : Nat) (y1 : Int32) (h : Hp), OK (L_X8_isSayable_13 E y0 g y1 h) Φ → WE E mX8_isSayable (d + 0) 13 [some (.ref y0), some (.int y1)] [] h kc ks Φ := by
  intro g
  induction g with
  | zero => intro y1 h q; exact q.elim
  | succ g ih =>
    intro y1 h q
    refine r_iload_n eX8_isSayable_13 rfl ?_
    refine r_aload_n eX8_isSayable_14 rfl ?_
    refine t_gfI eX8_isSayable_15 f_8_23 q (fun v15 q => ?_)
    refine t_icmp_ge eX8_isSayable_18 (t := 53) (by decide) q (fun q => ?_) (fun q => ?_)
    · refine r_iconst (v := (1)) eX8_isSayable_53 (by decide) ?_
      exact t_rtZ eX8_isSayable_54 rfl q
    refine r_aload_n eX8_isSayable_21 rfl ?_
    refine t_gfR eX8_isSayable_22 f_8_15 q (fun v22 q => ?_)
    refine r_iload_n eX8_isSayable_25 rfl ?_
    refine t_gaL eX8_isSayable_26 q (fun v26 q => ?_)
    refine r_lconst (v := 0) eX8_isSayable_27 rfl ?_
    refine t_lc_lt eX8_isSayable_28 eX8_isSayable_29 (t := 45) (by decide) q (fun q => ?_) (fun q => ?_)
    · refine r_iconst (v := (0)) eX8_isSayable_45 (by decide) ?_
      exact t_rtZ eX8_isSayable_46 rfl q
    refine r_aload_n eX8_isSayable_32 rfl ?_
    refine t_gfR eX8_isSayable_33 f_8_15 q (fun v33 q => ?_)
    refine r_iload_n eX8_isSayable_36 rfl ?_
    refine t_gaL eX8_isSayable_37 q (fun v37 q => ?_)
    refine r_ldc2 eX8_isSayable_38 g_8_32 ?_
    refine t_lc_lt eX8_isSayable_41 eX8_isSayable_42 (t := 47) (by decide) q (fun q => ?_) (fun q => ?_)
    · refine r_iinc (v := (1)) (lv' := [_, _]) eX8_isSayable_47 rfl (by decide) rfl ?_
      refine r_goto (t := 13) eX8_isSayable_50 (by decide) ?_
      exact ih _ _ q
    refine r_iconst (v := (0)) eX8_isSayable_45 (by decide) ?_
    exact t_rtZ eX8_isSayable_46 rfl q
theorem s_X8_isSayable {E : Ev} {d : Nat} {a0 : Nat} {h : Hp} {Φ : Ou → Hp → Prop} (q : OK (F_X8_isSayable E a0 h) Φ) : CE E mX8_isSayable (d + 0) [.ref a0] h 0 0 Φ := by
  show WE E mX8_isSayable (d + 0) 0 [some (.ref a0), none] [] h 0 0 Φ
  refine r_aload_n eX8_isSayable_0 rfl ?_
  refine t_gfI eX8_isSayable_1 f_8_23 q (fun v1 q => ?_)
  refine r_bipush (v := (10)) eX8_isSayable_4 (by decide) ?_
  refine t_icmp_le eX8_isSayable_6 (t := 11) (by decide) q (fun q => ?_) (fun q => ?_)
  · refine r_iconst (v := (0)) eX8_isSayable_11 (by decide) ?_
    refine r_istore_n (lv' := [_, _]) eX8_isSayable_12 (Nat.le_of_ble_eq_true rfl) rfl ?_
    exact sL_X8_isSayable_13  _ _ _ q
  refine r_iconst (v := (0)) eX8_isSayable_9 (by decide) ?_
  exact t_rtZ eX8_isSayable_10 rfl q
theorem sL_X9_learnGround_2 {E : Ev} {d kc ks : Nat} {Φ : Ou → Hp → Prop} {y0 : Nat} {y1 : Int32}  : ∀ (g : Nat) (y2 : Int32) (y3 : Option Value) (h : Hp), OK (L_X9_learnGround_2 E y0 y1 g y2 h) Φ → WE E mX9_learnGround (d + 2) 2 [some (.ref y0), some (.int y1), some (.int y2), y3] [] h kc ks Φ := by
  intro g
  induction g with
  | zero => intro y2 y3 h q; exact q.elim
  | succ g ih =>
    intro y2 y3 h q
    refine r_iload_n eX9_learnGround_2 rfl ?_
    refine r_bipush (v := (12)) eX9_learnGround_3 (by decide) ?_
    refine t_icmp_ge eX9_learnGround_5 (t := 55) (by decide) q (fun q => ?_) (fun q => ?_)
    · exact t_rtV eX9_learnGround_55 rfl q
    refine r_aload_n eX9_learnGround_8 rfl ?_
    refine t_gfR eX9_learnGround_9 f_9_36 q (fun v9 q => ?_)
    refine r_iload_n eX9_learnGround_12 rfl ?_
    refine r_iload_n eX9_learnGround_13 rfl ?_
    refine t_virtI (As := [_, _]) (rest := []) (d' := d + 1 + 0) (ci := 2) eX9_learnGround_14 k_9_53 rfl rfl rfl (by omega) (Nat.le_of_ble_eq_true rfl) (Nat.le_of_ble_eq_true rfl) (fun _ q => s_X2_kindsOf q) q (fun v14 h14 q => ?_)
    refine r_istore_n (lv' := [_, _, _, _]) eX9_learnGround_17 (Nat.le_of_ble_eq_true rfl) rfl ?_
    refine r_aload_n eX9_learnGround_18 rfl ?_
    refine t_gfR eX9_learnGround_19 f_9_9 q (fun v19 q => ?_)
    refine r_iload_n eX9_learnGround_22 rfl ?_
    refine r_bipush (v := (12)) eX9_learnGround_23 (by decide) ?_
    refine r_imul eX9_learnGround_25 ?_
    refine r_iload_n eX9_learnGround_26 rfl ?_
    refine r_iadd eX9_learnGround_27 ?_
    refine r_iload_n eX9_learnGround_28 rfl ?_
    refine t_paI eX9_learnGround_29 q (fun h29 q => ?_)
    refine r_aload_n eX9_learnGround_30 rfl ?_
    refine t_gfR eX9_learnGround_31 f_9_15 q (fun v31 q => ?_)
    refine r_iload_n eX9_learnGround_34 rfl ?_
    refine r_bipush (v := (12)) eX9_learnGround_35 (by decide) ?_
    refine r_imul eX9_learnGround_37 ?_
    refine r_iload_n eX9_learnGround_38 rfl ?_
    refine r_iadd eX9_learnGround_39 ?_
    refine r_aload_n eX9_learnGround_40 rfl ?_
    refine t_gfR eX9_learnGround_41 f_9_32 q (fun v41 q => ?_)
    refine r_iload_n eX9_learnGround_44 rfl ?_
    refine t_virtL (As := [_]) (rest := [_, _]) (d' := d + 0 + 1) (ci := 10) eX9_learnGround_45 k_9_59 rfl rfl rfl (by omega) (Nat.le_of_ble_eq_true rfl) (Nat.le_of_ble_eq_true rfl) (fun _ q => s_X10_placesWith q) q (fun v45 h45 q => ?_)
    refine t_paL eX9_learnGround_48 q (fun h48 q => ?_)
    refine r_iinc (v := (1)) (lv' := [_, _, _, _]) eX9_learnGround_49 rfl (by decide) rfl ?_
    refine r_goto (t := 2) eX9_learnGround_52 (by decide) ?_
    exact ih _ _ _ q
theorem s_X9_learnGround {E : Ev} {d : Nat} {a0 : Nat} {x1 : Int32} {h : Hp} {Φ : Ou → Hp → Prop} (q : OK (F_X9_learnGround E a0 x1 h) Φ) : CE E mX9_learnGround (d + 2) [.ref a0, .int x1] h 0 0 Φ := by
  show WE E mX9_learnGround (d + 2) 0 [some (.ref a0), some (.int x1), none, none] [] h 0 0 Φ
  refine r_iconst (v := (0)) eX9_learnGround_0 (by decide) ?_
  refine r_istore_n (lv' := [_, _, _, _]) eX9_learnGround_1 (Nat.le_of_ble_eq_true rfl) rfl ?_
  exact sL_X9_learnGround_2  _ _ _ _ q
theorem s_X9_suppose {E : Ev} {d : Nat} {a0 : Nat} {x1 : Int32} {x2 : Int32} {h : Hp} {Φ : Ou → Hp → Prop} (q : OK (F_X9_suppose E a0 x1 x2 h) Φ) : CE E mX9_suppose (d + 2) [.ref a0, .int x1, .int x2] h 0 0 Φ := by
  show WE E mX9_suppose (d + 2) 0 [some (.ref a0), some (.int x1), some (.int x2), none] [] h 0 0 Φ
  refine r_iload_n eX9_suppose_0 rfl ?_
  refine r_aload_n eX9_suppose_1 rfl ?_
  refine t_gfR eX9_suppose_2 f_9_36 q (fun v2 q => ?_)
  refine t_gfR eX9_suppose_5 f_9_69 q (fun v5 q => ?_)
  refine r_aload_n eX9_suppose_8 rfl ?_
  refine t_gfI eX9_suppose_9 f_9_65 q (fun v9 q => ?_)
  refine t_gaI eX9_suppose_12 q (fun v12 q => ?_)
  refine r_iand eX9_suppose_13 ?_
  refine r_istore_n (lv' := [_, _, _, _]) eX9_suppose_14 (Nat.le_of_ble_eq_true rfl) rfl ?_
  refine r_aload_n eX9_suppose_15 rfl ?_
  refine t_gfR eX9_suppose_16 f_9_9 q (fun v16 q => ?_)
  refine r_aload_n eX9_suppose_19 rfl ?_
  refine t_gfI eX9_suppose_20 f_9_65 q (fun v20 q => ?_)
  refine r_bipush (v := (12)) eX9_suppose_23 (by decide) ?_
  refine r_imul eX9_suppose_25 ?_
  refine r_iload_n eX9_suppose_26 rfl ?_
  refine r_iadd eX9_suppose_27 ?_
  refine r_iload_n eX9_suppose_28 rfl ?_
  refine t_paI eX9_suppose_29 q (fun h29 q => ?_)
  refine r_aload_n eX9_suppose_30 rfl ?_
  refine t_gfR eX9_suppose_31 f_9_15 q (fun v31 q => ?_)
  refine r_aload_n eX9_suppose_34 rfl ?_
  refine t_gfI eX9_suppose_35 f_9_65 q (fun v35 q => ?_)
  refine r_bipush (v := (12)) eX9_suppose_38 (by decide) ?_
  refine r_imul eX9_suppose_40 ?_
  refine r_iload_n eX9_suppose_41 rfl ?_
  refine r_iadd eX9_suppose_42 ?_
  refine r_aload_n eX9_suppose_43 rfl ?_
  refine t_gfR eX9_suppose_44 f_9_32 q (fun v44 q => ?_)
  refine r_iload_n eX9_suppose_47 rfl ?_
  refine t_virtL (As := [_]) (rest := [_, _]) (d' := d + 0 + 1) (ci := 10) eX9_suppose_48 k_9_59 rfl rfl rfl (by omega) (Nat.le_of_ble_eq_true rfl) (Nat.le_of_ble_eq_true rfl) (fun _ q => s_X10_placesWith q) q (fun v48 h48 q => ?_)
  refine t_paL eX9_suppose_51 q (fun h51 q => ?_)
  exact t_rtV eX9_suppose_52 rfl q
theorem sL_X9_follow_58 {E : Ev} {d kc ks : Nat} {Φ : Ou → Hp → Prop} {y0 : Nat} {y1 : Int32} {y2 : Int32} {y3 : Int32} {y4 : Int32} {y5 : Int32} {y6 : Int32} {K113 : Hp → Rs} (hK113 : ∀ (w7 : Int32) (h : Hp), OK (K113 h) Φ → WE E mX9_follow (d + 6) 113 [some (.ref y0), some (.int y1), some (.int y2), some (.int y3), some (.int y4), some (.int y5), some (.int y6), some (.int w7)] [] h kc ks Φ) : ∀ (g : Nat) (y7 : Int32) (h : Hp), OK (L_X9_follow_58 E K113 y0 y5 y6 g y7 h) Φ → WE E mX9_follow (d + 6) 58 [some (.ref y0), some (.int y1), some (.int y2), some (.int y3), some (.int y4), some (.int y5), some (.int y6), some (.int y7)] [] h kc ks Φ := by
  intro g
  induction g with
  | zero => intro y7 h q; exact q.elim
  | succ g ih =>
    intro y7 h q
    refine r_iload eX9_follow_58 rfl ?_
    refine r_iconst (v := (4)) eX9_follow_60 (by decide) ?_
    refine t_icmp_ge eX9_follow_61 (t := 113) (by decide) q (fun q => ?_) (fun q => ?_)
    · exact hK113 _ _ q
    refine r_aload_n eX9_follow_64 rfl ?_
    refine t_gfR eX9_follow_65 f_9_40 q (fun v65 q => ?_)
    refine t_gfR eX9_follow_68 f_9_179 q (fun v68 q => ?_)
    refine r_iload eX9_follow_71 rfl ?_
    refine r_iload eX9_follow_73 rfl ?_
    refine r_iadd eX9_follow_75 ?_
    refine t_gaI eX9_follow_76 q (fun v76 q => ?_)
    refine t_if_eq eX9_follow_77 (t := 113) (by decide) q (fun q => ?_) (fun q => ?_)
    · exact hK113 _ _ q
    refine r_aload_n eX9_follow_80 rfl ?_
    refine r_aload_n eX9_follow_81 rfl ?_
    refine t_gfR eX9_follow_82 f_9_40 q (fun v82 q => ?_)
    refine t_gfR eX9_follow_85 f_9_179 q (fun v85 q => ?_)
    refine r_iload eX9_follow_88 rfl ?_
    refine r_iload eX9_follow_90 rfl ?_
    refine r_iadd eX9_follow_92 ?_
    refine t_gaI eX9_follow_93 q (fun v93 q => ?_)
    refine r_aload_n eX9_follow_94 rfl ?_
    refine t_gfR eX9_follow_95 f_9_29 q (fun v95 q => ?_)
    refine r_iload eX9_follow_98 rfl ?_
    refine r_aload_n eX9_follow_100 rfl ?_
    refine t_gfR eX9_follow_101 f_9_26 q (fun v101 q => ?_)
    refine t_virtV (As := [_, _, _, _]) (rest := []) (d' := d + 0 + 5) (ci := 9) eX9_follow_104 k_9_184 rfl rfl rfl (by omega) (Nat.le_of_ble_eq_true rfl) (Nat.le_of_ble_eq_true rfl) (fun _ q => s_X9_lead q) q (fun h104 q => ?_)
    refine r_iinc (v := (1)) (lv' := [_, _, _, _, _, _, _, _]) eX9_follow_107 rfl (by decide) rfl ?_
    refine r_goto (t := 58) eX9_follow_110 (by decide) ?_
    exact ih _ _ q
theorem sJ_X9_follow_113 {E : Ev} {d kc ks : Nat} {Φ : Ou → Hp → Prop} {y0 : Nat} {y1 : Int32} {y2 : Int32} {y3 : Int32} {y4 : Int32} {y5 : Int32} {y6 : Int32} {y7 : Int32} {h : Hp} {K18 : Int32 → Hp → Rs} (hK18 : ∀ (w4 : Int32) (w5 : Option Value) (w6 : Option Value) (w7 : Option Value) (h : Hp), OK (K18 w4 h) Φ → WE E mX9_follow (d + 6) 18 [some (.ref y0), some (.int y1), some (.int y2), some (.int y3), some (.int w4), w5, w6, w7] [] h kc ks Φ) (q : OK (J_X9_follow_113 E K18 y0 y1 y3 y4 h) Φ) : WE E mX9_follow (d + 6) 113 [some (.ref y0), some (.int y1), some (.int y2), some (.int y3), some (.int y4), some (.int y5), some (.int y6), some (.int y7)] [] h kc ks Φ := by
  refine r_aload_n eX9_follow_113 rfl ?_
  refine t_gfR eX9_follow_114 f_9_22 q (fun v114 q => ?_)
  refine r_astore (lv' := [_, _, _, _, _, _, _, _]) eX9_follow_117 (Nat.le_of_ble_eq_true rfl) rfl ?_
  refine r_aload_n eX9_follow_119 rfl ?_
  refine r_aload_n eX9_follow_120 rfl ?_
  refine t_gfR eX9_follow_121 f_9_26 q (fun v121 q => ?_)
  refine t_pf eX9_follow_124 p_9_22 rfl rfl (fun q => by cases q) q (fun h124 q => ?_)
  refine r_aload_n eX9_follow_127 rfl ?_
  refine r_aload eX9_follow_128 rfl ?_
  refine t_pf eX9_follow_130 p_9_26 rfl rfl (fun q => by cases q) q (fun h130 q => ?_)
  refine r_aload_n eX9_follow_133 rfl ?_
  refine t_gfR eX9_follow_134 f_9_22 q (fun v134 q => ?_)
  refine t_virtI (As := []) (rest := []) (d' := d + 5 + 0) (ci := 6) eX9_follow_137 k_9_187 rfl rfl rfl (by omega) (Nat.le_of_ble_eq_true rfl) (Nat.le_of_ble_eq_true rfl) (fun _ q => s_X6_isEmpty q) q (fun v137 h137 q => ?_)
  refine t_if_eq eX9_follow_140 (t := 146) (by decide) q (fun q => ?_) (fun q => ?_)
  · refine r_iinc (v := (1)) (lv' := [_, _, _, _, _, _, _, _]) eX9_follow_146 rfl (by decide) rfl ?_
    refine r_goto (t := 18) eX9_follow_149 (by decide) ?_
    exact hK18 _ _ _ _ _ q
  refine r_iload eX9_follow_143 rfl ?_
  exact t_rtI eX9_follow_145 rfl q
theorem sL_X9_follow_18 {E : Ev} {d kc ks : Nat} {Φ : Ou → Hp → Prop} {y0 : Nat} {y1 : Int32} {y2 : Int32} {y3 : Int32}  : ∀ (g : Nat) (y4 : Int32) (y5 : Option Value) (y6 : Option Value) (y7 : Option Value) (h : Hp), OK (L_X9_follow_18 E y0 y1 y3 g y4 h) Φ → WE E mX9_follow (d + 6) 18 [some (.ref y0), some (.int y1), some (.int y2), some (.int y3), some (.int y4), y5, y6, y7] [] h kc ks Φ := by
  intro g
  induction g with
  | zero => intro y4 y5 y6 y7 h q; exact q.elim
  | succ g ih =>
    intro y4 y5 y6 y7 h q
    refine r_iload eX9_follow_18 rfl ?_
    refine r_iload_n eX9_follow_20 rfl ?_
    refine t_icmp_ge eX9_follow_21 (t := 152) (by decide) q (fun q => ?_) (fun q => ?_)
    · refine r_iload_n eX9_follow_152 rfl ?_
      exact t_rtI eX9_follow_153 rfl q
    refine r_iload_n eX9_follow_24 rfl ?_
    refine r_bipush (v := (40)) eX9_follow_25 (by decide) ?_
    refine r_imul eX9_follow_27 ?_
    refine r_iload eX9_follow_28 rfl ?_
    refine r_iconst (v := (4)) eX9_follow_30 (by decide) ?_
    refine r_imul eX9_follow_31 ?_
    refine r_iadd eX9_follow_32 ?_
    replace q := OK_lt q
    refine r_istore (lv' := [_, _, _, _, _, _, _, _]) eX9_follow_33 (Nat.le_of_ble_eq_true rfl) rfl ?_
    refine r_aload_n eX9_follow_35 rfl ?_
    refine t_gfR eX9_follow_36 f_9_26 q (fun v36 q => ?_)
    refine t_virtV (As := []) (rest := []) (d' := d + 4 + 1) (ci := 6) eX9_follow_39 k_9_173 rfl rfl rfl (by omega) (Nat.le_of_ble_eq_true rfl) (Nat.le_of_ble_eq_true rfl) (fun _ q => s_X6_clear q) q (fun h39 q => ?_)
    refine r_aload_n eX9_follow_42 rfl ?_
    refine t_gfR eX9_follow_43 f_9_22 q (fun v43 q => ?_)
    refine r_aload_n eX9_follow_46 rfl ?_
    refine t_gfR eX9_follow_47 f_9_29 q (fun v47 q => ?_)
    refine t_virtI (As := [_]) (rest := []) (d' := d + 3 + 2) (ci := 6) eX9_follow_50 k_9_176 rfl rfl rfl (by omega) (Nat.le_of_ble_eq_true rfl) (Nat.le_of_ble_eq_true rfl) (fun _ q => s_X6_list q) q (fun v50 h50 q => ?_)
    refine r_istore (lv' := [_, _, _, _, _, _, _, _]) eX9_follow_53 (Nat.le_of_ble_eq_true rfl) rfl ?_
    refine r_iconst (v := (0)) eX9_follow_55 (by decide) ?_
    refine r_istore (lv' := [_, _, _, _, _, _, _, _]) eX9_follow_56 (Nat.le_of_ble_eq_true rfl) rfl ?_
    refine sL_X9_follow_58 (fun w2 h3 q => ?_) _ _ _ q
    refine sJ_X9_follow_113 (fun w4 w5 w6 w7 h8 q => ?_) q
    exact ih _ _ _ _ _ q
theorem s_X9_follow {E : Ev} {d : Nat} {a0 : Nat} {x1 : Int32} {x2 : Int32} {x3 : Int32} {h : Hp} {Φ : Ou → Hp → Prop} (q : OK (F_X9_follow E a0 x1 x2 x3 h) Φ) : CE E mX9_follow (d + 6) [.ref a0, .int x1, .int x2, .int x3] h 0 0 Φ := by
  show WE E mX9_follow (d + 6) 0 [some (.ref a0), some (.int x1), some (.int x2), some (.int x3), none, none, none, none] [] h 0 0 Φ
  refine r_aload_n eX9_follow_0 rfl ?_
  refine t_gfR eX9_follow_1 f_9_22 q (fun v1 q => ?_)
  refine t_virtV (As := []) (rest := []) (d' := d + 4 + 1) (ci := 6) eX9_follow_4 k_9_173 rfl rfl rfl (by omega) (Nat.le_of_ble_eq_true rfl) (Nat.le_of_ble_eq_true rfl) (fun _ q => s_X6_clear q) q (fun h4 q => ?_)
  refine r_aload_n eX9_follow_7 rfl ?_
  refine t_gfR eX9_follow_8 f_9_22 q (fun v8 q => ?_)
  refine r_iload_n eX9_follow_11 rfl ?_
  refine t_virtV (As := [_]) (rest := []) (d' := d + 5 + 0) (ci := 6) eX9_follow_12 k_9_132 rfl rfl rfl (by omega) (Nat.le_of_ble_eq_true rfl) (Nat.le_of_ble_eq_true rfl) (fun _ q => s_X6_add q) q (fun h12 q => ?_)
  refine r_iconst (v := (0)) eX9_follow_15 (by decide) ?_
  refine r_istore (lv' := [_, _, _, _, _, _, _, _]) eX9_follow_16 (Nat.le_of_ble_eq_true rfl) rfl ?_
  exact sL_X9_follow_18  _ _ _ _ _ _ q
theorem s_X9_lastPlaces {E : Ev} {d : Nat} {a0 : Nat} {x1 : Int32} {x2 : Int32} {h : Hp} {Φ : Ou → Hp → Prop} (q : OK (F_X9_lastPlaces E a0 x1 x2 h) Φ) : CE E mX9_lastPlaces (d + 7) [.ref a0, .int x1, .int x2] h 0 0 Φ := by
  show WE E mX9_lastPlaces (d + 7) 0 [some (.ref a0), some (.int x1), some (.int x2)] [] h 0 0 Φ
  refine r_aload_n eX9_lastPlaces_0 rfl ?_
  refine r_iload_n eX9_lastPlaces_1 rfl ?_
  refine r_iload_n eX9_lastPlaces_2 rfl ?_
  refine r_aload_n eX9_lastPlaces_3 rfl ?_
  refine t_gfR eX9_lastPlaces_4 f_9_40 q (fun v4 q => ?_)
  refine t_gfR eX9_lastPlaces_7 f_9_190 q (fun v7 q => ?_)
  refine r_iload_n eX9_lastPlaces_10 rfl ?_
  refine t_gaI eX9_lastPlaces_11 q (fun v11 q => ?_)
  refine t_virtI (As := [_, _, _]) (rest := []) (d' := d + 0 + 6) (ci := 9) eX9_lastPlaces_12 k_9_193 rfl rfl rfl (by omega) (Nat.le_of_ble_eq_true rfl) (Nat.le_of_ble_eq_true rfl) (fun _ q => s_X9_follow q) q (fun v12 h12 q => ?_)
  refine r_pop eX9_lastPlaces_15 rfl ?_
  refine r_aload_n eX9_lastPlaces_16 rfl ?_
  refine t_gfR eX9_lastPlaces_17 f_9_32 q (fun v17 q => ?_)
  refine r_aload_n eX9_lastPlaces_20 rfl ?_
  refine t_gfR eX9_lastPlaces_21 f_9_22 q (fun v21 q => ?_)
  refine t_virtL (As := [_]) (rest := []) (d' := d + 4 + 2) (ci := 10) eX9_lastPlaces_24 k_9_197 rfl rfl rfl (by omega) (Nat.le_of_ble_eq_true rfl) (Nat.le_of_ble_eq_true rfl) (fun _ q => s_X10_placesOf q) q (fun v24 h24 q => ?_)
  exact t_rtL eX9_lastPlaces_27 rfl q
theorem s_X9_getsThere {E : Ev} {d : Nat} {a0 : Nat} {x1 : Int32} {x2 : Int32} {h : Hp} {Φ : Ou → Hp → Prop} (q : OK (F_X9_getsThere E a0 x1 x2 h) Φ) : CE E mX9_getsThere (d + 7) [.ref a0, .int x1, .int x2] h 0 0 Φ := by
  show WE E mX9_getsThere (d + 7) 0 [some (.ref a0), some (.int x1), some (.int x2)] [] h 0 0 Φ
  refine r_aload_n eX9_getsThere_0 rfl ?_
  refine r_iload_n eX9_getsThere_1 rfl ?_
  refine r_iload_n eX9_getsThere_2 rfl ?_
  refine r_aload_n eX9_getsThere_3 rfl ?_
  refine t_gfR eX9_getsThere_4 f_9_40 q (fun v4 q => ?_)
  refine t_gfR eX9_getsThere_7 f_9_190 q (fun v7 q => ?_)
  refine r_iload_n eX9_getsThere_10 rfl ?_
  refine t_gaI eX9_getsThere_11 q (fun v11 q => ?_)
  refine t_virtI (As := [_, _, _]) (rest := []) (d' := d + 0 + 6) (ci := 9) eX9_getsThere_12 k_9_193 rfl rfl rfl (by omega) (Nat.le_of_ble_eq_true rfl) (Nat.le_of_ble_eq_true rfl) (fun _ q => s_X9_follow q) q (fun v12 h12 q => ?_)
  refine r_pop eX9_getsThere_15 rfl ?_
  refine r_aload_n eX9_getsThere_16 rfl ?_
  refine t_gfR eX9_getsThere_17 f_9_32 q (fun v17 q => ?_)
  refine r_aload_n eX9_getsThere_20 rfl ?_
  refine t_gfR eX9_getsThere_21 f_9_22 q (fun v21 q => ?_)
  refine t_virtL (As := [_]) (rest := []) (d' := d + 4 + 2) (ci := 10) eX9_getsThere_24 k_9_197 rfl rfl rfl (by omega) (Nat.le_of_ble_eq_true rfl) (Nat.le_of_ble_eq_true rfl) (fun _ q => s_X10_placesOf q) q (fun v24 h24 q => ?_)
  refine r_lconst (v := 1) eX9_getsThere_27 rfl ?_
  refine r_aload_n eX9_getsThere_28 rfl ?_
  refine t_gfR eX9_getsThere_29 f_9_40 q (fun v29 q => ?_)
  refine t_gfR eX9_getsThere_32 f_9_201 q (fun v32 q => ?_)
  refine r_iload_n eX9_getsThere_35 rfl ?_
  refine t_gaI eX9_getsThere_36 q (fun v36 q => ?_)
  refine r_lshl eX9_getsThere_37 ?_
  refine t_lc_ne eX9_getsThere_38 eX9_getsThere_39 (t := 46) (by decide) q (fun q => ?_) (fun q => ?_)
  · refine r_iconst (v := (0)) eX9_getsThere_46 (by decide) ?_
    exact t_rtZ eX9_getsThere_47 rfl q
  refine r_iconst (v := (1)) eX9_getsThere_42 (by decide) ?_
  refine r_goto (t := 47) eX9_getsThere_43 (by decide) ?_
  exact t_rtZ eX9_getsThere_47 rfl q
theorem s_X10_forget {E : Ev} {d : Nat} {a0 : Nat} {h : Hp} {Φ : Ou → Hp → Prop} (q : OK (F_X10_forget E a0 h) Φ) : CE E mX10_forget (d + 0) [.ref a0] h 0 0 Φ := by
  show WE E mX10_forget (d + 0) 0 [some (.ref a0)] [] h 0 0 Φ
  refine r_aload_n eX10_forget_0 rfl ?_
  refine r_iconst (v := (0)) eX10_forget_1 (by decide) ?_
  refine t_pf eX10_forget_2 p_10_9 rfl rfl (fun q => by cases q) q (fun h2 q => ?_)
  refine r_aload_n eX10_forget_5 rfl ?_
  refine r_iconst (v := (-1)) eX10_forget_6 (by decide) ?_
  refine t_pf eX10_forget_7 p_10_15 rfl rfl (fun q => by cases q) q (fun h7 q => ?_)
  refine r_aload_n eX10_forget_10 rfl ?_
  refine r_iconst (v := (1)) eX10_forget_11 (by decide) ?_
  refine t_pfZ eX10_forget_12 p_10_18 (fun q => by cases q) q (fun h12 q => ?_)
  exact t_rtV eX10_forget_15 rfl q
theorem s_X10_isPreparedFor {E : Ev} {d : Nat} {a0 : Nat} {x1 : Int32} {h : Hp} {Φ : Ou → Hp → Prop} (q : OK (F_X10_isPreparedFor E a0 x1 h) Φ) : CE E mX10_isPreparedFor (d + 0) [.ref a0, .int x1] h 0 0 Φ := by
  show WE E mX10_isPreparedFor (d + 0) 0 [some (.ref a0), some (.int x1)] [] h 0 0 Φ
  refine r_aload_n eX10_isPreparedFor_0 rfl ?_
  refine t_gfI eX10_isPreparedFor_1 f_10_9 q (fun v1 q => ?_)
  refine r_iload_n eX10_isPreparedFor_4 rfl ?_
  refine t_icmp_gt eX10_isPreparedFor_5 (t := 20) (by decide) q (fun q => ?_) (fun q => ?_)
  · refine r_iconst (v := (0)) eX10_isPreparedFor_20 (by decide) ?_
    exact t_rtZ eX10_isPreparedFor_21 rfl q
  refine r_iload_n eX10_isPreparedFor_8 rfl ?_
  refine r_aload_n eX10_isPreparedFor_9 rfl ?_
  refine t_gfI eX10_isPreparedFor_10 f_10_15 q (fun v10 q => ?_)
  refine t_icmp_gt eX10_isPreparedFor_13 (t := 20) (by decide) q (fun q => ?_) (fun q => ?_)
  · refine r_iconst (v := (0)) eX10_isPreparedFor_20 (by decide) ?_
    exact t_rtZ eX10_isPreparedFor_21 rfl q
  refine r_iconst (v := (1)) eX10_isPreparedFor_16 (by decide) ?_
  refine r_goto (t := 21) eX10_isPreparedFor_17 (by decide) ?_
  exact t_rtZ eX10_isPreparedFor_21 rfl q
theorem s_X10_addMark {E : Ev} {d : Nat} {a0 : Nat} {x1 : Int32} {x2 : Int64} {x4 : Int32} {h : Hp} {Φ : Ou → Hp → Prop} (q : OK (F_X10_addMark E a0 x1 x2 x4 h) Φ) : CE E mX10_addMark (d + 0) [.ref a0, .int x1, .long x2, .int x4] h 0 0 Φ := by
  show WE E mX10_addMark (d + 0) 0 [some (.ref a0), some (.int x1), some (.long x2), none, some (.int x4)] [] h 0 0 Φ
  refine r_aload_n eX10_addMark_0 rfl ?_
  refine t_gfR eX10_addMark_1 f_10_32 q (fun v1 q => ?_)
  refine r_iload_n eX10_addMark_4 rfl ?_
  refine r_dup2 eX10_addMark_5 rfl rfl ?_
  refine t_gaL eX10_addMark_6 q (fun v6 q => ?_)
  refine r_lload_n eX10_addMark_7 rfl ?_
  refine r_lor eX10_addMark_8 ?_
  refine t_paL eX10_addMark_9 q (fun h9 q => ?_)
  refine r_iload eX10_addMark_10 rfl ?_
  refine t_if_eq eX10_addMark_12 (t := 25) (by decide) q (fun q => ?_) (fun q => ?_)
  · exact t_rtV eX10_addMark_25 rfl q
  refine r_aload_n eX10_addMark_15 rfl ?_
  refine t_gfR eX10_addMark_16 f_10_35 q (fun v16 q => ?_)
  refine r_iload_n eX10_addMark_19 rfl ?_
  refine r_dup2 eX10_addMark_20 rfl rfl ?_
  refine t_gaL eX10_addMark_21 q (fun v21 q => ?_)
  refine r_lload_n eX10_addMark_22 rfl ?_
  refine r_lor eX10_addMark_23 ?_
  refine t_paL eX10_addMark_24 q (fun h24 q => ?_)
  exact t_rtV eX10_addMark_25 rfl q
theorem s_X10_isThere {E : Ev} {d : Nat} {a0 : Nat} {x1 : Int32} {x2 : Int32} {x3 : Int32} {h : Hp} {Φ : Ou → Hp → Prop} (q : OK (F_X10_isThere E a0 x1 x2 x3 h) Φ) : CE E mX10_isThere (d + 0) [.ref a0, .int x1, .int x2, .int x3] h 0 0 Φ := by
  show WE E mX10_isThere (d + 0) 0 [some (.ref a0), some (.int x1), some (.int x2), some (.int x3)] [] h 0 0 Φ
  refine r_iload_n eX10_isThere_0 rfl ?_
  refine r_iload_n eX10_isThere_1 rfl ?_
  refine t_icmp_ge eX10_isThere_2 (t := 21) (by decide) q (fun q => ?_) (fun q => ?_)
  · refine r_iload_n eX10_isThere_21 rfl ?_
    refine r_iload_n eX10_isThere_22 rfl ?_
    refine t_icmp_le eX10_isThere_23 (t := 42) (by decide) q (fun q => ?_) (fun q => ?_)
    · refine r_aload_n eX10_isThere_42 rfl ?_
      refine r_aload_n eX10_isThere_43 rfl ?_
      refine t_gfI eX10_isThere_44 f_10_9 q (fun v44 q => ?_)
      refine r_iload_n eX10_isThere_47 rfl ?_
      refine r_max eX10_isThere_48 jl_10_118 ?_
      refine t_pf eX10_isThere_51 p_10_9 rfl rfl (fun q => by cases q) q (fun h51 q => ?_)
      refine r_aload_n eX10_isThere_54 rfl ?_
      refine r_aload_n eX10_isThere_55 rfl ?_
      refine t_gfI eX10_isThere_56 f_10_15 q (fun v56 q => ?_)
      refine r_iload_n eX10_isThere_59 rfl ?_
      refine r_min eX10_isThere_60 jl_10_112 ?_
      refine t_pf eX10_isThere_63 p_10_15 rfl rfl (fun q => by cases q) q (fun h63 q => ?_)
      refine r_iconst (v := (1)) eX10_isThere_66 (by decide) ?_
      exact t_rtZ eX10_isThere_67 rfl q
    refine r_aload_n eX10_isThere_26 rfl ?_
    refine r_aload_n eX10_isThere_27 rfl ?_
    refine t_gfI eX10_isThere_28 f_10_9 q (fun v28 q => ?_)
    refine r_iload_n eX10_isThere_31 rfl ?_
    refine r_iconst (v := (1)) eX10_isThere_32 (by decide) ?_
    refine r_iadd eX10_isThere_33 ?_
    refine r_max eX10_isThere_34 jl_10_118 ?_
    refine t_pf eX10_isThere_37 p_10_9 rfl rfl (fun q => by cases q) q (fun h37 q => ?_)
    refine r_iconst (v := (0)) eX10_isThere_40 (by decide) ?_
    exact t_rtZ eX10_isThere_41 rfl q
  refine r_aload_n eX10_isThere_5 rfl ?_
  refine r_aload_n eX10_isThere_6 rfl ?_
  refine t_gfI eX10_isThere_7 f_10_15 q (fun v7 q => ?_)
  refine r_iload_n eX10_isThere_10 rfl ?_
  refine r_iconst (v := (1)) eX10_isThere_11 (by decide) ?_
  refine r_isub eX10_isThere_12 ?_
  refine r_min eX10_isThere_13 jl_10_112 ?_
  refine t_pf eX10_isThere_16 p_10_15 rfl rfl (fun q => by cases q) q (fun h16 q => ?_)
  refine r_iconst (v := (0)) eX10_isThere_19 (by decide) ?_
  exact t_rtZ eX10_isThere_20 rfl q
theorem s_X10_addWay {E : Ev} {d : Nat} {a0 : Nat} {x1 : Int32} {h : Hp} {Φ : Ou → Hp → Prop} (q : OK (F_X10_addWay E a0 x1 h) Φ) : CE E mX10_addWay (d + 0) [.ref a0, .int x1] h 0 0 Φ := by
  show WE E mX10_addWay (d + 0) 0 [some (.ref a0), some (.int x1), none, none, none, none, none, none, none] [] h 0 0 Φ
  refine r_aload_n eX10_addWay_0 rfl ?_
  refine t_gfR eX10_addWay_1 f_10_45 q (fun v1 q => ?_)
  refine t_gfR eX10_addWay_4 f_10_121 q (fun v4 q => ?_)
  refine r_iconst (v := (4)) eX10_addWay_7 (by decide) ?_
  refine r_iload_n eX10_addWay_8 rfl ?_
  refine r_imul eX10_addWay_9 ?_
  refine r_iconst (v := (1)) eX10_addWay_10 (by decide) ?_
  refine r_iadd eX10_addWay_11 ?_
  refine t_gaI eX10_addWay_12 q (fun v12 q => ?_)
  refine r_istore_n (lv' := [_, _, _, _, _, _, _, _, _]) eX10_addWay_13 (Nat.le_of_ble_eq_true rfl) rfl ?_
  refine r_aload_n eX10_addWay_14 rfl ?_
  refine t_gfR eX10_addWay_15 f_10_45 q (fun v15 q => ?_)
  refine t_gfR eX10_addWay_18 f_10_121 q (fun v18 q => ?_)
  refine r_iconst (v := (4)) eX10_addWay_21 (by decide) ?_
  refine r_iload_n eX10_addWay_22 rfl ?_
  refine r_imul eX10_addWay_23 ?_
  refine t_gaI eX10_addWay_24 q (fun v24 q => ?_)
  refine r_istore_n (lv' := [_, _, _, _, _, _, _, _, _]) eX10_addWay_25 (Nat.le_of_ble_eq_true rfl) rfl ?_
  refine r_aload_n eX10_addWay_26 rfl ?_
  refine t_gfR eX10_addWay_27 f_10_29 q (fun v27 q => ?_)
  refine r_iload_n eX10_addWay_30 rfl ?_
  refine r_dup2 eX10_addWay_31 rfl rfl ?_
  refine t_gaL eX10_addWay_32 q (fun v32 q => ?_)
  refine r_lconst (v := 1) eX10_addWay_33 rfl ?_
  refine r_iload_n eX10_addWay_34 rfl ?_
  refine r_lshl eX10_addWay_35 ?_
  refine r_lor eX10_addWay_36 ?_
  refine t_paL eX10_addWay_37 q (fun h37 q => ?_)
  refine r_aload_n eX10_addWay_38 rfl ?_
  refine t_gfR eX10_addWay_39 f_10_29 q (fun v39 q => ?_)
  refine r_iload_n eX10_addWay_42 rfl ?_
  refine r_dup2 eX10_addWay_43 rfl rfl ?_
  refine t_gaL eX10_addWay_44 q (fun v44 q => ?_)
  refine r_lconst (v := 1) eX10_addWay_45 rfl ?_
  refine r_iload_n eX10_addWay_46 rfl ?_
  refine r_lshl eX10_addWay_47 ?_
  refine r_lor eX10_addWay_48 ?_
  refine t_paL eX10_addWay_49 q (fun h49 q => ?_)
  refine r_iconst (v := (2)) eX10_addWay_50 (by decide) ?_
  refine r_iload_n eX10_addWay_51 rfl ?_
  refine r_imul eX10_addWay_52 ?_
  refine r_bipush (v := (6)) eX10_addWay_53 (by decide) ?_
  refine r_ishr eX10_addWay_55 ?_
  replace q := OK_lt q
  refine r_istore (lv' := [_, _, _, _, _, _, _, _, _]) eX10_addWay_56 (Nat.le_of_ble_eq_true rfl) rfl ?_
  refine r_lconst (v := 1) eX10_addWay_58 rfl ?_
  refine r_iconst (v := (2)) eX10_addWay_59 (by decide) ?_
  refine r_iload_n eX10_addWay_60 rfl ?_
  refine r_imul eX10_addWay_61 ?_
  refine r_bipush (v := (63)) eX10_addWay_62 (by decide) ?_
  refine r_iand eX10_addWay_64 ?_
  refine r_lshl eX10_addWay_65 ?_
  replace q := OK_lt q
  refine r_lstore (lv' := [_, _, _, _, _, _, _, _, _]) eX10_addWay_66 (Nat.le_of_ble_eq_true rfl) rfl ?_
  refine r_lload eX10_addWay_68 rfl ?_
  refine r_iconst (v := (1)) eX10_addWay_70 (by decide) ?_
  refine r_lshl eX10_addWay_71 ?_
  replace q := OK_lt q
  refine r_lstore (lv' := [_, _, _, _, _, _, _, _, _]) eX10_addWay_72 (Nat.le_of_ble_eq_true rfl) rfl ?_
  refine r_aload_n eX10_addWay_74 rfl ?_
  refine t_gfR eX10_addWay_75 f_10_26 q (fun v75 q => ?_)
  refine r_iconst (v := (2)) eX10_addWay_78 (by decide) ?_
  refine r_iload_n eX10_addWay_79 rfl ?_
  refine r_imul eX10_addWay_80 ?_
  refine r_iload eX10_addWay_81 rfl ?_
  refine r_iadd eX10_addWay_83 ?_
  refine r_dup2 eX10_addWay_84 rfl rfl ?_
  refine t_gaL eX10_addWay_85 q (fun v85 q => ?_)
  refine r_lload eX10_addWay_86 rfl ?_
  refine r_lor eX10_addWay_88 ?_
  refine t_paL eX10_addWay_89 q (fun h89 q => ?_)
  refine r_aload_n eX10_addWay_90 rfl ?_
  refine t_gfR eX10_addWay_91 f_10_26 q (fun v91 q => ?_)
  refine r_iconst (v := (2)) eX10_addWay_94 (by decide) ?_
  refine r_iload_n eX10_addWay_95 rfl ?_
  refine r_imul eX10_addWay_96 ?_
  refine r_iload eX10_addWay_97 rfl ?_
  refine r_iadd eX10_addWay_99 ?_
  refine r_dup2 eX10_addWay_100 rfl rfl ?_
  refine t_gaL eX10_addWay_101 q (fun v101 q => ?_)
  refine r_lload eX10_addWay_102 rfl ?_
  refine r_lor eX10_addWay_104 ?_
  refine t_paL eX10_addWay_105 q (fun h105 q => ?_)
  refine r_aload_n eX10_addWay_106 rfl ?_
  refine t_gfR eX10_addWay_107 f_10_45 q (fun v107 q => ?_)
  refine t_gfR eX10_addWay_110 f_10_124 q (fun v110 q => ?_)
  refine r_iload_n eX10_addWay_113 rfl ?_
  refine t_gaI eX10_addWay_114 q (fun v114 q => ?_)
  refine r_iconst (v := (2)) eX10_addWay_115 (by decide) ?_
  refine t_icmp_ne eX10_addWay_116 (t := 134) (by decide) q (fun q => ?_) (fun q => ?_)
  · exact t_rtV eX10_addWay_134 rfl q
  refine r_aload_n eX10_addWay_119 rfl ?_
  refine t_gfR eX10_addWay_120 f_10_22 q (fun v120 q => ?_)
  refine r_iload eX10_addWay_123 rfl ?_
  refine r_dup2 eX10_addWay_125 rfl rfl ?_
  refine t_gaL eX10_addWay_126 q (fun v126 q => ?_)
  refine r_lload eX10_addWay_127 rfl ?_
  refine r_lload eX10_addWay_129 rfl ?_
  refine r_lor eX10_addWay_131 ?_
  refine r_lor eX10_addWay_132 ?_
  refine t_paL eX10_addWay_133 q (fun h133 q => ?_)
  exact t_rtV eX10_addWay_134 rfl q
theorem sL_X10_layWays_36 {E : Ev} {d kc ks : Nat} {Φ : Ou → Hp → Prop} {y0 : Nat} {y1 : Int64} {K56 : Hp → Rs} (hK56 : ∀ (w3 : Int32) (h : Hp), OK (K56 h) Φ → WE E mX10_layWays (d + 1) 56 [some (.ref y0), some (.long y1), none, some (.int w3)] [] h kc ks Φ) : ∀ (g : Nat) (y3 : Int32) (h : Hp), OK (L_X10_layWays_36 E K56 y0 g y3 h) Φ → WE E mX10_layWays (d + 1) 36 [some (.ref y0), some (.long y1), none, some (.int y3)] [] h kc ks Φ := by
  intro g
  induction g with
  | zero => intro y3 h q; exact q.elim
  | succ g ih =>
    intro y3 h q
    refine r_iload_n eX10_layWays_36 rfl ?_
    refine r_sipush (v := (240)) eX10_layWays_37 (by decide) ?_
    refine t_icmp_ge eX10_layWays_40 (t := 56) (by decide) q (fun q => ?_) (fun q => ?_)
    · exact hK56 _ _ q
    refine r_aload_n eX10_layWays_43 rfl ?_
    refine t_gfR eX10_layWays_44 f_10_38 q (fun v44 q => ?_)
    refine r_iload_n eX10_layWays_47 rfl ?_
    refine r_iconst (v := (0)) eX10_layWays_48 (by decide) ?_
    refine t_paZ eX10_layWays_49 q (fun h49 q => ?_)
    refine r_iinc (v := (1)) (lv' := [_, _, _, _]) eX10_layWays_50 rfl (by decide) rfl ?_
    refine r_goto (t := 36) eX10_layWays_53 (by decide) ?_
    exact ih _ _ q
theorem sL_X10_layWays_58 {E : Ev} {d kc ks : Nat} {Φ : Ou → Hp → Prop} {y0 : Nat} {y1 : Int64}  : ∀ (g : Nat) (y3 : Int32) (h : Hp), OK (L_X10_layWays_58 E y0 y1 g y3 h) Φ → WE E mX10_layWays (d + 1) 58 [some (.ref y0), some (.long y1), none, some (.int y3)] [] h kc ks Φ := by
  intro g
  induction g with
  | zero => intro y3 h q; exact q.elim
  | succ g ih =>
    intro y3 h q
    refine r_iload_n eX10_layWays_58 rfl ?_
    refine r_aload_n eX10_layWays_59 rfl ?_
    refine t_gfR eX10_layWays_60 f_10_45 q (fun v60 q => ?_)
    refine t_gfI eX10_layWays_63 f_10_53 q (fun v63 q => ?_)
    refine t_icmp_ge eX10_layWays_66 (t := 88) (by decide) q (fun q => ?_) (fun q => ?_)
    · exact t_rtV eX10_layWays_88 rfl q
    refine r_lload_n eX10_layWays_69 rfl ?_
    refine r_iload_n eX10_layWays_70 rfl ?_
    refine t_statI (As := [_, _]) (rest := []) (d' := d + 0 + 0) eX10_layWays_71 k_10_104 rfl (by omega) (Nat.le_of_ble_eq_true rfl) (Nat.le_of_ble_eq_true rfl) (fun _ q => s_X11_isIn q) q (fun v71 h71 q => ?_)
    refine t_if_eq eX10_layWays_74 (t := 82) (by decide) q (fun q => ?_) (fun q => ?_)
    · refine r_iinc (v := (1)) (lv' := [_, _, _, _]) eX10_layWays_82 rfl (by decide) rfl ?_
      refine r_goto (t := 58) eX10_layWays_85 (by decide) ?_
      exact ih _ _ q
    refine r_aload_n eX10_layWays_77 rfl ?_
    refine r_iload_n eX10_layWays_78 rfl ?_
    refine t_virtV (As := [_]) (rest := []) (d' := d + 0 + 0) (ci := 10) eX10_layWays_79 k_10_108 rfl rfl rfl (by omega) (Nat.le_of_ble_eq_true rfl) (Nat.le_of_ble_eq_true rfl) (fun _ q => s_X10_addWay q) q (fun h79 q => ?_)
    refine r_iinc (v := (1)) (lv' := [_, _, _, _]) eX10_layWays_82 rfl (by decide) rfl ?_
    refine r_goto (t := 58) eX10_layWays_85 (by decide) ?_
    exact ih _ _ q
theorem s_X10_layWays {E : Ev} {d : Nat} {a0 : Nat} {x1 : Int64} {h : Hp} {Φ : Ou → Hp → Prop} (q : OK (F_X10_layWays E a0 x1 h) Φ) : CE E mX10_layWays (d + 1) [.ref a0, .long x1] h 0 0 Φ := by
  show WE E mX10_layWays (d + 1) 0 [some (.ref a0), some (.long x1), none, none] [] h 0 0 Φ
  refine r_aload_n eX10_layWays_0 rfl ?_
  refine r_iconst (v := (0)) eX10_layWays_1 (by decide) ?_
  refine t_pfZ eX10_layWays_2 p_10_18 (fun q => by cases q) q (fun h2 q => ?_)
  refine r_aload_n eX10_layWays_5 rfl ?_
  refine r_lload_n eX10_layWays_6 rfl ?_
  refine t_pf eX10_layWays_7 p_10_69 rfl rfl (fun q => by cases q) q (fun h7 q => ?_)
  refine r_aload_n eX10_layWays_10 rfl ?_
  refine t_gfR eX10_layWays_11 f_10_22 q (fun v11 q => ?_)
  refine r_lconst (v := 0) eX10_layWays_14 rfl ?_
  refine t_statV (As := [_, _]) (rest := []) (d' := d + 0 + 0) eX10_layWays_15 k_10_76 rfl (by omega) (Nat.le_of_ble_eq_true rfl) (Nat.le_of_ble_eq_true rfl) (fun _ q => s_J7_fill_d0a16 q) q (fun h15 q => ?_)
  refine r_aload_n eX10_layWays_18 rfl ?_
  refine t_gfR eX10_layWays_19 f_10_26 q (fun v19 q => ?_)
  refine r_lconst (v := 0) eX10_layWays_22 rfl ?_
  refine t_statV (As := [_, _]) (rest := []) (d' := d + 0 + 0) eX10_layWays_23 k_10_76 rfl (by omega) (Nat.le_of_ble_eq_true rfl) (Nat.le_of_ble_eq_true rfl) (fun _ q => s_J7_fill_d0a16 q) q (fun h23 q => ?_)
  refine r_aload_n eX10_layWays_26 rfl ?_
  refine t_gfR eX10_layWays_27 f_10_29 q (fun v27 q => ?_)
  refine r_lconst (v := 0) eX10_layWays_30 rfl ?_
  refine t_statV (As := [_, _]) (rest := []) (d' := d + 0 + 0) eX10_layWays_31 k_10_76 rfl (by omega) (Nat.le_of_ble_eq_true rfl) (Nat.le_of_ble_eq_true rfl) (fun _ q => s_J7_fill_d0a16 q) q (fun h31 q => ?_)
  refine r_iconst (v := (0)) eX10_layWays_34 (by decide) ?_
  refine r_istore_n (lv' := [_, _, _, _]) eX10_layWays_35 (Nat.le_of_ble_eq_true rfl) rfl ?_
  refine sL_X10_layWays_36 (fun w1 h2 q => ?_) _ _ _ q
  refine r_iconst (v := (0)) eX10_layWays_56 (by decide) ?_
  refine r_istore_n (lv' := [_, _, _, _]) eX10_layWays_57 (Nat.le_of_ble_eq_true rfl) rfl ?_
  exact sL_X10_layWays_58  _ _ _ q
theorem sL_X10_prepare_26 {E : Ev} {d kc ks : Nat} {Φ : Ou → Hp → Prop} {y0 : Nat} {y1 : Int32} {K79 : Int64 → Hp → Rs} (hK79 : ∀ (w2 : Int64) (w4 : Int32) (h : Hp), OK (K79 w2 h) Φ → WE E mX10_prepare (d + 2) 79 [some (.ref y0), some (.int y1), some (.long w2), none, some (.int w4)] [] h kc ks Φ) : ∀ (g : Nat) (y2 : Int64) (y4 : Int32) (h : Hp), OK (L_X10_prepare_26 E K79 y0 y1 g y2 y4 h) Φ → WE E mX10_prepare (d + 2) 26 [some (.ref y0), some (.int y1), some (.long y2), none, some (.int y4)] [] h kc ks Φ := by
  intro g
  induction g with
  | zero => intro y2 y4 h q; exact q.elim
  | succ g ih =>
    intro y2 y4 h q
    refine r_iload eX10_prepare_26 rfl ?_
    refine r_aload_n eX10_prepare_28 rfl ?_
    refine t_gfR eX10_prepare_29 f_10_45 q (fun v29 q => ?_)
    refine t_gfI eX10_prepare_32 f_10_53 q (fun v32 q => ?_)
    refine t_icmp_ge eX10_prepare_35 (t := 79) (by decide) q (fun q => ?_) (fun q => ?_)
    · exact hK79 _ _ _ q
    refine r_aload_n eX10_prepare_38 rfl ?_
    refine r_aload_n eX10_prepare_39 rfl ?_
    refine t_gfR eX10_prepare_40 f_10_45 q (fun v40 q => ?_)
    refine t_gfR eX10_prepare_43 f_10_58 q (fun v43 q => ?_)
    refine r_iload eX10_prepare_46 rfl ?_
    refine t_gaI eX10_prepare_48 q (fun v48 q => ?_)
    refine r_aload_n eX10_prepare_49 rfl ?_
    refine t_gfR eX10_prepare_50 f_10_45 q (fun v50 q => ?_)
    refine t_gfR eX10_prepare_53 f_10_62 q (fun v53 q => ?_)
    refine r_iload eX10_prepare_56 rfl ?_
    refine t_gaI eX10_prepare_58 q (fun v58 q => ?_)
    refine r_iload_n eX10_prepare_59 rfl ?_
    refine t_virtI (As := [_, _, _]) (rest := []) (d' := d + 1 + 0) (ci := 10) eX10_prepare_60 k_10_65 rfl rfl rfl (by omega) (Nat.le_of_ble_eq_true rfl) (Nat.le_of_ble_eq_true rfl) (fun _ q => s_X10_isThere q) q (fun v60 h60 q => ?_)
    refine t_if_eq eX10_prepare_63 (t := 73) (by decide) q (fun q => ?_) (fun q => ?_)
    · refine r_iinc (v := (1)) (lv' := [_, _, _, _, _]) eX10_prepare_73 rfl (by decide) rfl ?_
      refine r_goto (t := 26) eX10_prepare_76 (by decide) ?_
      exact ih _ _ _ q
    refine r_lload_n eX10_prepare_66 rfl ?_
    refine r_lconst (v := 1) eX10_prepare_67 rfl ?_
    refine r_iload eX10_prepare_68 rfl ?_
    refine r_lshl eX10_prepare_70 ?_
    refine r_lor eX10_prepare_71 ?_
    replace q := OK_lt q
    refine r_lstore_n (lv' := [_, _, _, _, _]) eX10_prepare_72 (Nat.le_of_ble_eq_true rfl) rfl ?_
    refine r_iinc (v := (1)) (lv' := [_, _, _, _, _]) eX10_prepare_73 rfl (by decide) rfl ?_
    refine r_goto (t := 26) eX10_prepare_76 (by decide) ?_
    exact ih _ _ _ q
theorem sL_X10_prepare_119 {E : Ev} {d kc ks : Nat} {Φ : Ou → Hp → Prop} {y0 : Nat} {y1 : Int32} {y2 : Int64}  : ∀ (g : Nat) (y4 : Int32) (h : Hp), OK (L_X10_prepare_119 E y0 y1 g y4 h) Φ → WE E mX10_prepare (d + 2) 119 [some (.ref y0), some (.int y1), some (.long y2), none, some (.int y4)] [] h kc ks Φ := by
  intro g
  induction g with
  | zero => intro y4 h q; exact q.elim
  | succ g ih =>
    intro y4 h q
    refine r_iload eX10_prepare_119 rfl ?_
    refine r_aload_n eX10_prepare_121 rfl ?_
    refine t_gfR eX10_prepare_122 f_10_45 q (fun v122 q => ?_)
    refine t_gfI eX10_prepare_125 f_10_82 q (fun v125 q => ?_)
    refine t_icmp_ge eX10_prepare_128 (t := 201) (by decide) q (fun q => ?_) (fun q => ?_)
    · exact t_rtV eX10_prepare_201 rfl q
    refine r_aload_n eX10_prepare_131 rfl ?_
    refine r_aload_n eX10_prepare_132 rfl ?_
    refine t_gfR eX10_prepare_133 f_10_45 q (fun v133 q => ?_)
    refine t_gfR eX10_prepare_136 f_10_85 q (fun v136 q => ?_)
    refine r_iload eX10_prepare_139 rfl ?_
    refine t_gaI eX10_prepare_141 q (fun v141 q => ?_)
    refine r_aload_n eX10_prepare_142 rfl ?_
    refine t_gfR eX10_prepare_143 f_10_45 q (fun v143 q => ?_)
    refine t_gfR eX10_prepare_146 f_10_88 q (fun v146 q => ?_)
    refine r_iload eX10_prepare_149 rfl ?_
    refine t_gaI eX10_prepare_151 q (fun v151 q => ?_)
    refine r_iload_n eX10_prepare_152 rfl ?_
    refine t_virtI (As := [_, _, _]) (rest := []) (d' := d + 1 + 0) (ci := 10) eX10_prepare_153 k_10_65 rfl rfl rfl (by omega) (Nat.le_of_ble_eq_true rfl) (Nat.le_of_ble_eq_true rfl) (fun _ q => s_X10_isThere q) q (fun v153 h153 q => ?_)
    refine t_if_eq eX10_prepare_156 (t := 195) (by decide) q (fun q => ?_) (fun q => ?_)
    · refine r_iinc (v := (1)) (lv' := [_, _, _, _, _]) eX10_prepare_195 rfl (by decide) rfl ?_
      refine r_goto (t := 119) eX10_prepare_198 (by decide) ?_
      exact ih _ _ q
    refine r_aload_n eX10_prepare_159 rfl ?_
    refine r_aload_n eX10_prepare_160 rfl ?_
    refine t_gfR eX10_prepare_161 f_10_45 q (fun v161 q => ?_)
    refine t_gfR eX10_prepare_164 f_10_91 q (fun v164 q => ?_)
    refine r_iload eX10_prepare_167 rfl ?_
    refine t_gaI eX10_prepare_169 q (fun v169 q => ?_)
    refine r_lconst (v := 1) eX10_prepare_170 rfl ?_
    refine r_aload_n eX10_prepare_171 rfl ?_
    refine t_gfR eX10_prepare_172 f_10_45 q (fun v172 q => ?_)
    refine t_gfR eX10_prepare_175 f_10_94 q (fun v175 q => ?_)
    refine r_iload eX10_prepare_178 rfl ?_
    refine t_gaI eX10_prepare_180 q (fun v180 q => ?_)
    refine r_lshl eX10_prepare_181 ?_
    refine r_aload_n eX10_prepare_182 rfl ?_
    refine t_gfR eX10_prepare_183 f_10_45 q (fun v183 q => ?_)
    refine t_gfR eX10_prepare_186 f_10_97 q (fun v186 q => ?_)
    refine r_iload eX10_prepare_189 rfl ?_
    refine t_gaZ eX10_prepare_191 q (fun v191 q => ?_)
    refine t_virtV (As := [_, _, _]) (rest := []) (d' := d + 1 + 0) (ci := 10) eX10_prepare_192 k_10_100 rfl rfl rfl (by omega) (Nat.le_of_ble_eq_true rfl) (Nat.le_of_ble_eq_true rfl) (fun _ q => s_X10_addMark q) q (fun h192 q => ?_)
    refine r_iinc (v := (1)) (lv' := [_, _, _, _, _]) eX10_prepare_195 rfl (by decide) rfl ?_
    refine r_goto (t := 119) eX10_prepare_198 (by decide) ?_
    exact ih _ _ q
theorem sJ_X10_prepare_100 {E : Ev} {d kc ks : Nat} {Φ : Ou → Hp → Prop} {y0 : Nat} {y1 : Int32} {y2 : Int64} {y4 : Int32} {h : Hp}  (q : OK (J_X10_prepare_100 E y0 y1 h) Φ) : WE E mX10_prepare (d + 2) 100 [some (.ref y0), some (.int y1), some (.long y2), none, some (.int y4)] [] h kc ks Φ := by
  refine r_aload_n eX10_prepare_100 rfl ?_
  refine t_gfR eX10_prepare_101 f_10_32 q (fun v101 q => ?_)
  refine r_lconst (v := 0) eX10_prepare_104 rfl ?_
  refine t_statV (As := [_, _]) (rest := []) (d' := d + 1 + 0) eX10_prepare_105 k_10_76 rfl (by omega) (Nat.le_of_ble_eq_true rfl) (Nat.le_of_ble_eq_true rfl) (fun _ q => s_J7_fill_d0a16 q) q (fun h105 q => ?_)
  refine r_aload_n eX10_prepare_108 rfl ?_
  refine t_gfR eX10_prepare_109 f_10_35 q (fun v109 q => ?_)
  refine r_lconst (v := 0) eX10_prepare_112 rfl ?_
  refine t_statV (As := [_, _]) (rest := []) (d' := d + 1 + 0) eX10_prepare_113 k_10_76 rfl (by omega) (Nat.le_of_ble_eq_true rfl) (Nat.le_of_ble_eq_true rfl) (fun _ q => s_J7_fill_d0a16 q) q (fun h113 q => ?_)
  refine r_iconst (v := (0)) eX10_prepare_116 (by decide) ?_
  refine r_istore (lv' := [_, _, _, _, _]) eX10_prepare_117 (Nat.le_of_ble_eq_true rfl) rfl ?_
  exact sL_X10_prepare_119  _ _ _ q
theorem s_X10_prepare {E : Ev} {d : Nat} {a0 : Nat} {x1 : Int32} {h : Hp} {Φ : Ou → Hp → Prop} (q : OK (F_X10_prepare E a0 x1 h) Φ) : CE E mX10_prepare (d + 2) [.ref a0, .int x1] h 0 0 Φ := by
  show WE E mX10_prepare (d + 2) 0 [some (.ref a0), some (.int x1), none, none, none] [] h 0 0 Φ
  refine r_aload_n eX10_prepare_0 rfl ?_
  refine r_iload_n eX10_prepare_1 rfl ?_
  refine t_virtI (As := [_]) (rest := []) (d' := d + 1 + 0) (ci := 10) eX10_prepare_2 k_10_49 rfl rfl rfl (by omega) (Nat.le_of_ble_eq_true rfl) (Nat.le_of_ble_eq_true rfl) (fun _ q => s_X10_isPreparedFor q) q (fun v2 h2 q => ?_)
  refine t_if_eq eX10_prepare_5 (t := 9) (by decide) q (fun q => ?_) (fun q => ?_)
  · refine r_aload_n eX10_prepare_9 rfl ?_
    refine r_iconst (v := (0)) eX10_prepare_10 (by decide) ?_
    refine t_pf eX10_prepare_11 p_10_9 rfl rfl (fun q => by cases q) q (fun h11 q => ?_)
    refine r_aload_n eX10_prepare_14 rfl ?_
    refine r_sipush (v := (200)) eX10_prepare_15 (by decide) ?_
    refine t_pf eX10_prepare_18 p_10_15 rfl rfl (fun q => by cases q) q (fun h18 q => ?_)
    refine r_lconst (v := 0) eX10_prepare_21 rfl ?_
    refine r_lstore_n (lv' := [_, _, _, _, _]) eX10_prepare_22 (Nat.le_of_ble_eq_true rfl) rfl ?_
    refine r_iconst (v := (0)) eX10_prepare_23 (by decide) ?_
    refine r_istore (lv' := [_, _, _, _, _]) eX10_prepare_24 (Nat.le_of_ble_eq_true rfl) rfl ?_
    refine sL_X10_prepare_26 (fun w1 w2 h3 q => ?_) _ _ _ _ q
    refine r_aload_n eX10_prepare_79 rfl ?_
    refine t_gfI eX10_prepare_80 f_10_18 q (fun v80 q => ?_)
    refine t_if_ne eX10_prepare_83 (t := 95) (by decide) q (fun q => ?_) (fun q => ?_)
    · refine r_aload_n eX10_prepare_95 rfl ?_
      refine r_lload_n eX10_prepare_96 rfl ?_
      refine t_virtV (As := [_]) (rest := []) (d' := d + 0 + 1) (ci := 10) eX10_prepare_97 k_10_72 rfl rfl rfl (by omega) (Nat.le_of_ble_eq_true rfl) (Nat.le_of_ble_eq_true rfl) (fun _ q => s_X10_layWays q) q (fun h97 q => ?_)
      exact sJ_X10_prepare_100  q
    refine r_lload_n eX10_prepare_86 rfl ?_
    refine r_aload_n eX10_prepare_87 rfl ?_
    refine t_gfL eX10_prepare_88 f_10_69 q (fun v88 q => ?_)
    refine t_lc_eq eX10_prepare_91 eX10_prepare_92 (t := 100) (by decide) q (fun q => ?_) (fun q => ?_)
    · exact sJ_X10_prepare_100  q
    refine r_aload_n eX10_prepare_95 rfl ?_
    refine r_lload_n eX10_prepare_96 rfl ?_
    refine t_virtV (As := [_]) (rest := []) (d' := d + 0 + 1) (ci := 10) eX10_prepare_97 k_10_72 rfl rfl rfl (by omega) (Nat.le_of_ble_eq_true rfl) (Nat.le_of_ble_eq_true rfl) (fun _ q => s_X10_layWays q) q (fun h97 q => ?_)
    exact sJ_X10_prepare_100  q
  exact t_rtV eX10_prepare_8 rfl q
theorem s_X11_place {E : Ev} {d : Nat} {a0 : Nat} {x1 : Int32} {x2 : Int32} {h : Hp} {Φ : Ou → Hp → Prop} (q : OK (F_X11_place E a0 x1 x2 h) Φ) : CE E mX11_place (d + 1) [.ref a0, .int x1, .int x2] h 1 6 Φ := by
  show WE E mX11_place (d + 1) 0 [some (.ref a0), some (.int x1), some (.int x2)] [] h 1 6 Φ
  refine r_iload_n eX11_place_0 rfl ?_
  refine t_if_lt eX11_place_1 (t := 32) (by decide) q (fun q => ?_) (fun q => ?_)
  · exact r_throw th_X11_place_32 (Nat.le_of_ble_eq_true rfl) (by omega) (by omega) q
  refine r_iload_n eX11_place_4 rfl ?_
  refine r_bipush (v := (99)) eX11_place_5 (by decide) ?_
  refine t_icmp_gt eX11_place_7 (t := 32) (by decide) q (fun q => ?_) (fun q => ?_)
  · exact r_throw th_X11_place_32 (Nat.le_of_ble_eq_true rfl) (by omega) (by omega) q
  refine r_iload_n eX11_place_10 rfl ?_
  refine t_if_lt eX11_place_11 (t := 32) (by decide) q (fun q => ?_) (fun q => ?_)
  · exact r_throw th_X11_place_32 (Nat.le_of_ble_eq_true rfl) (by omega) (by omega) q
  refine r_iload_n eX11_place_14 rfl ?_
  refine r_bipush (v := (99)) eX11_place_15 (by decide) ?_
  refine t_icmp_gt eX11_place_17 (t := 32) (by decide) q (fun q => ?_) (fun q => ?_)
  · exact r_throw th_X11_place_32 (Nat.le_of_ble_eq_true rfl) (by omega) (by omega) q
  refine r_aload_n eX11_place_20 rfl ?_
  refine t_gfR eX11_place_21 f_11_12 q (fun v21 q => ?_)
  refine r_iload_n eX11_place_24 rfl ?_
  refine r_iload_n eX11_place_25 rfl ?_
  refine t_virtI (As := [_, _]) (rest := []) (d' := d + 0 + 0) (ci := 3) eX11_place_26 k_11_90 rfl rfl rfl (by omega) (Nat.le_of_ble_eq_true rfl) (Nat.le_of_ble_eq_true rfl) (fun _ q => s_X3_isTaken q) q (fun v26 h26 q => ?_)
  refine t_if_eq eX11_place_29 (t := 40) (by decide) q (fun q => ?_) (fun q => ?_)
  · refine r_aload_n eX11_place_40 rfl ?_
    refine t_gfR eX11_place_41 f_11_12 q (fun v41 q => ?_)
    refine r_iload_n eX11_place_44 rfl ?_
    refine r_iload_n eX11_place_45 rfl ?_
    refine t_virtI (As := [_, _]) (rest := []) (d' := d + 0 + 0) (ci := 3) eX11_place_46 k_11_97 rfl rfl rfl (by omega) (Nat.le_of_ble_eq_true rfl) (Nat.le_of_ble_eq_true rfl) (fun _ q => s_X3_addPlace q) q (fun v46 h46 q => ?_)
    exact t_rtI eX11_place_49 rfl q
  exact r_throw th_X11_place_32 (Nat.le_of_ble_eq_true rfl) (by omega) (by omega) q
theorem s_X11_needPlace {E : Ev} {d : Nat} {a0 : Nat} {x1 : Int32} {h : Hp} {Φ : Ou → Hp → Prop} (q : OK (F_X11_needPlace E a0 x1 h) Φ) : CE E mX11_needPlace (d + 0) [.ref a0, .int x1] h 1 6 Φ := by
  show WE E mX11_needPlace (d + 0) 0 [some (.ref a0), some (.int x1)] [] h 1 6 Φ
  refine r_iload_n eX11_needPlace_0 rfl ?_
  refine t_if_lt eX11_needPlace_1 (t := 15) (by decide) q (fun q => ?_) (fun q => ?_)
  · exact r_throw th_X11_needPlace_15 (Nat.le_of_ble_eq_true rfl) (by omega) (by omega) q
  refine r_iload_n eX11_needPlace_4 rfl ?_
  refine r_aload_n eX11_needPlace_5 rfl ?_
  refine t_gfR eX11_needPlace_6 f_11_12 q (fun v6 q => ?_)
  refine t_gfI eX11_needPlace_9 f_11_426 q (fun v9 q => ?_)
  refine t_icmp_lt eX11_needPlace_12 (t := 23) (by decide) q (fun q => ?_) (fun q => ?_)
  · exact t_rtV eX11_needPlace_23 rfl q
  exact r_throw th_X11_needPlace_15 (Nat.le_of_ble_eq_true rfl) (by omega) (by omega) q
theorem s_X11_needYears {E : Ev} {d : Nat} {a0 : Nat} {x1 : Int32} {x2 : Int32} {h : Hp} {Φ : Ou → Hp → Prop} (q : OK (F_X11_needYears E a0 x1 x2 h) Φ) : CE E mX11_needYears (d + 0) [.ref a0, .int x1, .int x2] h 1 6 Φ := by
  show WE E mX11_needYears (d + 0) 0 [some (.ref a0), some (.int x1), some (.int x2)] [] h 1 6 Φ
  refine r_iload_n eX11_needYears_0 rfl ?_
  refine t_if_lt eX11_needYears_1 (t := 16) (by decide) q (fun q => ?_) (fun q => ?_)
  · exact r_throw th_X11_needYears_16 (Nat.le_of_ble_eq_true rfl) (by omega) (by omega) q
  refine r_iload_n eX11_needYears_4 rfl ?_
  refine r_sipush (v := (200)) eX11_needYears_5 (by decide) ?_
  refine t_icmp_gt eX11_needYears_8 (t := 16) (by decide) q (fun q => ?_) (fun q => ?_)
  · exact r_throw th_X11_needYears_16 (Nat.le_of_ble_eq_true rfl) (by omega) (by omega) q
  refine r_iload_n eX11_needYears_11 rfl ?_
  refine r_iload_n eX11_needYears_12 rfl ?_
  refine t_icmp_le eX11_needYears_13 (t := 24) (by decide) q (fun q => ?_) (fun q => ?_)
  · exact t_rtV eX11_needYears_24 rfl q
  exact r_throw th_X11_needYears_16 (Nat.le_of_ble_eq_true rfl) (by omega) (by omega) q
theorem s_X11_way {E : Ev} {d : Nat} {a0 : Nat} {x1 : Int32} {x2 : Int32} {x3 : Int32} {x4 : Int32} {x5 : Int32} {x6 : Int32} {h : Hp} {Φ : Ou → Hp → Prop} (q : OK (F_X11_way E a0 x1 x2 x3 x4 x5 x6 h) Φ) : CE E mX11_way (d + 1) [.ref a0, .int x1, .int x2, .int x3, .int x4, .int x5, .int x6] h 4 24 Φ := by
  show WE E mX11_way (d + 1) 0 [some (.ref a0), some (.int x1), some (.int x2), some (.int x3), some (.int x4), some (.int x5), some (.int x6)] [] h 4 24 Φ
  refine r_aload_n eX11_way_0 rfl ?_
  refine r_iload_n eX11_way_1 rfl ?_
  refine t_virtVx (As := [_]) (rest := []) (d' := d + 0 + 0) (ci := 11) (mc := 1) (ms := 6) eX11_way_2 k_11_101 l_11_101 rfl rfl rfl (by omega) (Nat.le_of_ble_eq_true rfl) (Nat.le_of_ble_eq_true rfl) (by omega) (by omega) (fun _ q => s_X11_needPlace q) q (fun _ _ q => Or.inl ⟨rfl, q⟩) (fun h2 q => ?_)
  refine r_aload_n eX11_way_5 rfl ?_
  refine r_iload_n eX11_way_6 rfl ?_
  refine t_virtVx (As := [_]) (rest := []) (d' := d + 0 + 0) (ci := 11) (mc := 1) (ms := 6) eX11_way_7 k_11_101 l_11_101 rfl rfl rfl (by omega) (Nat.le_of_ble_eq_true rfl) (Nat.le_of_ble_eq_true rfl) (by omega) (by omega) (fun _ q => s_X11_needPlace q) q (fun _ _ q => Or.inl ⟨rfl, q⟩) (fun h7 q => ?_)
  refine r_iload_n eX11_way_10 rfl ?_
  refine r_iload_n eX11_way_11 rfl ?_
  refine t_icmp_eq eX11_way_12 (t := 37) (by decide) q (fun q => ?_) (fun q => ?_)
  · exact r_throw th_X11_way_37 (Nat.le_of_ble_eq_true rfl) (by omega) (by omega) q
  refine r_iload_n eX11_way_15 rfl ?_
  refine t_if_lt eX11_way_16 (t := 37) (by decide) q (fun q => ?_) (fun q => ?_)
  · exact r_throw th_X11_way_37 (Nat.le_of_ble_eq_true rfl) (by omega) (by omega) q
  refine r_iload_n eX11_way_19 rfl ?_
  refine r_iconst (v := (3)) eX11_way_20 (by decide) ?_
  refine t_icmp_ge eX11_way_21 (t := 37) (by decide) q (fun q => ?_) (fun q => ?_)
  · exact r_throw th_X11_way_37 (Nat.le_of_ble_eq_true rfl) (by omega) (by omega) q
  refine r_iload eX11_way_24 rfl ?_
  refine r_iconst (v := (1)) eX11_way_26 (by decide) ?_
  refine t_icmp_lt eX11_way_27 (t := 37) (by decide) q (fun q => ?_) (fun q => ?_)
  · exact r_throw th_X11_way_37 (Nat.le_of_ble_eq_true rfl) (by omega) (by omega) q
  refine r_iload eX11_way_30 rfl ?_
  refine r_bipush (v := (99)) eX11_way_32 (by decide) ?_
  refine t_icmp_le eX11_way_34 (t := 45) (by decide) q (fun q => ?_) (fun q => ?_)
  · refine r_aload_n eX11_way_45 rfl ?_
    refine r_iload eX11_way_46 rfl ?_
    refine r_iload eX11_way_48 rfl ?_
    refine t_virtVx (As := [_, _]) (rest := []) (d' := d + 0 + 0) (ci := 11) (mc := 1) (ms := 6) eX11_way_50 k_11_105 l_11_105 rfl rfl rfl (by omega) (Nat.le_of_ble_eq_true rfl) (Nat.le_of_ble_eq_true rfl) (by omega) (by omega) (fun _ q => s_X11_needYears q) q (fun _ _ q => Or.inl ⟨rfl, q⟩) (fun h50 q => ?_)
    refine r_aload_n eX11_way_53 rfl ?_
    refine t_gfR eX11_way_54 f_11_12 q (fun v54 q => ?_)
    refine r_iload_n eX11_way_57 rfl ?_
    refine r_iload_n eX11_way_58 rfl ?_
    refine r_iload eX11_way_59 rfl ?_
    refine r_iload eX11_way_61 rfl ?_
    refine t_virtI (As := [_, _, _, _]) (rest := []) (d' := d + 0 + 0) (ci := 3) eX11_way_63 k_11_109 rfl rfl rfl (by omega) (Nat.le_of_ble_eq_true rfl) (Nat.le_of_ble_eq_true rfl) (fun _ q => s_X3_isJoined q) q (fun v63 h63 q => ?_)
    refine t_if_eq eX11_way_66 (t := 77) (by decide) q (fun q => ?_) (fun q => ?_)
    · refine r_aload_n eX11_way_77 rfl ?_
      refine t_gfR eX11_way_78 f_11_35 q (fun v78 q => ?_)
      refine t_virtV (As := []) (rest := []) (d' := d + 0 + 0) (ci := 10) eX11_way_81 k_11_113 rfl rfl rfl (by omega) (Nat.le_of_ble_eq_true rfl) (Nat.le_of_ble_eq_true rfl) (fun _ q => s_X10_forget q) q (fun h81 q => ?_)
      refine r_aload_n eX11_way_84 rfl ?_
      refine t_gfR eX11_way_85 f_11_12 q (fun v85 q => ?_)
      refine r_iload_n eX11_way_88 rfl ?_
      refine r_iload_n eX11_way_89 rfl ?_
      refine r_iload_n eX11_way_90 rfl ?_
      refine r_iload eX11_way_91 rfl ?_
      refine r_iload eX11_way_93 rfl ?_
      refine r_iload eX11_way_95 rfl ?_
      refine t_virtI (As := [_, _, _, _, _, _]) (rest := []) (d' := d + 0 + 0) (ci := 3) eX11_way_97 k_11_116 rfl rfl rfl (by omega) (Nat.le_of_ble_eq_true rfl) (Nat.le_of_ble_eq_true rfl) (fun _ q => s_X3_addWay q) q (fun v97 h97 q => ?_)
      exact t_rtI eX11_way_100 rfl q
    exact r_throw th_X11_way_69 (Nat.le_of_ble_eq_true rfl) (by omega) (by omega) q
  exact r_throw th_X11_way_37 (Nat.le_of_ble_eq_true rfl) (by omega) (by omega) q
theorem s_X11_mark {E : Ev} {d : Nat} {a0 : Nat} {x1 : Int32} {x2 : Int32} {x3 : Int32} {x4 : Int32} {x5 : Int32} {h : Hp} {Φ : Ou → Hp → Prop} (q : OK (F_X11_mark E a0 x1 x2 x3 x4 x5 h) Φ) : CE E mX11_mark (d + 1) [.ref a0, .int x1, .int x2, .int x3, .int x4, .int x5] h 2 12 Φ := by
  show WE E mX11_mark (d + 1) 0 [some (.ref a0), some (.int x1), some (.int x2), some (.int x3), some (.int x4), some (.int x5)] [] h 2 12 Φ
  refine r_aload_n eX11_mark_0 rfl ?_
  refine r_iload_n eX11_mark_1 rfl ?_
  refine t_virtVx (As := [_]) (rest := []) (d' := d + 0 + 0) (ci := 11) (mc := 1) (ms := 6) eX11_mark_2 k_11_101 l_11_101 rfl rfl rfl (by omega) (Nat.le_of_ble_eq_true rfl) (Nat.le_of_ble_eq_true rfl) (by omega) (by omega) (fun _ q => s_X11_needPlace q) q (fun _ _ q => Or.inl ⟨rfl, q⟩) (fun h2 q => ?_)
  refine r_iload_n eX11_mark_5 rfl ?_
  refine t_if_lt eX11_mark_6 (t := 15) (by decide) q (fun q => ?_) (fun q => ?_)
  · exact r_throw th_X11_mark_15 (Nat.le_of_ble_eq_true rfl) (by omega) (by omega) q
  refine r_iload_n eX11_mark_9 rfl ?_
  refine r_bipush (v := (12)) eX11_mark_10 (by decide) ?_
  refine t_icmp_lt eX11_mark_12 (t := 23) (by decide) q (fun q => ?_) (fun q => ?_)
  · refine r_aload_n eX11_mark_23 rfl ?_
    refine r_iload eX11_mark_24 rfl ?_
    refine r_iload eX11_mark_26 rfl ?_
    refine t_virtVx (As := [_, _]) (rest := []) (d' := d + 0 + 0) (ci := 11) (mc := 1) (ms := 6) eX11_mark_28 k_11_105 l_11_105 rfl rfl rfl (by omega) (Nat.le_of_ble_eq_true rfl) (Nat.le_of_ble_eq_true rfl) (by omega) (by omega) (fun _ q => s_X11_needYears q) q (fun _ _ q => Or.inl ⟨rfl, q⟩) (fun h28 q => ?_)
    refine r_aload_n eX11_mark_31 rfl ?_
    refine t_gfR eX11_mark_32 f_11_35 q (fun v32 q => ?_)
    refine t_virtV (As := []) (rest := []) (d' := d + 0 + 0) (ci := 10) eX11_mark_35 k_11_113 rfl rfl rfl (by omega) (Nat.le_of_ble_eq_true rfl) (Nat.le_of_ble_eq_true rfl) (fun _ q => s_X10_forget q) q (fun h35 q => ?_)
    refine r_aload_n eX11_mark_38 rfl ?_
    refine t_gfR eX11_mark_39 f_11_12 q (fun v39 q => ?_)
    refine r_iload_n eX11_mark_42 rfl ?_
    refine r_iload_n eX11_mark_43 rfl ?_
    refine r_iload_n eX11_mark_44 rfl ?_
    refine r_iload eX11_mark_45 rfl ?_
    refine r_iload eX11_mark_47 rfl ?_
    refine t_virtI (As := [_, _, _, _, _]) (rest := []) (d' := d + 0 + 0) (ci := 3) eX11_mark_49 k_11_120 rfl rfl rfl (by omega) (Nat.le_of_ble_eq_true rfl) (Nat.le_of_ble_eq_true rfl) (fun _ q => s_X3_addMark q) q (fun v49 h49 q => ?_)
    exact t_rtI eX11_mark_52 rfl q
  exact r_throw th_X11_mark_15 (Nat.le_of_ble_eq_true rfl) (by omega) (by omega) q
theorem sJ_X11_ends_85 {E : Ev} {d kc ks : Nat} {Φ : Ou → Hp → Prop} {y0 : Nat} {y1 : Int32} {y2 : Int32} {y3 : Int32} {y4 : Int32} {t0 : Nat} {h : Hp} (hc : 1 ≤ kc) (hs : 6 ≤ ks) (q : OK (J_X11_ends_85 E y0 y2 y3 y4 t0 h) Φ) : WE E mX11_ends (d + 1) 85 [some (.ref y0), some (.int y1), some (.int y2), some (.int y3), some (.int y4), none, none] [.ref t0] h kc ks Φ := by
  refine r_astore (lv' := [_, _, _, _, _, _, _]) eX11_ends_85 (Nat.le_of_ble_eq_true rfl) rfl ?_
  refine r_aload eX11_ends_87 rfl ?_
  refine r_iload_n eX11_ends_89 rfl ?_
  refine t_gaI eX11_ends_90 q (fun v90 q => ?_)
  refine r_istore (lv' := [_, _, _, _, _, _, _]) eX11_ends_91 (Nat.le_of_ble_eq_true rfl) rfl ?_
  refine r_iload_n eX11_ends_93 rfl ?_
  refine r_iload eX11_ends_94 rfl ?_
  refine t_icmp_lt eX11_ends_96 (t := 105) (by decide) q (fun q => ?_) (fun q => ?_)
  · exact r_throw th_X11_ends_105 (Nat.le_of_ble_eq_true rfl) (by omega) (by omega) q
  refine r_iload_n eX11_ends_99 rfl ?_
  refine r_iload eX11_ends_100 rfl ?_
  refine t_icmp_le eX11_ends_102 (t := 113) (by decide) q (fun q => ?_) (fun q => ?_)
  · refine r_aload eX11_ends_113 rfl ?_
    refine r_iload_n eX11_ends_115 rfl ?_
    refine r_iload_n eX11_ends_116 rfl ?_
    refine t_paI eX11_ends_117 q (fun h117 q => ?_)
    refine r_aload_n eX11_ends_118 rfl ?_
    refine t_gfR eX11_ends_119 f_11_35 q (fun v119 q => ?_)
    refine t_virtV (As := []) (rest := []) (d' := d + 0 + 0) (ci := 10) eX11_ends_122 k_11_113 rfl rfl rfl (by omega) (Nat.le_of_ble_eq_true rfl) (Nat.le_of_ble_eq_true rfl) (fun _ q => s_X10_forget q) q (fun h122 q => ?_)
    refine r_iload eX11_ends_125 rfl ?_
    exact t_rtI eX11_ends_127 rfl q
  exact r_throw th_X11_ends_105 (Nat.le_of_ble_eq_true rfl) (by omega) (by omega) q
theorem sJ_X11_ends_62 {E : Ev} {d kc ks : Nat} {Φ : Ou → Hp → Prop} {y0 : Nat} {y1 : Int32} {y2 : Int32} {y3 : Int32} {t0 : Int32} {h : Hp} (hc : 1 ≤ kc) (hs : 6 ≤ ks) (q : OK (J_X11_ends_62 E y0 y1 y2 y3 t0 h) Φ) : WE E mX11_ends (d + 1) 62 [some (.ref y0), some (.int y1), some (.int y2), some (.int y3), none, none, none] [.int t0] h kc ks Φ := by
  refine r_istore (lv' := [_, _, _, _, _, _, _]) eX11_ends_62 (Nat.le_of_ble_eq_true rfl) rfl ?_
  refine r_iload_n eX11_ends_64 rfl ?_
  refine t_if_eq eX11_ends_65 (t := 78) (by decide) q (fun q => ?_) (fun q => ?_)
  · refine r_aload_n eX11_ends_78 rfl ?_
    refine t_gfR eX11_ends_79 f_11_12 q (fun v79 q => ?_)
    refine t_gfR eX11_ends_82 f_11_144 q (fun v82 q => ?_)
    exact sJ_X11_ends_85 (by omega) (by omega)  q
  refine r_aload_n eX11_ends_68 rfl ?_
  refine t_gfR eX11_ends_69 f_11_12 q (fun v69 q => ?_)
  refine t_gfR eX11_ends_72 f_11_141 q (fun v72 q => ?_)
  refine r_goto (t := 85) eX11_ends_75 (by decide) ?_
  exact sJ_X11_ends_85 (by omega) (by omega)  q
theorem sJ_X11_ends_26 {E : Ev} {d kc ks : Nat} {Φ : Ou → Hp → Prop} {y0 : Nat} {y1 : Int32} {y2 : Int32} {y3 : Int32} {t0 : Int32} {t1 : Int32} {h : Hp} (hc : 1 ≤ kc) (hs : 6 ≤ ks) (q : OK (J_X11_ends_26 E y0 y1 y2 y3 t0 t1 h) Φ) : WE E mX11_ends (d + 1) 26 [some (.ref y0), some (.int y1), some (.int y2), some (.int y3), none, none, none] [.int t1, .int t0] h kc ks Φ := by
  refine t_icmp_lt eX11_ends_26 (t := 37) (by decide) q (fun q => ?_) (fun q => ?_)
  · refine r_iload_n eX11_ends_37 rfl ?_
    refine t_if_eq eX11_ends_38 (t := 53) (by decide) q (fun q => ?_) (fun q => ?_)
    · refine r_aload_n eX11_ends_53 rfl ?_
      refine t_gfR eX11_ends_54 f_11_12 q (fun v54 q => ?_)
      refine t_gfR eX11_ends_57 f_11_138 q (fun v57 q => ?_)
      refine r_iload_n eX11_ends_60 rfl ?_
      refine t_gaI eX11_ends_61 q (fun v61 q => ?_)
      exact sJ_X11_ends_62 (by omega) (by omega)  q
    refine r_aload_n eX11_ends_41 rfl ?_
    refine t_gfR eX11_ends_42 f_11_12 q (fun v42 q => ?_)
    refine t_gfR eX11_ends_45 f_11_134 q (fun v45 q => ?_)
    refine r_iload_n eX11_ends_48 rfl ?_
    refine t_gaI eX11_ends_49 q (fun v49 q => ?_)
    refine r_goto (t := 62) eX11_ends_50 (by decide) ?_
    exact sJ_X11_ends_62 (by omega) (by omega)  q
  exact r_throw th_X11_ends_29 (Nat.le_of_ble_eq_true rfl) (by omega) (by omega) q
theorem s_X11_ends {E : Ev} {d : Nat} {a0 : Nat} {x1 : Int32} {x2 : Int32} {x3 : Int32} {h : Hp} {Φ : Ou → Hp → Prop} (q : OK (F_X11_ends E a0 x1 x2 x3 h) Φ) : CE E mX11_ends (d + 1) [.ref a0, .int x1, .int x2, .int x3] h 1 6 Φ := by
  show WE E mX11_ends (d + 1) 0 [some (.ref a0), some (.int x1), some (.int x2), some (.int x3), none, none, none] [] h 1 6 Φ
  refine r_iload_n eX11_ends_0 rfl ?_
  refine t_if_lt eX11_ends_1 (t := 29) (by decide) q (fun q => ?_) (fun q => ?_)
  · exact r_throw th_X11_ends_29 (Nat.le_of_ble_eq_true rfl) (by omega) (by omega) q
  refine r_iload_n eX11_ends_4 rfl ?_
  refine r_iload_n eX11_ends_5 rfl ?_
  refine t_if_eq eX11_ends_6 (t := 19) (by decide) q (fun q => ?_) (fun q => ?_)
  · refine r_aload_n eX11_ends_19 rfl ?_
    refine t_gfR eX11_ends_20 f_11_12 q (fun v20 q => ?_)
    refine t_gfI eX11_ends_23 f_11_128 q (fun v23 q => ?_)
    exact sJ_X11_ends_26 (by omega) (by omega)  q
  refine r_aload_n eX11_ends_9 rfl ?_
  refine t_gfR eX11_ends_10 f_11_12 q (fun v10 q => ?_)
  refine t_gfI eX11_ends_13 f_11_124 q (fun v13 q => ?_)
  refine r_goto (t := 26) eX11_ends_16 (by decide) ?_
  exact sJ_X11_ends_26 (by omega) (by omega)  q
theorem s_X11_needState {E : Ev} {d : Nat} {a0 : Nat} {x1 : Int32} {h : Hp} {Φ : Ou → Hp → Prop} (q : OK (F_X11_needState E a0 x1 h) Φ) : CE E mX11_needState (d + 0) [.ref a0, .int x1] h 1 6 Φ := by
  show WE E mX11_needState (d + 0) 0 [some (.ref a0), some (.int x1)] [] h 1 6 Φ
  refine r_iload_n eX11_needState_0 rfl ?_
  refine t_if_lt eX11_needState_1 (t := 17) (by decide) q (fun q => ?_) (fun q => ?_)
  · exact r_throw th_X11_needState_17 (Nat.le_of_ble_eq_true rfl) (by omega) (by omega) q
  refine r_iload_n eX11_needState_4 rfl ?_
  refine r_iconst (v := (4)) eX11_needState_5 (by decide) ?_
  refine r_aload_n eX11_needState_6 rfl ?_
  refine t_gfR eX11_needState_7 f_11_12 q (fun v7 q => ?_)
  refine t_gfI eX11_needState_10 f_11_124 q (fun v10 q => ?_)
  refine r_imul eX11_needState_13 ?_
  refine t_icmp_lt eX11_needState_14 (t := 25) (by decide) q (fun q => ?_) (fun q => ?_)
  · exact t_rtV eX11_needState_25 rfl q
  exact r_throw th_X11_needState_17 (Nat.le_of_ble_eq_true rfl) (by omega) (by omega) q
theorem s_X11_state {E : Ev} {d : Nat} {a0 : Nat} {x1 : Int32} {x2 : Int32} {h : Hp} {Φ : Ou → Hp → Prop} (q : OK (F_X11_state E a0 x1 x2 h) Φ) : CE E mX11_state (d + 1) [.ref a0, .int x1, .int x2] h 2 12 Φ := by
  show WE E mX11_state (d + 1) 0 [some (.ref a0), some (.int x1), some (.int x2)] [] h 2 12 Φ
  refine r_aload_n eX11_state_0 rfl ?_
  refine r_iload_n eX11_state_1 rfl ?_
  refine t_virtVx (As := [_]) (rest := []) (d' := d + 0 + 0) (ci := 11) (mc := 1) (ms := 6) eX11_state_2 k_11_147 l_11_147 rfl rfl rfl (by omega) (Nat.le_of_ble_eq_true rfl) (Nat.le_of_ble_eq_true rfl) (by omega) (by omega) (fun _ q => s_X11_needState q) q (fun _ _ q => Or.inl ⟨rfl, q⟩) (fun h2 q => ?_)
  refine r_iload_n eX11_state_5 rfl ?_
  refine OK_ite q (fun c0 q => ?_) (fun n0 q => ?_)
  · refine r_tsw 32 eX11_state_6 (by rw [c0]; decide) ?_
    refine r_aload_n eX11_state_32 rfl ?_
    refine t_gfR eX11_state_33 f_11_12 q (fun v33 q => ?_)
    refine t_gfR eX11_state_36 f_11_150 q (fun v36 q => ?_)
    refine r_iload_n eX11_state_39 rfl ?_
    refine t_gaI eX11_state_40 q (fun v40 q => ?_)
    exact t_rtI eX11_state_41 rfl q
  refine OK_ite q (fun c1 q => ?_) (fun n1 q => ?_)
  · refine r_tsw 42 eX11_state_6 (by rw [c1]; decide) ?_
    refine r_iload_n eX11_state_42 rfl ?_
    refine r_iconst (v := (1)) eX11_state_43 (by decide) ?_
    refine r_iand eX11_state_44 ?_
    refine t_if_ne eX11_state_45 (t := 52) (by decide) q (fun q => ?_) (fun q => ?_)
    · refine r_iconst (v := (0)) eX11_state_52 (by decide) ?_
      exact t_rtI eX11_state_53 rfl q
    refine r_iconst (v := (1)) eX11_state_48 (by decide) ?_
    refine r_goto (t := 53) eX11_state_49 (by decide) ?_
    exact t_rtI eX11_state_53 rfl q
  refine OK_ite q (fun c2 q => ?_) (fun n2 q => ?_)
  · refine r_tsw 54 eX11_state_6 (by rw [c2]; decide) ?_
    refine r_iload_n eX11_state_54 rfl ?_
    refine r_iconst (v := (2)) eX11_state_55 (by decide) ?_
    refine r_ishr eX11_state_56 ?_
    exact t_rtI eX11_state_57 rfl q
  refine r_tsw 58 eX11_state_6 (tsw_d (by have z0 := ne_i n0; have z1 := ne_i n1; have z2 := ne_i n2; rw [show (0 : Int32).toInt = 0 from by decide] at z0; rw [show (1 : Int32).toInt = 1 from by decide] at z1; rw [show (2 : Int32).toInt = 2 from by decide] at z2; omega) (by decide) (by decide)) ?_
  exact r_throw th_X11_state_58 (Nat.le_of_ble_eq_true rfl) (by omega) (by omega) q
theorem s_X11_needYear {E : Ev} {d : Nat} {a0 : Nat} {x1 : Int32} {h : Hp} {Φ : Ou → Hp → Prop} (q : OK (F_X11_needYear E a0 x1 h) Φ) : CE E mX11_needYear (d + 0) [.ref a0, .int x1] h 1 6 Φ := by
  show WE E mX11_needYear (d + 0) 0 [some (.ref a0), some (.int x1)] [] h 1 6 Φ
  refine r_iload_n eX11_needYear_0 rfl ?_
  refine t_if_lt eX11_needYear_1 (t := 11) (by decide) q (fun q => ?_) (fun q => ?_)
  · exact r_throw th_X11_needYear_11 (Nat.le_of_ble_eq_true rfl) (by omega) (by omega) q
  refine r_iload_n eX11_needYear_4 rfl ?_
  refine r_sipush (v := (200)) eX11_needYear_5 (by decide) ?_
  refine t_icmp_le eX11_needYear_8 (t := 19) (by decide) q (fun q => ?_) (fun q => ?_)
  · exact t_rtV eX11_needYear_19 rfl q
  exact r_throw th_X11_needYear_11 (Nat.le_of_ble_eq_true rfl) (by omega) (by omega) q
theorem s_X11_out {E : Ev} {d : Nat} {a0 : Nat} {x1 : Int32} {x2 : Int32} {x3 : Int32} {h : Hp} {Φ : Ou → Hp → Prop} (q : OK (F_X11_out E a0 x1 x2 x3 h) Φ) : CE E mX11_out (d + 3) [.ref a0, .int x1, .int x2, .int x3] h 2 12 Φ := by
  show WE E mX11_out (d + 3) 0 [some (.ref a0), some (.int x1), some (.int x2), some (.int x3), none] [] h 2 12 Φ
  refine r_aload_n eX11_out_0 rfl ?_
  refine r_iload_n eX11_out_1 rfl ?_
  refine t_virtVx (As := [_]) (rest := []) (d' := d + 2 + 0) (ci := 11) (mc := 1) (ms := 6) eX11_out_2 k_11_147 l_11_147 rfl rfl rfl (by omega) (Nat.le_of_ble_eq_true rfl) (Nat.le_of_ble_eq_true rfl) (by omega) (by omega) (fun _ q => s_X11_needState q) q (fun _ _ q => Or.inl ⟨rfl, q⟩) (fun h2 q => ?_)
  refine r_iload_n eX11_out_5 rfl ?_
  refine t_if_lt eX11_out_6 (t := 14) (by decide) q (fun q => ?_) (fun q => ?_)
  · exact r_throw th_X11_out_14 (Nat.le_of_ble_eq_true rfl) (by omega) (by omega) q
  refine r_iload_n eX11_out_9 rfl ?_
  refine r_iconst (v := (2)) eX11_out_10 (by decide) ?_
  refine t_icmp_le eX11_out_11 (t := 22) (by decide) q (fun q => ?_) (fun q => ?_)
  · refine r_aload_n eX11_out_22 rfl ?_
    refine r_iload_n eX11_out_23 rfl ?_
    refine t_virtVx (As := [_]) (rest := []) (d' := d + 2 + 0) (ci := 11) (mc := 1) (ms := 6) eX11_out_24 k_11_153 l_11_153 rfl rfl rfl (by omega) (Nat.le_of_ble_eq_true rfl) (Nat.le_of_ble_eq_true rfl) (by omega) (by omega) (fun _ q => s_X11_needYear q) q (fun _ _ q => Or.inl ⟨rfl, q⟩) (fun h24 q => ?_)
    refine r_aload_n eX11_out_27 rfl ?_
    refine t_gfR eX11_out_28 f_11_35 q (fun v28 q => ?_)
    refine r_iload_n eX11_out_31 rfl ?_
    refine t_virtV (As := [_]) (rest := []) (d' := d + 0 + 2) (ci := 10) eX11_out_32 k_11_156 rfl rfl rfl (by omega) (Nat.le_of_ble_eq_true rfl) (Nat.le_of_ble_eq_true rfl) (fun _ q => s_X10_prepare q) q (fun h32 q => ?_)
    refine r_aload_n eX11_out_35 rfl ?_
    refine t_gfR eX11_out_36 f_11_35 q (fun v36 q => ?_)
    refine r_iload_n eX11_out_39 rfl ?_
    refine t_virtI (As := [_]) (rest := []) (d' := d + 0 + 2) (ci := 10) eX11_out_40 k_11_159 rfl rfl rfl (by omega) (Nat.le_of_ble_eq_true rfl) (Nat.le_of_ble_eq_true rfl) (fun _ q => s_X10_look q) q (fun v40 h40 q => ?_)
    refine r_iconst (v := (2)) eX11_out_43 (by decide) ?_
    refine r_iload_n eX11_out_44 rfl ?_
    refine r_imul eX11_out_45 ?_
    refine r_iadd eX11_out_46 ?_
    replace q := OK_lt q
    refine r_istore (lv' := [_, _, _, _, _]) eX11_out_47 (Nat.le_of_ble_eq_true rfl) rfl ?_
    refine r_aload_n eX11_out_49 rfl ?_
    refine t_gfR eX11_out_50 f_11_35 q (fun v50 q => ?_)
    refine t_gfR eX11_out_53 f_11_163 q (fun v53 q => ?_)
    refine r_iload eX11_out_56 rfl ?_
    refine t_gaL eX11_out_58 q (fun v58 q => ?_)
    refine t_statI (As := [_]) (rest := []) (d' := d + 2 + 0) eX11_out_59 k_11_167 rfl (by omega) (Nat.le_of_ble_eq_true rfl) (Nat.le_of_ble_eq_true rfl) (fun _ q => s_J13_bitCount_95d88 q) q (fun v59 h59 q => ?_)
    refine r_aload_n eX11_out_62 rfl ?_
    refine t_gfR eX11_out_63 f_11_35 q (fun v63 q => ?_)
    refine t_gfR eX11_out_66 f_11_163 q (fun v66 q => ?_)
    refine r_iload eX11_out_69 rfl ?_
    refine r_iconst (v := (1)) eX11_out_71 (by decide) ?_
    refine r_iadd eX11_out_72 ?_
    refine t_gaL eX11_out_73 q (fun v73 q => ?_)
    refine t_statI (As := [_]) (rest := [_]) (d' := d + 2 + 0) eX11_out_74 k_11_167 rfl (by omega) (Nat.le_of_ble_eq_true rfl) (Nat.le_of_ble_eq_true rfl) (fun _ q => s_J13_bitCount_95d88 q) q (fun v74 h74 q => ?_)
    refine r_iadd eX11_out_77 ?_
    exact t_rtI eX11_out_78 rfl q
  exact r_throw th_X11_out_14 (Nat.le_of_ble_eq_true rfl) (by omega) (by omega) q
theorem s_X11_on {E : Ev} {d : Nat} {a0 : Nat} {x1 : Int32} {x2 : Int32} {x3 : Int32} {h : Hp} {Φ : Ou → Hp → Prop} (q : OK (F_X11_on E a0 x1 x2 x3 h) Φ) : CE E mX11_on (d + 3) [.ref a0, .int x1, .int x2, .int x3] h 2 12 Φ := by
  show WE E mX11_on (d + 3) 0 [some (.ref a0), some (.int x1), some (.int x2), some (.int x3), none] [] h 2 12 Φ
  refine r_aload_n eX11_on_0 rfl ?_
  refine r_iload_n eX11_on_1 rfl ?_
  refine t_virtVx (As := [_]) (rest := []) (d' := d + 2 + 0) (ci := 11) (mc := 1) (ms := 6) eX11_on_2 k_11_147 l_11_147 rfl rfl rfl (by omega) (Nat.le_of_ble_eq_true rfl) (Nat.le_of_ble_eq_true rfl) (by omega) (by omega) (fun _ q => s_X11_needState q) q (fun _ _ q => Or.inl ⟨rfl, q⟩) (fun h2 q => ?_)
  refine r_aload_n eX11_on_5 rfl ?_
  refine r_iload_n eX11_on_6 rfl ?_
  refine t_virtVx (As := [_]) (rest := []) (d' := d + 2 + 0) (ci := 11) (mc := 1) (ms := 6) eX11_on_7 k_11_153 l_11_153 rfl rfl rfl (by omega) (Nat.le_of_ble_eq_true rfl) (Nat.le_of_ble_eq_true rfl) (by omega) (by omega) (fun _ q => s_X11_needYear q) q (fun _ _ q => Or.inl ⟨rfl, q⟩) (fun h7 q => ?_)
  refine r_aload_n eX11_on_10 rfl ?_
  refine t_gfR eX11_on_11 f_11_35 q (fun v11 q => ?_)
  refine r_iload_n eX11_on_14 rfl ?_
  refine t_virtV (As := [_]) (rest := []) (d' := d + 0 + 2) (ci := 10) eX11_on_15 k_11_156 rfl rfl rfl (by omega) (Nat.le_of_ble_eq_true rfl) (Nat.le_of_ble_eq_true rfl) (fun _ q => s_X10_prepare q) q (fun h15 q => ?_)
  refine r_aload_n eX11_on_18 rfl ?_
  refine t_gfR eX11_on_19 f_11_35 q (fun v19 q => ?_)
  refine r_iload_n eX11_on_22 rfl ?_
  refine t_virtI (As := [_]) (rest := []) (d' := d + 0 + 2) (ci := 10) eX11_on_23 k_11_159 rfl rfl rfl (by omega) (Nat.le_of_ble_eq_true rfl) (Nat.le_of_ble_eq_true rfl) (fun _ q => s_X10_look q) q (fun v23 h23 q => ?_)
  refine r_bipush (v := (6)) eX11_on_26 (by decide) ?_
  refine r_iadd eX11_on_28 ?_
  refine r_istore (lv' := [_, _, _, _, _]) eX11_on_29 (Nat.le_of_ble_eq_true rfl) rfl ?_
  refine r_aload_n eX11_on_31 rfl ?_
  refine t_gfR eX11_on_32 f_11_44 q (fun v32 q => ?_)
  refine t_gfR eX11_on_35 f_11_173 q (fun v35 q => ?_)
  refine t_virtV (As := []) (rest := []) (d' := d + 1 + 1) (ci := 6) eX11_on_38 k_11_177 rfl rfl rfl (by omega) (Nat.le_of_ble_eq_true rfl) (Nat.le_of_ble_eq_true rfl) (fun _ q => s_X6_clear q) q (fun h38 q => ?_)
  refine r_aload_n eX11_on_41 rfl ?_
  refine t_gfR eX11_on_42 f_11_44 q (fun v42 q => ?_)
  refine t_gfR eX11_on_45 f_11_173 q (fun v45 q => ?_)
  refine r_aload_n eX11_on_48 rfl ?_
  refine t_gfR eX11_on_49 f_11_35 q (fun v49 q => ?_)
  refine t_gfR eX11_on_52 f_11_163 q (fun v52 q => ?_)
  refine r_iload eX11_on_55 rfl ?_
  refine t_gaL eX11_on_57 q (fun v57 q => ?_)
  refine r_aload_n eX11_on_58 rfl ?_
  refine t_gfR eX11_on_59 f_11_35 q (fun v59 q => ?_)
  refine t_gfR eX11_on_62 f_11_163 q (fun v62 q => ?_)
  refine r_iload eX11_on_65 rfl ?_
  refine r_iconst (v := (1)) eX11_on_67 (by decide) ?_
  refine r_iadd eX11_on_68 ?_
  refine t_gaL eX11_on_69 q (fun v69 q => ?_)
  refine t_virtV (As := [_, _]) (rest := []) (d' := d + 2 + 0) (ci := 6) eX11_on_70 k_11_182 rfl rfl rfl (by omega) (Nat.le_of_ble_eq_true rfl) (Nat.le_of_ble_eq_true rfl) (fun _ q => s_X6_addArrows q) q (fun h70 q => ?_)
  refine r_iload_n eX11_on_73 rfl ?_
  refine r_iconst (v := (-1)) eX11_on_74 (by decide) ?_
  refine t_icmp_ne eX11_on_75 (t := 91) (by decide) q (fun q => ?_) (fun q => ?_)
  · refine r_aload_n eX11_on_91 rfl ?_
    refine t_gfR eX11_on_92 f_11_44 q (fun v92 q => ?_)
    refine t_gfR eX11_on_95 f_11_173 q (fun v95 q => ?_)
    refine r_iload_n eX11_on_98 rfl ?_
    refine t_virtI (As := [_]) (rest := []) (d' := d + 1 + 1) (ci := 6) eX11_on_99 k_11_190 rfl rfl rfl (by omega) (Nat.le_of_ble_eq_true rfl) (Nat.le_of_ble_eq_true rfl) (fun _ q => s_X6_nth q) q (fun v99 h99 q => ?_)
    exact t_rtI eX11_on_102 rfl q
  refine r_aload_n eX11_on_78 rfl ?_
  refine t_gfR eX11_on_79 f_11_44 q (fun v79 q => ?_)
  refine t_gfR eX11_on_82 f_11_173 q (fun v82 q => ?_)
  refine t_virtI (As := []) (rest := []) (d' := d + 1 + 1) (ci := 6) eX11_on_85 k_11_186 rfl rfl rfl (by omega) (Nat.le_of_ble_eq_true rfl) (Nat.le_of_ble_eq_true rfl) (fun _ q => s_X6_size q) q (fun v85 h85 q => ?_)
  refine r_goto (t := 102) eX11_on_88 (by decide) ?_
  exact t_rtI eX11_on_102 rfl q
theorem s_X11_tongue {E : Ev} {d : Nat} {a0 : Nat} {h : Hp} {Φ : Ou → Hp → Prop} (q : OK (F_X11_tongue E a0 h) Φ) : CE E mX11_tongue (d + 1) [.ref a0] h 0 0 Φ := by
  show WE E mX11_tongue (d + 1) 0 [some (.ref a0)] [] h 0 0 Φ
  refine r_aload_n eX11_tongue_0 rfl ?_
  refine t_gfR eX11_tongue_1 f_11_19 q (fun v1 q => ?_)
  refine t_virtI (As := []) (rest := []) (d' := d + 0 + 0) (ci := 2) eX11_tongue_4 k_11_193 rfl rfl rfl (by omega) (Nat.le_of_ble_eq_true rfl) (Nat.le_of_ble_eq_true rfl) (fun _ q => s_X2_addTongue q) q (fun v4 h4 q => ?_)
  exact t_rtI eX11_tongue_7 rfl q
theorem s_X11_needKinds {E : Ev} {d : Nat} {a0 : Nat} {x1 : Int32} {h : Hp} {Φ : Ou → Hp → Prop} (q : OK (F_X11_needKinds E a0 x1 h) Φ) : CE E mX11_needKinds (d + 0) [.ref a0, .int x1] h 1 6 Φ := by
  show WE E mX11_needKinds (d + 0) 0 [some (.ref a0), some (.int x1)] [] h 1 6 Φ
  refine r_iload_n eX11_needKinds_0 rfl ?_
  refine t_if_lt eX11_needKinds_1 (t := 11) (by decide) q (fun q => ?_) (fun q => ?_)
  · exact r_throw th_X11_needKinds_11 (Nat.le_of_ble_eq_true rfl) (by omega) (by omega) q
  refine r_iload_n eX11_needKinds_4 rfl ?_
  refine r_sipush (v := (4095)) eX11_needKinds_5 (by decide) ?_
  refine t_icmp_le eX11_needKinds_8 (t := 19) (by decide) q (fun q => ?_) (fun q => ?_)
  · exact t_rtV eX11_needKinds_19 rfl q
  exact r_throw th_X11_needKinds_11 (Nat.le_of_ble_eq_true rfl) (by omega) (by omega) q
theorem s_X11_needName {E : Ev} {d : Nat} {a0 : Nat} {x1 : Int32} {h : Hp} {Φ : Ou → Hp → Prop} (q : OK (F_X11_needName E a0 x1 h) Φ) : CE E mX11_needName (d + 0) [.ref a0, .int x1] h 1 6 Φ := by
  show WE E mX11_needName (d + 0) 0 [some (.ref a0), some (.int x1)] [] h 1 6 Φ
  refine r_iload_n eX11_needName_0 rfl ?_
  refine t_if_lt eX11_needName_1 (t := 10) (by decide) q (fun q => ?_) (fun q => ?_)
  · exact r_throw th_X11_needName_10 (Nat.le_of_ble_eq_true rfl) (by omega) (by omega) q
  refine r_iload_n eX11_needName_4 rfl ?_
  refine r_bipush (v := (12)) eX11_needName_5 (by decide) ?_
  refine t_icmp_lt eX11_needName_7 (t := 18) (by decide) q (fun q => ?_) (fun q => ?_)
  · exact t_rtV eX11_needName_18 rfl q
  exact r_throw th_X11_needName_10 (Nat.le_of_ble_eq_true rfl) (by omega) (by omega) q
theorem s_X11_needTongue {E : Ev} {d : Nat} {a0 : Nat} {x1 : Int32} {h : Hp} {Φ : Ou → Hp → Prop} (q : OK (F_X11_needTongue E a0 x1 h) Φ) : CE E mX11_needTongue (d + 0) [.ref a0, .int x1] h 1 6 Φ := by
  show WE E mX11_needTongue (d + 0) 0 [some (.ref a0), some (.int x1)] [] h 1 6 Φ
  refine r_iload_n eX11_needTongue_0 rfl ?_
  refine t_if_lt eX11_needTongue_1 (t := 15) (by decide) q (fun q => ?_) (fun q => ?_)
  · exact r_throw th_X11_needTongue_15 (Nat.le_of_ble_eq_true rfl) (by omega) (by omega) q
  refine r_iload_n eX11_needTongue_4 rfl ?_
  refine r_aload_n eX11_needTongue_5 rfl ?_
  refine t_gfR eX11_needTongue_6 f_11_19 q (fun v6 q => ?_)
  refine t_gfI eX11_needTongue_9 f_11_429 q (fun v9 q => ?_)
  refine t_icmp_lt eX11_needTongue_12 (t := 23) (by decide) q (fun q => ?_) (fun q => ?_)
  · exact t_rtV eX11_needTongue_23 rfl q
  exact r_throw th_X11_needTongue_15 (Nat.le_of_ble_eq_true rfl) (by omega) (by omega) q
theorem s_X11_means {E : Ev} {d : Nat} {a0 : Nat} {x1 : Int32} {x2 : Int32} {x3 : Int32} {h : Hp} {Φ : Ou → Hp → Prop} (q : OK (F_X11_means E a0 x1 x2 x3 h) Φ) : CE E mX11_means (d + 1) [.ref a0, .int x1, .int x2, .int x3] h 3 18 Φ := by
  show WE E mX11_means (d + 1) 0 [some (.ref a0), some (.int x1), some (.int x2), some (.int x3), none] [] h 3 18 Φ
  refine r_aload_n eX11_means_0 rfl ?_
  refine r_iload_n eX11_means_1 rfl ?_
  refine t_virtVx (As := [_]) (rest := []) (d' := d + 0 + 0) (ci := 11) (mc := 1) (ms := 6) eX11_means_2 k_11_196 l_11_196 rfl rfl rfl (by omega) (Nat.le_of_ble_eq_true rfl) (Nat.le_of_ble_eq_true rfl) (by omega) (by omega) (fun _ q => s_X11_needTongue q) q (fun _ _ q => Or.inl ⟨rfl, q⟩) (fun h2 q => ?_)
  refine r_aload_n eX11_means_5 rfl ?_
  refine r_iload_n eX11_means_6 rfl ?_
  refine t_virtVx (As := [_]) (rest := []) (d' := d + 0 + 0) (ci := 11) (mc := 1) (ms := 6) eX11_means_7 k_11_199 l_11_199 rfl rfl rfl (by omega) (Nat.le_of_ble_eq_true rfl) (Nat.le_of_ble_eq_true rfl) (by omega) (by omega) (fun _ q => s_X11_needName q) q (fun _ _ q => Or.inl ⟨rfl, q⟩) (fun h7 q => ?_)
  refine r_aload_n eX11_means_10 rfl ?_
  refine r_iload_n eX11_means_11 rfl ?_
  refine t_virtVx (As := [_]) (rest := []) (d' := d + 0 + 0) (ci := 11) (mc := 1) (ms := 6) eX11_means_12 k_11_202 l_11_202 rfl rfl rfl (by omega) (Nat.le_of_ble_eq_true rfl) (Nat.le_of_ble_eq_true rfl) (by omega) (by omega) (fun _ q => s_X11_needKinds q) q (fun _ _ q => Or.inl ⟨rfl, q⟩) (fun h12 q => ?_)
  refine r_aload_n eX11_means_15 rfl ?_
  refine t_gfR eX11_means_16 f_11_19 q (fun v16 q => ?_)
  refine t_gfR eX11_means_19 f_11_205 q (fun v19 q => ?_)
  refine r_iload_n eX11_means_22 rfl ?_
  refine r_bipush (v := (12)) eX11_means_23 (by decide) ?_
  refine r_imul eX11_means_25 ?_
  refine r_iload_n eX11_means_26 rfl ?_
  refine r_iadd eX11_means_27 ?_
  refine t_gaI eX11_means_28 q (fun v28 q => ?_)
  refine r_istore (lv' := [_, _, _, _, _]) eX11_means_29 (Nat.le_of_ble_eq_true rfl) rfl ?_
  refine r_aload_n eX11_means_31 rfl ?_
  refine t_gfR eX11_means_32 f_11_19 q (fun v32 q => ?_)
  refine t_gfR eX11_means_35 f_11_205 q (fun v35 q => ?_)
  refine r_iload_n eX11_means_38 rfl ?_
  refine r_bipush (v := (12)) eX11_means_39 (by decide) ?_
  refine r_imul eX11_means_41 ?_
  refine r_iload_n eX11_means_42 rfl ?_
  refine r_iadd eX11_means_43 ?_
  refine r_iload_n eX11_means_44 rfl ?_
  refine t_paI eX11_means_45 q (fun h45 q => ?_)
  refine r_iload eX11_means_46 rfl ?_
  exact t_rtI eX11_means_48 rfl q
theorem s_X11_walker {E : Ev} {d : Nat} {a0 : Nat} {x1 : Int32} {x2 : Int32} {x3 : Int32} {x4 : Int32} {x5 : Int32} {h : Hp} {Φ : Ou → Hp → Prop} (q : OK (F_X11_walker E a0 x1 x2 x3 x4 x5 h) Φ) : CE E mX11_walker (d + 1) [.ref a0, .int x1, .int x2, .int x3, .int x4, .int x5] h 3 18 Φ := by
  show WE E mX11_walker (d + 1) 0 [some (.ref a0), some (.int x1), some (.int x2), some (.int x3), some (.int x4), some (.int x5)] [] h 3 18 Φ
  refine r_aload_n eX11_walker_0 rfl ?_
  refine r_iload_n eX11_walker_1 rfl ?_
  refine t_virtVx (As := [_]) (rest := []) (d' := d + 0 + 0) (ci := 11) (mc := 1) (ms := 6) eX11_walker_2 k_11_196 l_11_196 rfl rfl rfl (by omega) (Nat.le_of_ble_eq_true rfl) (Nat.le_of_ble_eq_true rfl) (by omega) (by omega) (fun _ q => s_X11_needTongue q) q (fun _ _ q => Or.inl ⟨rfl, q⟩) (fun h2 q => ?_)
  refine r_aload_n eX11_walker_5 rfl ?_
  refine r_iload_n eX11_walker_6 rfl ?_
  refine t_virtVx (As := [_]) (rest := []) (d' := d + 0 + 0) (ci := 11) (mc := 1) (ms := 6) eX11_walker_7 k_11_202 l_11_202 rfl rfl rfl (by omega) (Nat.le_of_ble_eq_true rfl) (Nat.le_of_ble_eq_true rfl) (by omega) (by omega) (fun _ q => s_X11_needKinds q) q (fun _ _ q => Or.inl ⟨rfl, q⟩) (fun h7 q => ?_)
  refine r_iload eX11_walker_10 rfl ?_
  refine r_iconst (v := (1)) eX11_walker_12 (by decide) ?_
  refine t_icmp_lt eX11_walker_13 (t := 23) (by decide) q (fun q => ?_) (fun q => ?_)
  · exact r_throw th_X11_walker_23 (Nat.le_of_ble_eq_true rfl) (by omega) (by omega) q
  refine r_iload eX11_walker_16 rfl ?_
  refine r_bipush (v := (20)) eX11_walker_18 (by decide) ?_
  refine t_icmp_le eX11_walker_20 (t := 31) (by decide) q (fun q => ?_) (fun q => ?_)
  · refine r_aload_n eX11_walker_31 rfl ?_
    refine t_gfR eX11_walker_32 f_11_19 q (fun v32 q => ?_)
    refine r_iload_n eX11_walker_35 rfl ?_
    refine r_iload_n eX11_walker_36 rfl ?_
    refine r_iload_n eX11_walker_37 rfl ?_
    refine r_iload eX11_walker_38 rfl ?_
    refine r_iload eX11_walker_40 rfl ?_
    refine t_virtI (As := [_, _, _, _, _]) (rest := []) (d' := d + 0 + 0) (ci := 2) eX11_walker_42 k_11_208 rfl rfl rfl (by omega) (Nat.le_of_ble_eq_true rfl) (Nat.le_of_ble_eq_true rfl) (fun _ q => s_X2_addWalker q) q (fun v42 h42 q => ?_)
    exact t_rtI eX11_walker_45 rfl q
  exact r_throw th_X11_walker_23 (Nat.le_of_ble_eq_true rfl) (by omega) (by omega) q
theorem s_X11_needWalker {E : Ev} {d : Nat} {a0 : Nat} {x1 : Int32} {h : Hp} {Φ : Ou → Hp → Prop} (q : OK (F_X11_needWalker E a0 x1 h) Φ) : CE E mX11_needWalker (d + 0) [.ref a0, .int x1] h 1 6 Φ := by
  show WE E mX11_needWalker (d + 0) 0 [some (.ref a0), some (.int x1)] [] h 1 6 Φ
  refine r_iload_n eX11_needWalker_0 rfl ?_
  refine t_if_lt eX11_needWalker_1 (t := 15) (by decide) q (fun q => ?_) (fun q => ?_)
  · exact r_throw th_X11_needWalker_15 (Nat.le_of_ble_eq_true rfl) (by omega) (by omega) q
  refine r_iload_n eX11_needWalker_4 rfl ?_
  refine r_aload_n eX11_needWalker_5 rfl ?_
  refine t_gfR eX11_needWalker_6 f_11_19 q (fun v6 q => ?_)
  refine t_gfI eX11_needWalker_9 f_11_336 q (fun v9 q => ?_)
  refine t_icmp_lt eX11_needWalker_12 (t := 23) (by decide) q (fun q => ?_) (fun q => ?_)
  · exact t_rtV eX11_needWalker_23 rfl q
  exact r_throw th_X11_needWalker_15 (Nat.le_of_ble_eq_true rfl) (by omega) (by omega) q
theorem s_X11_setOut {E : Ev} {d : Nat} {a0 : Nat} {x1 : Int32} {x2 : Int32} {h : Hp} {Φ : Ou → Hp → Prop} (q : OK (F_X11_setOut E a0 x1 x2 h) Φ) : CE E mX11_setOut (d + 3) [.ref a0, .int x1, .int x2] h 0 0 Φ := by
  show WE E mX11_setOut (d + 3) 0 [some (.ref a0), some (.int x1), some (.int x2)] [] h 0 0 Φ
  refine r_aload_n eX11_setOut_0 rfl ?_
  refine t_gfR eX11_setOut_1 f_11_35 q (fun v1 q => ?_)
  refine r_iload_n eX11_setOut_4 rfl ?_
  refine t_virtV (As := [_]) (rest := []) (d' := d + 0 + 2) (ci := 10) eX11_setOut_5 k_11_156 rfl rfl rfl (by omega) (Nat.le_of_ble_eq_true rfl) (Nat.le_of_ble_eq_true rfl) (fun _ q => s_X10_prepare q) q (fun h5 q => ?_)
  refine r_aload_n eX11_setOut_8 rfl ?_
  refine t_gfR eX11_setOut_9 f_11_44 q (fun v9 q => ?_)
  refine r_iload_n eX11_setOut_12 rfl ?_
  refine t_virtV (As := [_]) (rest := []) (d' := d + 0 + 2) (ci := 9) eX11_setOut_13 k_11_436 rfl rfl rfl (by omega) (Nat.le_of_ble_eq_true rfl) (Nat.le_of_ble_eq_true rfl) (fun _ q => s_X9_learnGround q) q (fun h13 q => ?_)
  refine r_aload_n eX11_setOut_16 rfl ?_
  refine t_gfR eX11_setOut_17 f_11_44 q (fun v17 q => ?_)
  refine r_iload_n eX11_setOut_20 rfl ?_
  refine t_virtV (As := [_]) (rest := []) (d' := d + 2 + 0) (ci := 9) eX11_setOut_21 k_11_325 rfl rfl rfl (by omega) (Nat.le_of_ble_eq_true rfl) (Nat.le_of_ble_eq_true rfl) (fun _ q => s_X9_become q) q (fun h21 q => ?_)
  exact t_rtV eX11_setOut_24 rfl q
theorem s_X11_stands {E : Ev} {d : Nat} {a0 : Nat} {x1 : Int32} {x2 : Int32} {x3 : Int32} {x4 : Int32} {x5 : Int32} {h : Hp} {Φ : Ou → Hp → Prop} (q : OK (F_X11_stands E a0 x1 x2 x3 x4 x5 h) Φ) : CE E mX11_stands (d + 4) [.ref a0, .int x1, .int x2, .int x3, .int x4, .int x5] h 4 24 Φ := by
  show WE E mX11_stands (d + 4) 0 [some (.ref a0), some (.int x1), some (.int x2), some (.int x3), some (.int x4), some (.int x5)] [] h 4 24 Φ
  refine r_aload_n eX11_stands_0 rfl ?_
  refine r_iload_n eX11_stands_1 rfl ?_
  refine t_virtVx (As := [_]) (rest := []) (d' := d + 3 + 0) (ci := 11) (mc := 1) (ms := 6) eX11_stands_2 k_11_212 l_11_212 rfl rfl rfl (by omega) (Nat.le_of_ble_eq_true rfl) (Nat.le_of_ble_eq_true rfl) (by omega) (by omega) (fun _ q => s_X11_needWalker q) q (fun _ _ q => Or.inl ⟨rfl, q⟩) (fun h2 q => ?_)
  refine r_aload_n eX11_stands_5 rfl ?_
  refine r_iload_n eX11_stands_6 rfl ?_
  refine t_virtVx (As := [_]) (rest := []) (d' := d + 3 + 0) (ci := 11) (mc := 1) (ms := 6) eX11_stands_7 k_11_199 l_11_199 rfl rfl rfl (by omega) (Nat.le_of_ble_eq_true rfl) (Nat.le_of_ble_eq_true rfl) (by omega) (by omega) (fun _ q => s_X11_needName q) q (fun _ _ q => Or.inl ⟨rfl, q⟩) (fun h7 q => ?_)
  refine r_aload_n eX11_stands_10 rfl ?_
  refine r_iload_n eX11_stands_11 rfl ?_
  refine t_virtVx (As := [_]) (rest := []) (d' := d + 3 + 0) (ci := 11) (mc := 1) (ms := 6) eX11_stands_12 k_11_101 l_11_101 rfl rfl rfl (by omega) (Nat.le_of_ble_eq_true rfl) (Nat.le_of_ble_eq_true rfl) (by omega) (by omega) (fun _ q => s_X11_needPlace q) q (fun _ _ q => Or.inl ⟨rfl, q⟩) (fun h12 q => ?_)
  refine r_aload_n eX11_stands_15 rfl ?_
  refine r_iload eX11_stands_16 rfl ?_
  refine t_virtVx (As := [_]) (rest := []) (d' := d + 3 + 0) (ci := 11) (mc := 1) (ms := 6) eX11_stands_18 k_11_153 l_11_153 rfl rfl rfl (by omega) (Nat.le_of_ble_eq_true rfl) (Nat.le_of_ble_eq_true rfl) (by omega) (by omega) (fun _ q => s_X11_needYear q) q (fun _ _ q => Or.inl ⟨rfl, q⟩) (fun h18 q => ?_)
  refine r_aload_n eX11_stands_21 rfl ?_
  refine r_iload_n eX11_stands_22 rfl ?_
  refine r_iload eX11_stands_23 rfl ?_
  refine t_virtV (As := [_, _]) (rest := []) (d' := d + 0 + 3) (ci := 11) eX11_stands_25 k_11_215 rfl rfl rfl (by omega) (Nat.le_of_ble_eq_true rfl) (Nat.le_of_ble_eq_true rfl) (fun _ q => s_X11_setOut q) q (fun h25 q => ?_)
  refine r_iload eX11_stands_28 rfl ?_
  refine t_if_eq eX11_stands_30 (t := 44) (by decide) q (fun q => ?_) (fun q => ?_)
  · refine r_aload_n eX11_stands_44 rfl ?_
    refine t_gfR eX11_stands_45 f_11_44 q (fun v45 q => ?_)
    refine r_iload_n eX11_stands_48 rfl ?_
    refine t_virtL (As := [_]) (rest := []) (d' := d + 3 + 0) (ci := 9) eX11_stands_49 k_11_222 rfl rfl rfl (by omega) (Nat.le_of_ble_eq_true rfl) (Nat.le_of_ble_eq_true rfl) (fun _ q => s_X9_placesWith q) q (fun v49 h49 q => ?_)
    refine r_iload_n eX11_stands_52 rfl ?_
    refine t_statI (As := [_, _]) (rest := []) (d' := d + 3 + 0) eX11_stands_53 k_11_225 rfl (by omega) (Nat.le_of_ble_eq_true rfl) (Nat.le_of_ble_eq_true rfl) (fun _ q => s_X11_isIn q) q (fun v53 h53 q => ?_)
    exact t_rtZ eX11_stands_56 rfl q
  refine r_aload_n eX11_stands_33 rfl ?_
  refine t_gfR eX11_stands_34 f_11_44 q (fun v34 q => ?_)
  refine r_iload_n eX11_stands_37 rfl ?_
  refine t_virtL (As := [_]) (rest := []) (d' := d + 0 + 3) (ci := 9) eX11_stands_38 k_11_218 rfl rfl rfl (by omega) (Nat.le_of_ble_eq_true rfl) (Nat.le_of_ble_eq_true rfl) (fun _ q => s_X9_seenPlaces q) q (fun v38 h38 q => ?_)
  refine r_goto (t := 52) eX11_stands_41 (by decide) ?_
  refine r_iload_n eX11_stands_52 rfl ?_
  refine t_statI (As := [_, _]) (rest := []) (d' := d + 3 + 0) eX11_stands_53 k_11_225 rfl (by omega) (Nat.le_of_ble_eq_true rfl) (Nat.le_of_ble_eq_true rfl) (fun _ q => s_X11_isIn q) q (fun v53 h53 q => ?_)
  exact t_rtZ eX11_stands_56 rfl q
theorem s_X11_needWalkers {E : Ev} {d : Nat} {a0 : Nat} {x1 : Int32} {h : Hp} {Φ : Ou → Hp → Prop} (q : OK (F_X11_needWalkers E a0 x1 h) Φ) : CE E mX11_needWalkers (d + 0) [.ref a0, .int x1] h 1 6 Φ := by
  show WE E mX11_needWalkers (d + 0) 0 [some (.ref a0), some (.int x1)] [] h 1 6 Φ
  refine r_iload_n eX11_needWalkers_0 rfl ?_
  refine t_if_lt eX11_needWalkers_1 (t := 16) (by decide) q (fun q => ?_) (fun q => ?_)
  · exact r_throw th_X11_needWalkers_16 (Nat.le_of_ble_eq_true rfl) (by omega) (by omega) q
  refine r_iload_n eX11_needWalkers_4 rfl ?_
  refine r_aload_n eX11_needWalkers_5 rfl ?_
  refine t_gfR eX11_needWalkers_6 f_11_19 q (fun v6 q => ?_)
  refine t_gfI eX11_needWalkers_9 f_11_336 q (fun v9 q => ?_)
  refine r_ishr eX11_needWalkers_12 ?_
  refine t_if_eq eX11_needWalkers_13 (t := 24) (by decide) q (fun q => ?_) (fun q => ?_)
  · exact t_rtV eX11_needWalkers_24 rfl q
  exact r_throw th_X11_needWalkers_16 (Nat.le_of_ble_eq_true rfl) (by omega) (by omega) q
theorem s_X11_worth {E : Ev} {d : Nat} {a0 : Nat} {x1 : Int32} {x2 : Int32} {x3 : Int32} {x4 : Int32} {h : Hp} {Φ : Ou → Hp → Prop} (q : OK (F_X11_worth E a0 x1 x2 x3 x4 h) Φ) : CE E mX11_worth (d + 2) [.ref a0, .int x1, .int x2, .int x3, .int x4] h 3 18 Φ := by
  show WE E mX11_worth (d + 2) 0 [some (.ref a0), some (.int x1), some (.int x2), some (.int x3), some (.int x4), none] [] h 3 18 Φ
  refine r_iload_n eX11_worth_0 rfl ?_
  refine t_if_lt eX11_worth_1 (t := 15) (by decide) q (fun q => ?_) (fun q => ?_)
  · exact r_throw th_X11_worth_15 (Nat.le_of_ble_eq_true rfl) (by omega) (by omega) q
  refine r_iload_n eX11_worth_4 rfl ?_
  refine r_aload_n eX11_worth_5 rfl ?_
  refine t_gfR eX11_worth_6 f_11_12 q (fun v6 q => ?_)
  refine t_gfI eX11_worth_9 f_11_128 q (fun v9 q => ?_)
  refine t_icmp_lt eX11_worth_12 (t := 23) (by decide) q (fun q => ?_) (fun q => ?_)
  · refine r_aload_n eX11_worth_23 rfl ?_
    refine r_iload_n eX11_worth_24 rfl ?_
    refine t_virtVx (As := [_]) (rest := []) (d' := d + 1 + 0) (ci := 11) (mc := 1) (ms := 6) eX11_worth_25 k_11_229 l_11_229 rfl rfl rfl (by omega) (Nat.le_of_ble_eq_true rfl) (Nat.le_of_ble_eq_true rfl) (by omega) (by omega) (fun _ q => s_X11_needWalkers q) q (fun _ _ q => Or.inl ⟨rfl, q⟩) (fun h25 q => ?_)
    refine r_aload_n eX11_worth_28 rfl ?_
    refine r_iload_n eX11_worth_29 rfl ?_
    refine t_virtVx (As := [_]) (rest := []) (d' := d + 1 + 0) (ci := 11) (mc := 1) (ms := 6) eX11_worth_30 k_11_153 l_11_153 rfl rfl rfl (by omega) (Nat.le_of_ble_eq_true rfl) (Nat.le_of_ble_eq_true rfl) (by omega) (by omega) (fun _ q => s_X11_needYear q) q (fun _ _ q => Or.inl ⟨rfl, q⟩) (fun h30 q => ?_)
    refine r_iload eX11_worth_33 rfl ?_
    refine t_if_lt eX11_worth_35 (t := 44) (by decide) q (fun q => ?_) (fun q => ?_)
    · exact r_throw th_X11_worth_44 (Nat.le_of_ble_eq_true rfl) (by omega) (by omega) q
    refine r_iload eX11_worth_38 rfl ?_
    refine r_iconst (v := (1)) eX11_worth_40 (by decide) ?_
    refine t_icmp_le eX11_worth_41 (t := 52) (by decide) q (fun q => ?_) (fun q => ?_)
    · refine r_iload_n eX11_worth_52 rfl ?_
      refine r_aload_n eX11_worth_53 rfl ?_
      refine t_gfR eX11_worth_54 f_11_12 q (fun v54 q => ?_)
      refine t_gfR eX11_worth_57 f_11_138 q (fun v57 q => ?_)
      refine r_iload_n eX11_worth_60 rfl ?_
      refine t_gaI eX11_worth_61 q (fun v61 q => ?_)
      refine t_icmp_lt eX11_worth_62 (t := 78) (by decide) q (fun q => ?_) (fun q => ?_)
      · refine r_iconst (v := (-1)) eX11_worth_78 (by decide) ?_
        exact t_rtI eX11_worth_79 rfl q
      refine r_iload_n eX11_worth_65 rfl ?_
      refine r_aload_n eX11_worth_66 rfl ?_
      refine t_gfR eX11_worth_67 f_11_12 q (fun v67 q => ?_)
      refine t_gfR eX11_worth_70 f_11_144 q (fun v70 q => ?_)
      refine r_iload_n eX11_worth_73 rfl ?_
      refine t_gaI eX11_worth_74 q (fun v74 q => ?_)
      refine t_icmp_le eX11_worth_75 (t := 80) (by decide) q (fun q => ?_) (fun q => ?_)
      · refine r_aload_n eX11_worth_80 rfl ?_
        refine t_gfR eX11_worth_81 f_11_12 q (fun v81 q => ?_)
        refine t_gfR eX11_worth_84 f_11_232 q (fun v84 q => ?_)
        refine r_iload_n eX11_worth_87 rfl ?_
        refine t_gaI eX11_worth_88 q (fun v88 q => ?_)
        refine r_istore (lv' := [_, _, _, _, _, _]) eX11_worth_89 (Nat.le_of_ble_eq_true rfl) rfl ?_
        refine r_iload eX11_worth_91 rfl ?_
        refine t_if_ne eX11_worth_93 (t := 109) (by decide) q (fun q => ?_) (fun q => ?_)
        · refine r_aload_n eX11_worth_109 rfl ?_
          refine t_gfR eX11_worth_110 f_11_12 q (fun v110 q => ?_)
          refine r_iload eX11_worth_113 rfl ?_
          refine r_iload_n eX11_worth_115 rfl ?_
          refine t_virtI (As := [_, _]) (rest := []) (d' := d + 1 + 0) (ci := 3) eX11_worth_116 k_11_238 rfl rfl rfl (by omega) (Nat.le_of_ble_eq_true rfl) (Nat.le_of_ble_eq_true rfl) (fun _ q => s_X3_marksOf q) q (fun v116 h116 q => ?_)
          refine r_iconst (v := (1)) eX11_worth_119 (by decide) ?_
          refine r_isub eX11_worth_120 ?_
          exact t_rtI eX11_worth_121 rfl q
        refine r_aload_n eX11_worth_96 rfl ?_
        refine t_gfR eX11_worth_97 f_11_19 q (fun v97 q => ?_)
        refine r_iload eX11_worth_100 rfl ?_
        refine r_iload_n eX11_worth_102 rfl ?_
        refine t_virtI (As := [_, _]) (rest := []) (d' := d + 0 + 1) (ci := 2) eX11_worth_103 k_11_235 rfl rfl rfl (by omega) (Nat.le_of_ble_eq_true rfl) (Nat.le_of_ble_eq_true rfl) (fun _ q => s_X2_howManyKnow q) q (fun v103 h103 q => ?_)
        refine r_goto (t := 121) eX11_worth_106 (by decide) ?_
        exact t_rtI eX11_worth_121 rfl q
      refine r_iconst (v := (-1)) eX11_worth_78 (by decide) ?_
      exact t_rtI eX11_worth_79 rfl q
    exact r_throw th_X11_worth_44 (Nat.le_of_ble_eq_true rfl) (by omega) (by omega) q
  exact r_throw th_X11_worth_15 (Nat.le_of_ble_eq_true rfl) (by omega) (by omega) q
theorem s_X11_feed {E : Ev} {d : Nat} {a0 : Nat} {x1 : Int32} {x2 : Int32} {x3 : Int32} {x4 : Int32} {x5 : Int32} {h : Hp} {Φ : Ou → Hp → Prop} (q : OK (F_X11_feed E a0 x1 x2 x3 x4 x5 h) Φ) : CE E mX11_feed (d + 1) [.ref a0, .int x1, .int x2, .int x3, .int x4, .int x5] h 0 0 Φ := by
  show WE E mX11_feed (d + 1) 0 [some (.ref a0), some (.int x1), some (.int x2), some (.int x3), some (.int x4), some (.int x5)] [] h 0 0 Φ
  refine r_aload_n eX11_feed_0 rfl ?_
  refine t_gfR eX11_feed_1 f_11_67 q (fun v1 q => ?_)
  refine t_gfI eX11_feed_4 f_11_241 q (fun v4 q => ?_)
  refine r_bipush (v := (20)) eX11_feed_7 (by decide) ?_
  refine r_iadd eX11_feed_9 ?_
  refine r_sipush (v := (200)) eX11_feed_10 (by decide) ?_
  refine t_icmp_le eX11_feed_13 (t := 18) (by decide) q (fun q => ?_) (fun q => ?_)
  · refine r_aload_n eX11_feed_18 rfl ?_
    refine t_gfR eX11_feed_19 f_11_67 q (fun v19 q => ?_)
    refine r_iload_n eX11_feed_22 rfl ?_
    refine t_virtV (As := [_]) (rest := []) (d' := d + 0 + 0) (ci := 5) eX11_feed_23 k_11_244 rfl rfl rfl (by omega) (Nat.le_of_ble_eq_true rfl) (Nat.le_of_ble_eq_true rfl) (fun _ q => s_X5_put q) q (fun h23 q => ?_)
    refine r_aload_n eX11_feed_26 rfl ?_
    refine t_gfR eX11_feed_27 f_11_67 q (fun v27 q => ?_)
    refine r_iload_n eX11_feed_30 rfl ?_
    refine t_virtV (As := [_]) (rest := []) (d' := d + 0 + 0) (ci := 5) eX11_feed_31 k_11_244 rfl rfl rfl (by omega) (Nat.le_of_ble_eq_true rfl) (Nat.le_of_ble_eq_true rfl) (fun _ q => s_X5_put q) q (fun h31 q => ?_)
    refine r_aload_n eX11_feed_34 rfl ?_
    refine t_gfR eX11_feed_35 f_11_67 q (fun v35 q => ?_)
    refine r_iload_n eX11_feed_38 rfl ?_
    refine t_virtV (As := [_]) (rest := []) (d' := d + 0 + 0) (ci := 5) eX11_feed_39 k_11_244 rfl rfl rfl (by omega) (Nat.le_of_ble_eq_true rfl) (Nat.le_of_ble_eq_true rfl) (fun _ q => s_X5_put q) q (fun h39 q => ?_)
    refine r_aload_n eX11_feed_42 rfl ?_
    refine t_gfR eX11_feed_43 f_11_67 q (fun v43 q => ?_)
    refine r_iload eX11_feed_46 rfl ?_
    refine t_virtV (As := [_]) (rest := []) (d' := d + 0 + 0) (ci := 5) eX11_feed_48 k_11_244 rfl rfl rfl (by omega) (Nat.le_of_ble_eq_true rfl) (Nat.le_of_ble_eq_true rfl) (fun _ q => s_X5_put q) q (fun h48 q => ?_)
    refine r_aload_n eX11_feed_51 rfl ?_
    refine t_gfR eX11_feed_52 f_11_67 q (fun v52 q => ?_)
    refine r_iload eX11_feed_55 rfl ?_
    refine t_virtV (As := [_]) (rest := []) (d' := d + 0 + 0) (ci := 5) eX11_feed_57 k_11_244 rfl rfl rfl (by omega) (Nat.le_of_ble_eq_true rfl) (Nat.le_of_ble_eq_true rfl) (fun _ q => s_X5_put q) q (fun h57 q => ?_)
    refine r_aload_n eX11_feed_60 rfl ?_
    refine t_gfR eX11_feed_61 f_11_67 q (fun v61 q => ?_)
    refine t_gfI eX11_feed_64 f_11_241 q (fun v64 q => ?_)
    exact t_rtI eX11_feed_67 rfl q
  refine r_iconst (v := (-1)) eX11_feed_16 (by decide) ?_
  exact t_rtI eX11_feed_17 rfl q
theorem s_X11_needTeller {E : Ev} {d : Nat} {a0 : Nat} {x1 : Int32} {h : Hp} {Φ : Ou → Hp → Prop} (q : OK (F_X11_needTeller E a0 x1 h) Φ) : CE E mX11_needTeller (d + 0) [.ref a0, .int x1] h 1 6 Φ := by
  show WE E mX11_needTeller (d + 0) 0 [some (.ref a0), some (.int x1)] [] h 1 6 Φ
  refine r_iload_n eX11_needTeller_0 rfl ?_
  refine t_if_lt eX11_needTeller_1 (t := 10) (by decide) q (fun q => ?_) (fun q => ?_)
  · exact r_throw th_X11_needTeller_10 (Nat.le_of_ble_eq_true rfl) (by omega) (by omega) q
  refine r_iload_n eX11_needTeller_4 rfl ?_
  refine r_bipush (v := (10)) eX11_needTeller_5 (by decide) ?_
  refine t_icmp_lt eX11_needTeller_7 (t := 18) (by decide) q (fun q => ?_) (fun q => ?_)
  · exact t_rtV eX11_needTeller_18 rfl q
  exact r_throw th_X11_needTeller_10 (Nat.le_of_ble_eq_true rfl) (by omega) (by omega) q
theorem s_X11_telling {E : Ev} {d : Nat} {a0 : Nat} {x1 : Int32} {x2 : Int32} {x3 : Int32} {h : Hp} {Φ : Ou → Hp → Prop} (q : OK (F_X11_telling E a0 x1 x2 x3 h) Φ) : CE E mX11_telling (d + 5) [.ref a0, .int x1, .int x2, .int x3] h 2 12 Φ := by
  show WE E mX11_telling (d + 5) 0 [some (.ref a0), some (.int x1), some (.int x2), some (.int x3), none] [] h 2 12 Φ
  refine r_aload_n eX11_telling_0 rfl ?_
  refine r_iload_n eX11_telling_1 rfl ?_
  refine t_virtVx (As := [_]) (rest := []) (d' := d + 4 + 0) (ci := 11) (mc := 1) (ms := 6) eX11_telling_2 k_11_101 l_11_101 rfl rfl rfl (by omega) (Nat.le_of_ble_eq_true rfl) (Nat.le_of_ble_eq_true rfl) (by omega) (by omega) (fun _ q => s_X11_needPlace q) q (fun _ _ q => Or.inl ⟨rfl, q⟩) (fun h2 q => ?_)
  refine r_iload_n eX11_telling_5 rfl ?_
  refine t_if_lt eX11_telling_6 (t := 20) (by decide) q (fun q => ?_) (fun q => ?_)
  · exact r_throw th_X11_telling_20 (Nat.le_of_ble_eq_true rfl) (by omega) (by omega) q
  refine r_iload_n eX11_telling_9 rfl ?_
  refine r_aload_n eX11_telling_10 rfl ?_
  refine t_gfR eX11_telling_11 f_11_67 q (fun v11 q => ?_)
  refine t_gfI eX11_telling_14 f_11_241 q (fun v14 q => ?_)
  refine t_icmp_le eX11_telling_17 (t := 28) (by decide) q (fun q => ?_) (fun q => ?_)
  · refine r_aload_n eX11_telling_28 rfl ?_
    refine r_iload_n eX11_telling_29 rfl ?_
    refine t_virtVx (As := [_]) (rest := []) (d' := d + 4 + 0) (ci := 11) (mc := 1) (ms := 6) eX11_telling_30 k_11_247 l_11_247 rfl rfl rfl (by omega) (Nat.le_of_ble_eq_true rfl) (Nat.le_of_ble_eq_true rfl) (by omega) (by omega) (fun _ q => s_X11_needTeller q) q (fun _ _ q => Or.inl ⟨rfl, q⟩) (fun h30 q => ?_)
    refine r_aload_n eX11_telling_33 rfl ?_
    refine t_gfR eX11_telling_34 f_11_26 q (fun v34 q => ?_)
    refine t_gfI eX11_telling_37 f_11_250 q (fun v37 q => ?_)
    refine r_bipush (v := (12)) eX11_telling_40 (by decide) ?_
    refine t_icmp_ne eX11_telling_42 (t := 47) (by decide) q (fun q => ?_) (fun q => ?_)
    · refine r_aload_n eX11_telling_47 rfl ?_
      refine t_gfR eX11_telling_48 f_11_67 q (fun v48 q => ?_)
      refine r_iload_n eX11_telling_51 rfl ?_
      refine t_virtI (As := [_]) (rest := []) (d' := d + 0 + 4) (ci := 5) eX11_telling_52 k_11_253 rfl rfl rfl (by omega) (Nat.le_of_ble_eq_true rfl) (Nat.le_of_ble_eq_true rfl) (fun _ q => s_X5_read q) q (fun v52 h52 q => ?_)
      refine r_istore (lv' := [_, _, _, _, _]) eX11_telling_55 (Nat.le_of_ble_eq_true rfl) rfl ?_
      refine r_iload eX11_telling_57 rfl ?_
      refine t_if_ne eX11_telling_59 (t := 88) (by decide) q (fun q => ?_) (fun q => ?_)
      · refine r_bipush (v := (-10)) eX11_telling_88 (by decide) ?_
        refine r_iload eX11_telling_90 rfl ?_
        refine r_isub eX11_telling_92 ?_
        exact t_rtI eX11_telling_93 rfl q
      refine r_aload_n eX11_telling_62 rfl ?_
      refine t_gfR eX11_telling_63 f_11_26 q (fun v63 q => ?_)
      refine r_aload_n eX11_telling_66 rfl ?_
      refine t_gfR eX11_telling_67 f_11_67 q (fun v67 q => ?_)
      refine t_gfR eX11_telling_70 f_11_256 q (fun v70 q => ?_)
      refine r_aload_n eX11_telling_73 rfl ?_
      refine t_gfR eX11_telling_74 f_11_67 q (fun v74 q => ?_)
      refine t_gfI eX11_telling_77 f_11_259 q (fun v77 q => ?_)
      refine r_iload_n eX11_telling_80 rfl ?_
      refine r_iload_n eX11_telling_81 rfl ?_
      refine t_virtI (As := [_, _, _, _]) (rest := []) (d' := d + 4 + 0) (ci := 0) eX11_telling_82 k_11_262 rfl rfl rfl (by omega) (Nat.le_of_ble_eq_true rfl) (Nat.le_of_ble_eq_true rfl) (fun _ q => s_X0_addTelling q) q (fun v82 h82 q => ?_)
      refine r_goto (t := 93) eX11_telling_85 (by decide) ?_
      exact t_rtI eX11_telling_93 rfl q
    refine r_iconst (v := (-1)) eX11_telling_45 (by decide) ?_
    exact t_rtI eX11_telling_46 rfl q
  exact r_throw th_X11_telling_20 (Nat.le_of_ble_eq_true rfl) (by omega) (by omega) q
theorem s_X11_fault {E : Ev} {d : Nat} {a0 : Nat} {x1 : Int32} {h : Hp} {Φ : Ou → Hp → Prop} (q : OK (F_X11_fault E a0 x1 h) Φ) : CE E mX11_fault (d + 0) [.ref a0, .int x1] h 0 0 Φ := by
  show WE E mX11_fault (d + 0) 0 [some (.ref a0), some (.int x1)] [] h 0 0 Φ
  refine r_iload_n eX11_fault_0 rfl ?_
  refine OK_ite q (fun c0 q => ?_) (fun n0 q => ?_)
  · refine r_lsw 28 eX11_fault_1 (by decide) (by rw [c0]; decide) (by rw [c0]; decide) ?_
    refine r_aload_n eX11_fault_28 rfl ?_
    refine t_gfR eX11_fault_29 f_11_67 q (fun v29 q => ?_)
    refine t_gfI eX11_fault_32 f_11_266 q (fun v32 q => ?_)
    exact t_rtI eX11_fault_35 rfl q
  refine OK_ite q (fun c1 q => ?_) (fun n1 q => ?_)
  · refine r_lsw 36 eX11_fault_1 (by decide) (by rw [c1]; decide) (by rw [c1]; decide) ?_
    refine r_aload_n eX11_fault_36 rfl ?_
    refine t_gfR eX11_fault_37 f_11_67 q (fun v37 q => ?_)
    refine t_gfI eX11_fault_40 f_11_269 q (fun v40 q => ?_)
    exact t_rtI eX11_fault_43 rfl q
  have eo : Op.lookupswitch.offset (#[(0, 27), (1, 35)] : Array (Int × Int)).toList 43 (x1).toInt = 43 := by have z0 := ne_i n0; rw [show (0 : Int32).toInt = 0 from by decide] at z0; have z1 := ne_i n1; rw [show (1 : Int32).toInt = 1 from by decide] at z1; show (if (0 : Int) = (x1).toInt then (27 : Int) else if (1 : Int) = (x1).toInt then (35 : Int) else 43) = 43; rw [if_neg (Ne.symm z0), if_neg (Ne.symm z1)]
  refine r_lsw 44 eX11_fault_1 (by decide) (by rw [eo]; decide) (by rw [eo]; decide) ?_
  refine r_iconst (v := (-1)) eX11_fault_44 (by decide) ?_
  exact t_rtI eX11_fault_45 rfl q
theorem s_X11_needTelling {E : Ev} {d : Nat} {a0 : Nat} {x1 : Int32} {h : Hp} {Φ : Ou → Hp → Prop} (q : OK (F_X11_needTelling E a0 x1 h) Φ) : CE E mX11_needTelling (d + 0) [.ref a0, .int x1] h 1 6 Φ := by
  show WE E mX11_needTelling (d + 0) 0 [some (.ref a0), some (.int x1)] [] h 1 6 Φ
  refine r_iload_n eX11_needTelling_0 rfl ?_
  refine t_if_lt eX11_needTelling_1 (t := 15) (by decide) q (fun q => ?_) (fun q => ?_)
  · exact r_throw th_X11_needTelling_15 (Nat.le_of_ble_eq_true rfl) (by omega) (by omega) q
  refine r_iload_n eX11_needTelling_4 rfl ?_
  refine r_aload_n eX11_needTelling_5 rfl ?_
  refine t_gfR eX11_needTelling_6 f_11_26 q (fun v6 q => ?_)
  refine t_gfI eX11_needTelling_9 f_11_250 q (fun v9 q => ?_)
  refine t_icmp_lt eX11_needTelling_12 (t := 23) (by decide) q (fun q => ?_) (fun q => ?_)
  · exact t_rtV eX11_needTelling_23 rfl q
  exact r_throw th_X11_needTelling_15 (Nat.le_of_ble_eq_true rfl) (by omega) (by omega) q
theorem s_X11_sayings {E : Ev} {d : Nat} {a0 : Nat} {x1 : Int32} {h : Hp} {Φ : Ou → Hp → Prop} (q : OK (F_X11_sayings E a0 x1 h) Φ) : CE E mX11_sayings (d + 1) [.ref a0, .int x1] h 1 6 Φ := by
  show WE E mX11_sayings (d + 1) 0 [some (.ref a0), some (.int x1)] [] h 1 6 Φ
  refine r_aload_n eX11_sayings_0 rfl ?_
  refine r_iload_n eX11_sayings_1 rfl ?_
  refine t_virtVx (As := [_]) (rest := []) (d' := d + 0 + 0) (ci := 11) (mc := 1) (ms := 6) eX11_sayings_2 k_11_272 l_11_272 rfl rfl rfl (by omega) (Nat.le_of_ble_eq_true rfl) (Nat.le_of_ble_eq_true rfl) (by omega) (by omega) (fun _ q => s_X11_needTelling q) q (fun _ _ q => Or.inl ⟨rfl, q⟩) (fun h2 q => ?_)
  refine r_aload_n eX11_sayings_5 rfl ?_
  refine t_gfR eX11_sayings_6 f_11_26 q (fun v6 q => ?_)
  refine t_gfR eX11_sayings_9 f_11_275 q (fun v9 q => ?_)
  refine r_iload_n eX11_sayings_12 rfl ?_
  refine t_gaI eX11_sayings_13 q (fun v13 q => ?_)
  exact t_rtI eX11_sayings_14 rfl q
theorem s_X11_needTold {E : Ev} {d : Nat} {a0 : Nat} {x1 : Int32} {x2 : Int32} {x3 : Int32} {x4 : Int32} {h : Hp} {Φ : Ou → Hp → Prop} (q : OK (F_X11_needTold E a0 x1 x2 x3 x4 h) Φ) : CE E mX11_needTold (d + 1) [.ref a0, .int x1, .int x2, .int x3, .int x4] h 4 24 Φ := by
  show WE E mX11_needTold (d + 1) 0 [some (.ref a0), some (.int x1), some (.int x2), some (.int x3), some (.int x4)] [] h 4 24 Φ
  refine r_aload_n eX11_needTold_0 rfl ?_
  refine r_iload_n eX11_needTold_1 rfl ?_
  refine t_virtVx (As := [_]) (rest := []) (d' := d + 0 + 0) (ci := 11) (mc := 1) (ms := 6) eX11_needTold_2 k_11_272 l_11_272 rfl rfl rfl (by omega) (Nat.le_of_ble_eq_true rfl) (Nat.le_of_ble_eq_true rfl) (by omega) (by omega) (fun _ q => s_X11_needTelling q) q (fun _ _ q => Or.inl ⟨rfl, q⟩) (fun h2 q => ?_)
  refine r_aload_n eX11_needTold_5 rfl ?_
  refine r_iload_n eX11_needTold_6 rfl ?_
  refine t_virtVx (As := [_]) (rest := []) (d' := d + 0 + 0) (ci := 11) (mc := 1) (ms := 6) eX11_needTold_7 k_11_212 l_11_212 rfl rfl rfl (by omega) (Nat.le_of_ble_eq_true rfl) (Nat.le_of_ble_eq_true rfl) (by omega) (by omega) (fun _ q => s_X11_needWalker q) q (fun _ _ q => Or.inl ⟨rfl, q⟩) (fun h7 q => ?_)
  refine r_aload_n eX11_needTold_10 rfl ?_
  refine r_iload_n eX11_needTold_11 rfl ?_
  refine t_virtVx (As := [_]) (rest := []) (d' := d + 0 + 0) (ci := 11) (mc := 1) (ms := 6) eX11_needTold_12 k_11_147 l_11_147 rfl rfl rfl (by omega) (Nat.le_of_ble_eq_true rfl) (Nat.le_of_ble_eq_true rfl) (by omega) (by omega) (fun _ q => s_X11_needState q) q (fun _ _ q => Or.inl ⟨rfl, q⟩) (fun h12 q => ?_)
  refine r_aload_n eX11_needTold_15 rfl ?_
  refine r_iload eX11_needTold_16 rfl ?_
  refine t_virtVx (As := [_]) (rest := []) (d' := d + 0 + 0) (ci := 11) (mc := 1) (ms := 6) eX11_needTold_18 k_11_153 l_11_153 rfl rfl rfl (by omega) (Nat.le_of_ble_eq_true rfl) (Nat.le_of_ble_eq_true rfl) (by omega) (by omega) (fun _ q => s_X11_needYear q) q (fun _ _ q => Or.inl ⟨rfl, q⟩) (fun h18 q => ?_)
  exact t_rtV eX11_needTold_21 rfl q
theorem s_X11_leads {E : Ev} {d : Nat} {a0 : Nat} {x1 : Int32} {x2 : Int32} {x3 : Int32} {x4 : Int32} {x5 : Int32} {x6 : Int32} {h : Hp} {Φ : Ou → Hp → Prop} (q : OK (F_X11_leads E a0 x1 x2 x3 x4 x5 x6 h) Φ) : CE E mX11_leads (d + 7) [.ref a0, .int x1, .int x2, .int x3, .int x4, .int x5, .int x6] h 5 30 Φ := by
  show WE E mX11_leads (d + 7) 0 [some (.ref a0), some (.int x1), some (.int x2), some (.int x3), some (.int x4), some (.int x5), some (.int x6)] [] h 5 30 Φ
  refine r_aload_n eX11_leads_0 rfl ?_
  refine r_iload_n eX11_leads_1 rfl ?_
  refine r_iload_n eX11_leads_2 rfl ?_
  refine r_iload_n eX11_leads_3 rfl ?_
  refine r_iload eX11_leads_4 rfl ?_
  refine t_virtVx (As := [_, _, _, _]) (rest := []) (d' := d + 5 + 1) (ci := 11) (mc := 4) (ms := 24) eX11_leads_6 k_11_278 l_11_278 rfl rfl rfl (by omega) (Nat.le_of_ble_eq_true rfl) (Nat.le_of_ble_eq_true rfl) (by omega) (by omega) (fun _ q => s_X11_needTold q) q (fun _ _ q => Or.inl ⟨rfl, q⟩) (fun h6 q => ?_)
  refine r_iload eX11_leads_9 rfl ?_
  refine t_if_lt eX11_leads_11 (t := 28) (by decide) q (fun q => ?_) (fun q => ?_)
  · exact r_throw th_X11_leads_28 (Nat.le_of_ble_eq_true rfl) (by omega) (by omega) q
  refine r_iload eX11_leads_14 rfl ?_
  refine r_aload_n eX11_leads_16 rfl ?_
  refine t_gfR eX11_leads_17 f_11_26 q (fun v17 q => ?_)
  refine t_gfR eX11_leads_20 f_11_275 q (fun v20 q => ?_)
  refine r_iload_n eX11_leads_23 rfl ?_
  refine t_gaI eX11_leads_24 q (fun v24 q => ?_)
  refine t_icmp_le eX11_leads_25 (t := 36) (by decide) q (fun q => ?_) (fun q => ?_)
  · refine r_aload_n eX11_leads_36 rfl ?_
    refine r_iload_n eX11_leads_37 rfl ?_
    refine r_iload eX11_leads_38 rfl ?_
    refine t_virtV (As := [_, _]) (rest := []) (d' := d + 3 + 3) (ci := 11) eX11_leads_40 k_11_215 rfl rfl rfl (by omega) (Nat.le_of_ble_eq_true rfl) (Nat.le_of_ble_eq_true rfl) (fun _ q => s_X11_setOut q) q (fun h40 q => ?_)
    refine r_aload_n eX11_leads_43 rfl ?_
    refine t_gfR eX11_leads_44 f_11_44 q (fun v44 q => ?_)
    refine r_iload_n eX11_leads_47 rfl ?_
    refine r_iload_n eX11_leads_48 rfl ?_
    refine r_iload eX11_leads_49 rfl ?_
    refine t_virtI (As := [_, _, _]) (rest := []) (d' := d + 0 + 6) (ci := 9) eX11_leads_51 k_11_282 rfl rfl rfl (by omega) (Nat.le_of_ble_eq_true rfl) (Nat.le_of_ble_eq_true rfl) (fun _ q => s_X9_follow q) q (fun v51 h51 q => ?_)
    refine r_pop eX11_leads_54 rfl ?_
    refine r_iload eX11_leads_55 rfl ?_
    refine r_iconst (v := (-1)) eX11_leads_57 (by decide) ?_
    refine t_icmp_ne eX11_leads_58 (t := 74) (by decide) q (fun q => ?_) (fun q => ?_)
    · refine r_aload_n eX11_leads_74 rfl ?_
      refine t_gfR eX11_leads_75 f_11_44 q (fun v75 q => ?_)
      refine t_gfR eX11_leads_78 f_11_173 q (fun v78 q => ?_)
      refine r_iload eX11_leads_81 rfl ?_
      refine t_virtI (As := [_]) (rest := []) (d' := d + 5 + 1) (ci := 6) eX11_leads_83 k_11_190 rfl rfl rfl (by omega) (Nat.le_of_ble_eq_true rfl) (Nat.le_of_ble_eq_true rfl) (fun _ q => s_X6_nth q) q (fun v83 h83 q => ?_)
      exact t_rtI eX11_leads_86 rfl q
    refine r_aload_n eX11_leads_61 rfl ?_
    refine t_gfR eX11_leads_62 f_11_44 q (fun v62 q => ?_)
    refine t_gfR eX11_leads_65 f_11_173 q (fun v65 q => ?_)
    refine t_virtI (As := []) (rest := []) (d' := d + 5 + 1) (ci := 6) eX11_leads_68 k_11_186 rfl rfl rfl (by omega) (Nat.le_of_ble_eq_true rfl) (Nat.le_of_ble_eq_true rfl) (fun _ q => s_X6_size q) q (fun v68 h68 q => ?_)
    refine r_goto (t := 86) eX11_leads_71 (by decide) ?_
    exact t_rtI eX11_leads_86 rfl q
  exact r_throw th_X11_leads_28 (Nat.le_of_ble_eq_true rfl) (by omega) (by omega) q
theorem s_X11_holds {E : Ev} {d : Nat} {a0 : Nat} {x1 : Int32} {x2 : Int32} {x3 : Int32} {x4 : Int32} {h : Hp} {Φ : Ou → Hp → Prop} (q : OK (F_X11_holds E a0 x1 x2 x3 x4 h) Φ) : CE E mX11_holds (d + 7) [.ref a0, .int x1, .int x2, .int x3, .int x4] h 4 24 Φ := by
  show WE E mX11_holds (d + 7) 0 [some (.ref a0), some (.int x1), some (.int x2), some (.int x3), some (.int x4)] [] h 4 24 Φ
  refine r_aload_n eX11_holds_0 rfl ?_
  refine r_iload_n eX11_holds_1 rfl ?_
  refine r_iload_n eX11_holds_2 rfl ?_
  refine r_iload_n eX11_holds_3 rfl ?_
  refine r_iload eX11_holds_4 rfl ?_
  refine t_virtVx (As := [_, _, _, _]) (rest := []) (d' := d + 5 + 1) (ci := 11) (mc := 4) (ms := 24) eX11_holds_6 k_11_278 l_11_278 rfl rfl rfl (by omega) (Nat.le_of_ble_eq_true rfl) (Nat.le_of_ble_eq_true rfl) (by omega) (by omega) (fun _ q => s_X11_needTold q) q (fun _ _ q => Or.inl ⟨rfl, q⟩) (fun h6 q => ?_)
  refine r_aload_n eX11_holds_9 rfl ?_
  refine r_iload_n eX11_holds_10 rfl ?_
  refine r_iload eX11_holds_11 rfl ?_
  refine t_virtV (As := [_, _]) (rest := []) (d' := d + 3 + 3) (ci := 11) eX11_holds_13 k_11_215 rfl rfl rfl (by omega) (Nat.le_of_ble_eq_true rfl) (Nat.le_of_ble_eq_true rfl) (fun _ q => s_X11_setOut q) q (fun h13 q => ?_)
  refine r_aload_n eX11_holds_16 rfl ?_
  refine t_gfR eX11_holds_17 f_11_44 q (fun v17 q => ?_)
  refine r_iload_n eX11_holds_20 rfl ?_
  refine r_iload_n eX11_holds_21 rfl ?_
  refine r_aload_n eX11_holds_22 rfl ?_
  refine t_gfR eX11_holds_23 f_11_26 q (fun v23 q => ?_)
  refine t_gfR eX11_holds_26 f_11_275 q (fun v26 q => ?_)
  refine r_iload_n eX11_holds_29 rfl ?_
  refine t_gaI eX11_holds_30 q (fun v30 q => ?_)
  refine t_virtI (As := [_, _, _]) (rest := []) (d' := d + 0 + 6) (ci := 9) eX11_holds_31 k_11_282 rfl rfl rfl (by omega) (Nat.le_of_ble_eq_true rfl) (Nat.le_of_ble_eq_true rfl) (fun _ q => s_X9_follow q) q (fun v31 h31 q => ?_)
  exact t_rtI eX11_holds_34 rfl q
theorem sL_X11_nthOf_22 {E : Ev} {d kc ks : Nat} {Φ : Ou → Hp → Prop} {y0 : Int64} {y2 : Int32} {y3 : Int32}  : ∀ (g : Nat) (y4 : Int64) (y6 : Int32) (h : Hp), OK (L_X11_nthOf_22 E y2 g y4 y6 h) Φ → WE E mX11_nthOf (d + 2) 22 [some (.long y0), none, some (.int y2), some (.int y3), some (.long y4), none, some (.int y6)] [] h kc ks Φ := by
  intro g
  induction g with
  | zero => intro y4 y6 h q; exact q.elim
  | succ g ih =>
    intro y4 y6 h q
    refine r_iload eX11_nthOf_22 rfl ?_
    refine r_iload_n eX11_nthOf_24 rfl ?_
    refine t_icmp_ge eX11_nthOf_25 (t := 43) (by decide) q (fun q => ?_) (fun q => ?_)
    · refine r_lload eX11_nthOf_43 rfl ?_
      refine t_statI (As := [_]) (rest := []) (d' := d + 0 + 1) eX11_nthOf_45 k_11_439 rfl (by omega) (Nat.le_of_ble_eq_true rfl) (Nat.le_of_ble_eq_true rfl) (fun _ q => s_X11_lowest q) q (fun v45 h45 q => ?_)
      exact t_rtI eX11_nthOf_48 rfl q
    refine r_lload eX11_nthOf_28 rfl ?_
    refine r_lload eX11_nthOf_30 rfl ?_
    refine r_lconst (v := 1) eX11_nthOf_32 rfl ?_
    refine r_lsub eX11_nthOf_33 ?_
    refine r_land eX11_nthOf_34 ?_
    replace q := OK_lt q
    refine r_lstore (lv' := [_, _, _, _, _, _, _]) eX11_nthOf_35 (Nat.le_of_ble_eq_true rfl) rfl ?_
    refine r_iinc (v := (1)) (lv' := [_, _, _, _, _, _, _]) eX11_nthOf_37 rfl (by decide) rfl ?_
    refine r_goto (t := 22) eX11_nthOf_40 (by decide) ?_
    exact ih _ _ _ q
theorem s_X11_nthOf {E : Ev} {d : Nat} {x0 : Int64} {x2 : Int32} {h : Hp} {Φ : Ou → Hp → Prop} (q : OK (F_X11_nthOf E x0 x2 h) Φ) : CE E mX11_nthOf (d + 2) [.long x0, .int x2] h 0 0 Φ := by
  show WE E mX11_nthOf (d + 2) 0 [some (.long x0), none, some (.int x2), none, none, none, none] [] h 0 0 Φ
  refine r_lload_n eX11_nthOf_0 rfl ?_
  refine t_statI (As := [_]) (rest := []) (d' := d + 1 + 0) eX11_nthOf_1 k_11_167 rfl (by omega) (Nat.le_of_ble_eq_true rfl) (Nat.le_of_ble_eq_true rfl) (fun _ q => s_J13_bitCount_95d88 q) q (fun v1 h1 q => ?_)
  refine r_istore_n (lv' := [_, _, _, _, _, _, _]) eX11_nthOf_4 (Nat.le_of_ble_eq_true rfl) rfl ?_
  refine r_iload_n eX11_nthOf_5 rfl ?_
  refine t_if_lt eX11_nthOf_6 (t := 14) (by decide) q (fun q => ?_) (fun q => ?_)
  · refine r_iconst (v := (-1)) eX11_nthOf_14 (by decide) ?_
    exact t_rtI eX11_nthOf_15 rfl q
  refine r_iload_n eX11_nthOf_9 rfl ?_
  refine r_iload_n eX11_nthOf_10 rfl ?_
  refine t_icmp_lt eX11_nthOf_11 (t := 16) (by decide) q (fun q => ?_) (fun q => ?_)
  · refine r_lload_n eX11_nthOf_16 rfl ?_
    refine r_lstore (lv' := [_, _, _, _, _, _, _]) eX11_nthOf_17 (Nat.le_of_ble_eq_true rfl) rfl ?_
    refine r_iconst (v := (0)) eX11_nthOf_19 (by decide) ?_
    refine r_istore (lv' := [_, _, _, _, _, _, _]) eX11_nthOf_20 (Nat.le_of_ble_eq_true rfl) rfl ?_
    exact sL_X11_nthOf_22  _ _ _ _ q
  refine r_iconst (v := (-1)) eX11_nthOf_14 (by decide) ?_
  exact t_rtI eX11_nthOf_15 rfl q
theorem s_X11_end {E : Ev} {d : Nat} {a0 : Nat} {x1 : Int32} {x2 : Int32} {x3 : Int32} {x4 : Int32} {x5 : Int32} {h : Hp} {Φ : Ou → Hp → Prop} (q : OK (F_X11_end E a0 x1 x2 x3 x4 x5 h) Φ) : CE E mX11_end (d + 8) [.ref a0, .int x1, .int x2, .int x3, .int x4, .int x5] h 4 24 Φ := by
  show WE E mX11_end (d + 8) 0 [some (.ref a0), some (.int x1), some (.int x2), some (.int x3), some (.int x4), some (.int x5), none, none] [] h 4 24 Φ
  refine r_aload_n eX11_end_0 rfl ?_
  refine r_iload_n eX11_end_1 rfl ?_
  refine r_iload_n eX11_end_2 rfl ?_
  refine r_iload_n eX11_end_3 rfl ?_
  refine r_iload eX11_end_4 rfl ?_
  refine t_virtVx (As := [_, _, _, _]) (rest := []) (d' := d + 6 + 1) (ci := 11) (mc := 4) (ms := 24) eX11_end_6 k_11_278 l_11_278 rfl rfl rfl (by omega) (Nat.le_of_ble_eq_true rfl) (Nat.le_of_ble_eq_true rfl) (by omega) (by omega) (fun _ q => s_X11_needTold q) q (fun _ _ q => Or.inl ⟨rfl, q⟩) (fun h6 q => ?_)
  refine r_aload_n eX11_end_9 rfl ?_
  refine r_iload_n eX11_end_10 rfl ?_
  refine r_iload eX11_end_11 rfl ?_
  refine t_virtV (As := [_, _]) (rest := []) (d' := d + 4 + 3) (ci := 11) eX11_end_13 k_11_215 rfl rfl rfl (by omega) (Nat.le_of_ble_eq_true rfl) (Nat.le_of_ble_eq_true rfl) (fun _ q => s_X11_setOut q) q (fun h13 q => ?_)
  refine r_aload_n eX11_end_16 rfl ?_
  refine t_gfR eX11_end_17 f_11_44 q (fun v17 q => ?_)
  refine r_iload_n eX11_end_20 rfl ?_
  refine r_iload_n eX11_end_21 rfl ?_
  refine t_virtL (As := [_, _]) (rest := []) (d' := d + 0 + 7) (ci := 9) eX11_end_22 k_11_286 rfl rfl rfl (by omega) (Nat.le_of_ble_eq_true rfl) (Nat.le_of_ble_eq_true rfl) (fun _ q => s_X9_lastPlaces q) q (fun v22 h22 q => ?_)
  refine r_lstore (lv' := [_, _, _, _, _, _, _, _]) eX11_end_25 (Nat.le_of_ble_eq_true rfl) rfl ?_
  refine r_iload eX11_end_27 rfl ?_
  refine r_iconst (v := (-1)) eX11_end_29 (by decide) ?_
  refine t_icmp_ne eX11_end_30 (t := 41) (by decide) q (fun q => ?_) (fun q => ?_)
  · refine r_lload eX11_end_41 rfl ?_
    refine r_iload eX11_end_43 rfl ?_
    refine t_statI (As := [_, _]) (rest := []) (d' := d + 5 + 2) eX11_end_45 k_11_290 rfl (by omega) (Nat.le_of_ble_eq_true rfl) (Nat.le_of_ble_eq_true rfl) (fun _ q => s_X11_nthOf q) q (fun v45 h45 q => ?_)
    exact t_rtI eX11_end_48 rfl q
  refine r_lload eX11_end_33 rfl ?_
  refine t_statI (As := [_]) (rest := []) (d' := d + 7 + 0) eX11_end_35 k_11_167 rfl (by omega) (Nat.le_of_ble_eq_true rfl) (Nat.le_of_ble_eq_true rfl) (fun _ q => s_J13_bitCount_95d88 q) q (fun v35 h35 q => ?_)
  refine r_goto (t := 48) eX11_end_38 (by decide) ?_
  exact t_rtI eX11_end_48 rfl q
theorem s_X11_right {E : Ev} {d : Nat} {a0 : Nat} {x1 : Int32} {x2 : Int32} {x3 : Int32} {x4 : Int32} {h : Hp} {Φ : Ou → Hp → Prop} (q : OK (F_X11_right E a0 x1 x2 x3 x4 h) Φ) : CE E mX11_right (d + 8) [.ref a0, .int x1, .int x2, .int x3, .int x4] h 4 24 Φ := by
  show WE E mX11_right (d + 8) 0 [some (.ref a0), some (.int x1), some (.int x2), some (.int x3), some (.int x4)] [] h 4 24 Φ
  refine r_aload_n eX11_right_0 rfl ?_
  refine r_iload_n eX11_right_1 rfl ?_
  refine r_iload_n eX11_right_2 rfl ?_
  refine r_iload_n eX11_right_3 rfl ?_
  refine r_iload eX11_right_4 rfl ?_
  refine t_virtVx (As := [_, _, _, _]) (rest := []) (d' := d + 6 + 1) (ci := 11) (mc := 4) (ms := 24) eX11_right_6 k_11_278 l_11_278 rfl rfl rfl (by omega) (Nat.le_of_ble_eq_true rfl) (Nat.le_of_ble_eq_true rfl) (by omega) (by omega) (fun _ q => s_X11_needTold q) q (fun _ _ q => Or.inl ⟨rfl, q⟩) (fun h6 q => ?_)
  refine r_aload_n eX11_right_9 rfl ?_
  refine r_iload_n eX11_right_10 rfl ?_
  refine r_iload eX11_right_11 rfl ?_
  refine t_virtV (As := [_, _]) (rest := []) (d' := d + 4 + 3) (ci := 11) eX11_right_13 k_11_215 rfl rfl rfl (by omega) (Nat.le_of_ble_eq_true rfl) (Nat.le_of_ble_eq_true rfl) (fun _ q => s_X11_setOut q) q (fun h13 q => ?_)
  refine r_aload_n eX11_right_16 rfl ?_
  refine t_gfR eX11_right_17 f_11_44 q (fun v17 q => ?_)
  refine r_iload_n eX11_right_20 rfl ?_
  refine r_iload_n eX11_right_21 rfl ?_
  refine t_virtI (As := [_, _]) (rest := []) (d' := d + 0 + 7) (ci := 9) eX11_right_22 k_11_294 rfl rfl rfl (by omega) (Nat.le_of_ble_eq_true rfl) (Nat.le_of_ble_eq_true rfl) (fun _ q => s_X9_getsThere q) q (fun v22 h22 q => ?_)
  exact t_rtZ eX11_right_25 rfl q
theorem s_X11_odds {E : Ev} {d : Nat} {a0 : Nat} {x1 : Int32} {x2 : Int32} {x3 : Int32} {x4 : Int32} {x5 : Int32} {h : Hp} {Φ : Ou → Hp → Prop} (q : OK (F_X11_odds E a0 x1 x2 x3 x4 x5 h) Φ) : CE E mX11_odds (d + 7) [.ref a0, .int x1, .int x2, .int x3, .int x4, .int x5] h 5 30 Φ := by
  show WE E mX11_odds (d + 7) 0 [some (.ref a0), some (.int x1), some (.int x2), some (.int x3), some (.int x4), some (.int x5)] [] h 5 30 Φ
  refine r_aload_n eX11_odds_0 rfl ?_
  refine r_iload_n eX11_odds_1 rfl ?_
  refine t_virtVx (As := [_]) (rest := []) (d' := d + 6 + 0) (ci := 11) (mc := 1) (ms := 6) eX11_odds_2 k_11_272 l_11_272 rfl rfl rfl (by omega) (Nat.le_of_ble_eq_true rfl) (Nat.le_of_ble_eq_true rfl) (by omega) (by omega) (fun _ q => s_X11_needTelling q) q (fun _ _ q => Or.inl ⟨rfl, q⟩) (fun h2 q => ?_)
  refine r_aload_n eX11_odds_5 rfl ?_
  refine r_iload_n eX11_odds_6 rfl ?_
  refine t_virtVx (As := [_]) (rest := []) (d' := d + 6 + 0) (ci := 11) (mc := 1) (ms := 6) eX11_odds_7 k_11_212 l_11_212 rfl rfl rfl (by omega) (Nat.le_of_ble_eq_true rfl) (Nat.le_of_ble_eq_true rfl) (by omega) (by omega) (fun _ q => s_X11_needWalker q) q (fun _ _ q => Or.inl ⟨rfl, q⟩) (fun h7 q => ?_)
  refine r_aload_n eX11_odds_10 rfl ?_
  refine r_iload_n eX11_odds_11 rfl ?_
  refine t_virtVx (As := [_]) (rest := []) (d' := d + 6 + 0) (ci := 11) (mc := 1) (ms := 6) eX11_odds_12 k_11_147 l_11_147 rfl rfl rfl (by omega) (Nat.le_of_ble_eq_true rfl) (Nat.le_of_ble_eq_true rfl) (by omega) (by omega) (fun _ q => s_X11_needState q) q (fun _ _ q => Or.inl ⟨rfl, q⟩) (fun h12 q => ?_)
  refine r_aload_n eX11_odds_15 rfl ?_
  refine r_iload eX11_odds_16 rfl ?_
  refine t_virtVx (As := [_]) (rest := []) (d' := d + 6 + 0) (ci := 11) (mc := 1) (ms := 6) eX11_odds_18 k_11_101 l_11_101 rfl rfl rfl (by omega) (Nat.le_of_ble_eq_true rfl) (Nat.le_of_ble_eq_true rfl) (by omega) (by omega) (fun _ q => s_X11_needPlace q) q (fun _ _ q => Or.inl ⟨rfl, q⟩) (fun h18 q => ?_)
  refine r_aload_n eX11_odds_21 rfl ?_
  refine r_iload eX11_odds_22 rfl ?_
  refine t_virtVx (As := [_]) (rest := []) (d' := d + 6 + 0) (ci := 11) (mc := 1) (ms := 6) eX11_odds_24 k_11_153 l_11_153 rfl rfl rfl (by omega) (Nat.le_of_ble_eq_true rfl) (Nat.le_of_ble_eq_true rfl) (by omega) (by omega) (fun _ q => s_X11_needYear q) q (fun _ _ q => Or.inl ⟨rfl, q⟩) (fun h24 q => ?_)
  refine r_aload_n eX11_odds_27 rfl ?_
  refine r_iload_n eX11_odds_28 rfl ?_
  refine r_iload eX11_odds_29 rfl ?_
  refine t_virtV (As := [_, _]) (rest := []) (d' := d + 3 + 3) (ci := 11) eX11_odds_31 k_11_215 rfl rfl rfl (by omega) (Nat.le_of_ble_eq_true rfl) (Nat.le_of_ble_eq_true rfl) (fun _ q => s_X11_setOut q) q (fun h31 q => ?_)
  refine r_aload_n eX11_odds_34 rfl ?_
  refine t_gfR eX11_odds_35 f_11_53 q (fun v35 q => ?_)
  refine r_iload_n eX11_odds_38 rfl ?_
  refine t_virtV (As := [_]) (rest := []) (d' := d + 5 + 1) (ci := 4) eX11_odds_39 k_11_297 rfl rfl rfl (by omega) (Nat.le_of_ble_eq_true rfl) (Nat.le_of_ble_eq_true rfl) (fun _ q => s_X4_start q) q (fun h39 q => ?_)
  refine r_aload_n eX11_odds_42 rfl ?_
  refine t_gfR eX11_odds_43 f_11_53 q (fun v43 q => ?_)
  refine r_iload_n eX11_odds_46 rfl ?_
  refine r_iconst (v := (0)) eX11_odds_47 (by decide) ?_
  refine t_virtV (As := [_, _]) (rest := []) (d' := d + 0 + 6) (ci := 4) eX11_odds_48 k_11_300 rfl rfl rfl (by omega) (Nat.le_of_ble_eq_true rfl) (Nat.le_of_ble_eq_true rfl) (fun _ q => s_X4_goOn q) q (fun h48 q => ?_)
  refine r_aload_n eX11_odds_51 rfl ?_
  refine t_gfR eX11_odds_52 f_11_53 q (fun v52 q => ?_)
  refine r_iload eX11_odds_55 rfl ?_
  refine t_virtI (As := [_]) (rest := []) (d' := d + 6 + 0) (ci := 4) eX11_odds_57 k_11_303 rfl rfl rfl (by omega) (Nat.le_of_ble_eq_true rfl) (Nat.le_of_ble_eq_true rfl) (fun _ q => s_X4_partsAt q) q (fun v57 h57 q => ?_)
  exact t_rtI eX11_odds_60 rfl q
