theorem s_X0_addTelling {E : Ev} {d : Nat} {a0 : Nat} {a1 : Nat} {x2 : Int32} {x3 : Int32} {x4 : Int32} {h : Hp} {Φ : Ou → Hp → Prop} (q : OK (F_X0_addTelling E a0 a1 x2 x3 x4 h) Φ) : CE E mX0_addTelling (d + 0) [.ref a0, .ref a1, .int x2, .int x3, .int x4] h 0 0 Φ := by
  show WE E mX0_addTelling (d + 0) 0 [some (.ref a0), some (.ref a1), some (.int x2), some (.int x3), some (.int x4)] [] h 0 0 Φ
  refine r_aload_n eX0_addTelling_0 rfl ?_
  refine t_gfI eX0_addTelling_1 f_0_39 q (fun v1 q => ?_)
  refine r_bipush (v := (12)) eX0_addTelling_4 (by decide) ?_
  refine t_icmp_lt eX0_addTelling_6 (t := 11) (by decide) q (fun q => ?_) (fun q => ?_)
  · refine r_aload_n eX0_addTelling_11 rfl ?_
    refine r_iconst (v := (0)) eX0_addTelling_12 (by decide) ?_
    refine r_aload_n eX0_addTelling_13 rfl ?_
    refine t_gfR eX0_addTelling_14 f_0_21 q (fun v14 q => ?_)
    refine r_aload_n eX0_addTelling_17 rfl ?_
    refine t_gfI eX0_addTelling_18 f_0_39 q (fun v18 q => ?_)
    refine r_bipush (v := (40)) eX0_addTelling_21 (by decide) ?_
    refine r_imul eX0_addTelling_23 ?_
    refine r_bipush (v := (40)) eX0_addTelling_24 (by decide) ?_
    refine t_acp (t := 0) eX0_addTelling_26 jl_0_43 (Nat.le_of_ble_eq_true rfl) q (fun h26 q => ?_)
    refine r_aload_n eX0_addTelling_29 rfl ?_
    refine t_gfR eX0_addTelling_30 f_0_9 q (fun v30 q => ?_)
    refine r_aload_n eX0_addTelling_33 rfl ?_
    refine t_gfI eX0_addTelling_34 f_0_39 q (fun v34 q => ?_)
    refine r_iload_n eX0_addTelling_37 rfl ?_
    refine t_paI eX0_addTelling_38 q (fun h38 q => ?_)
    refine r_aload_n eX0_addTelling_39 rfl ?_
    refine t_gfR eX0_addTelling_40 f_0_15 q (fun v40 q => ?_)
    refine r_aload_n eX0_addTelling_43 rfl ?_
    refine t_gfI eX0_addTelling_44 f_0_39 q (fun v44 q => ?_)
    refine r_iload eX0_addTelling_47 rfl ?_
    refine t_paI eX0_addTelling_49 q (fun h49 q => ?_)
    refine r_aload_n eX0_addTelling_50 rfl ?_
    refine t_gfR eX0_addTelling_51 f_0_18 q (fun v51 q => ?_)
    refine r_aload_n eX0_addTelling_54 rfl ?_
    refine t_gfI eX0_addTelling_55 f_0_39 q (fun v55 q => ?_)
    refine r_iload_n eX0_addTelling_58 rfl ?_
    refine t_paI eX0_addTelling_59 q (fun h59 q => ?_)
    refine r_aload_n eX0_addTelling_60 rfl ?_
    refine r_dup eX0_addTelling_61 rfl ?_
    refine t_gfI eX0_addTelling_62 f_0_39 q (fun v62 q => ?_)
    refine r_dup_x1 eX0_addTelling_65 rfl rfl ?_
    refine r_iconst (v := (1)) eX0_addTelling_66 (by decide) ?_
    refine r_iadd eX0_addTelling_67 ?_
    refine t_pf eX0_addTelling_68 p_0_39 rfl rfl (fun q => by cases q) q (fun h68 q => ?_)
    exact t_rtI eX0_addTelling_71 rfl q
  refine r_iconst (v := (-1)) eX0_addTelling_9 (by decide) ?_
  exact t_rtI eX0_addTelling_10 rfl q
theorem s_J7_rangeCheck_23922 {E : Ev} {d : Nat} {x0 : Int32} {x1 : Int32} {x2 : Int32} {h : Hp} {Φ : Ou → Hp → Prop} (q : OK (F_J7_rangeCheck_23922 E x0 x1 x2 h) Φ) : CE E mJ7_rangeCheck_23922 (d + 0) [.int x0, .int x1, .int x2] h 0 0 Φ := by
  show WE E mJ7_rangeCheck_23922 (d + 0) 0 [some (.int x0), some (.int x1), some (.int x2)] [] h 0 0 Φ
  refine r_iload_n eJ7_rangeCheck_23922_0 rfl ?_
  refine r_iload_n eJ7_rangeCheck_23922_1 rfl ?_
  refine t_icmp_le eJ7_rangeCheck_23922_2 (t := 46) (by decide) q (fun q => ?_) (fun q => ?_)
  · refine r_iload_n eJ7_rangeCheck_23922_46 rfl ?_
    refine t_if_ge eJ7_rangeCheck_23922_47 (t := 59) (by decide) q (fun q => ?_) (fun q => ?_)
    · refine r_iload_n eJ7_rangeCheck_23922_59 rfl ?_
      refine r_iload_n eJ7_rangeCheck_23922_60 rfl ?_
      refine t_icmp_le eJ7_rangeCheck_23922_61 (t := 73) (by decide) q (fun q => ?_) (fun q => ?_)
      · exact t_rtV eJ7_rangeCheck_23922_73 rfl q
      exact q.elim
    exact q.elim
  exact q.elim
theorem sL_J7_fill_fda19_10 {E : Ev} {d kc ks : Nat} {Φ : Ou → Hp → Prop} {y0 : Nat} {y1 : Int32} {y2 : Int32} {y3 : Int32}  : ∀ (g : Nat) (y4 : Int32) (h : Hp), OK (L_J7_fill_fda19_10 E y0 y2 y3 g y4 h) Φ → WE E mJ7_fill_fda19 (d + 1) 10 [some (.ref y0), some (.int y1), some (.int y2), some (.int y3), some (.int y4)] [] h kc ks Φ := by
  intro g
  induction g with
  | zero => intro y4 h q; exact q.elim
  | succ g ih =>
    intro y4 h q
    refine r_iload eJ7_fill_fda19_10 rfl ?_
    refine r_iload_n eJ7_fill_fda19_12 rfl ?_
    refine t_icmp_ge eJ7_fill_fda19_13 (t := 27) (by decide) q (fun q => ?_) (fun q => ?_)
    · exact t_rtV eJ7_fill_fda19_27 rfl q
    refine r_aload_n eJ7_fill_fda19_16 rfl ?_
    refine r_iload eJ7_fill_fda19_17 rfl ?_
    refine r_iload_n eJ7_fill_fda19_19 rfl ?_
    refine t_paI eJ7_fill_fda19_20 q (fun h20 q => ?_)
    refine r_iinc (v := (1)) (lv' := [_, _, _, _, _]) eJ7_fill_fda19_21 rfl (by decide) rfl ?_
    refine r_goto (t := 10) eJ7_fill_fda19_24 (by decide) ?_
    exact ih _ _ q
theorem s_J7_fill_fda19 {E : Ev} {d : Nat} {a0 : Nat} {x1 : Int32} {x2 : Int32} {x3 : Int32} {h : Hp} {Φ : Ou → Hp → Prop} (q : OK (F_J7_fill_fda19 E a0 x1 x2 x3 h) Φ) : CE E mJ7_fill_fda19 (d + 1) [.ref a0, .int x1, .int x2, .int x3] h 0 0 Φ := by
  show WE E mJ7_fill_fda19 (d + 1) 0 [some (.ref a0), some (.int x1), some (.int x2), some (.int x3), none] [] h 0 0 Φ
  refine r_aload_n eJ7_fill_fda19_0 rfl ?_
  refine t_aln eJ7_fill_fda19_1 (by decide) q (fun v1 q => ?_)
  refine r_iload_n eJ7_fill_fda19_2 rfl ?_
  refine r_iload_n eJ7_fill_fda19_3 rfl ?_
  refine t_statV (As := [_, _, _]) (rest := []) (d' := d + 0 + 0) eJ7_fill_fda19_4 k_14_13 rfl (by omega) (Nat.le_of_ble_eq_true rfl) (Nat.le_of_ble_eq_true rfl) (fun _ q => s_J7_rangeCheck_23922 q) q (fun h4 q => ?_)
  refine r_iload_n eJ7_fill_fda19_7 rfl ?_
  refine r_istore (lv' := [_, _, _, _, _]) eJ7_fill_fda19_8 (Nat.le_of_ble_eq_true rfl) rfl ?_
  exact sL_J7_fill_fda19_10  _ _ _ q
theorem s_X11_wordOf {E : Ev} {d : Nat} {x0 : Int32} {x1 : Int32} {x2 : Int32} {h : Hp} {Φ : Ou → Hp → Prop} (q : OK (F_X11_wordOf E x0 x1 x2 h) Φ) : CE E mX11_wordOf (d + 0) [.int x0, .int x1, .int x2] h 0 0 Φ := by
  show WE E mX11_wordOf (d + 0) 0 [some (.int x0), some (.int x1), some (.int x2)] [] h 0 0 Φ
  refine r_iload_n eX11_wordOf_0 rfl ?_
  refine r_iload_n eX11_wordOf_1 rfl ?_
  refine r_iconst (v := (4)) eX11_wordOf_2 (by decide) ?_
  refine r_ishl eX11_wordOf_3 ?_
  refine r_ior eX11_wordOf_4 ?_
  refine r_iload_n eX11_wordOf_5 rfl ?_
  refine r_bipush (v := (9)) eX11_wordOf_6 (by decide) ?_
  refine r_ishl eX11_wordOf_8 ?_
  refine r_ior eX11_wordOf_9 ?_
  exact t_rtI eX11_wordOf_10 rfl q
theorem sJ_X11_listedWord_80 {E : Ev} {d kc ks : Nat} {Φ : Ou → Hp → Prop} {y0 : Int32} {t0 : Int32} {h : Hp}  (q : OK (J_X11_listedWord_80 E y0 t0 h) Φ) : WE E mX11_listedWord (d + 1) 80 [some (.int y0)] [.int t0] h kc ks Φ := by
  refine r_iload_n eX11_listedWord_80 rfl ?_
  refine r_bipush (v := (28)) eX11_listedWord_81 (by decide) ?_
  refine t_icmp_gt eX11_listedWord_83 (t := 90) (by decide) q (fun q => ?_) (fun q => ?_)
  · refine r_iconst (v := (2)) eX11_listedWord_90 (by decide) ?_
    refine r_bipush (v := (15)) eX11_listedWord_91 (by decide) ?_
    refine t_statI (As := [_, _, _]) (rest := []) (d' := d + 0 + 0) eX11_listedWord_93 k_11_442 rfl (by omega) (Nat.le_of_ble_eq_true rfl) (Nat.le_of_ble_eq_true rfl) (fun _ q => s_X11_wordOf q) q (fun v93 h93 q => ?_)
    exact t_rtI eX11_listedWord_96 rfl q
  refine r_iconst (v := (1)) eX11_listedWord_86 (by decide) ?_
  refine r_goto (t := 91) eX11_listedWord_87 (by decide) ?_
  refine r_bipush (v := (15)) eX11_listedWord_91 (by decide) ?_
  refine t_statI (As := [_, _, _]) (rest := []) (d' := d + 0 + 0) eX11_listedWord_93 k_11_442 rfl (by omega) (Nat.le_of_ble_eq_true rfl) (Nat.le_of_ble_eq_true rfl) (fun _ q => s_X11_wordOf q) q (fun v93 h93 q => ?_)
  exact t_rtI eX11_listedWord_96 rfl q
theorem s_X11_listedWord {E : Ev} {d : Nat} {x0 : Int32} {h : Hp} {Φ : Ou → Hp → Prop} (q : OK (F_X11_listedWord E x0 h) Φ) : CE E mX11_listedWord (d + 1) [.int x0] h 0 0 Φ := by
  show WE E mX11_listedWord (d + 1) 0 [some (.int x0)] [] h 0 0 Φ
  refine r_iload_n eX11_listedWord_0 rfl ?_
  refine t_if_ne eX11_listedWord_1 (t := 12) (by decide) q (fun q => ?_) (fun q => ?_)
  · refine r_iload_n eX11_listedWord_12 rfl ?_
    refine r_iconst (v := (2)) eX11_listedWord_13 (by decide) ?_
    refine t_icmp_gt eX11_listedWord_14 (t := 36) (by decide) q (fun q => ?_) (fun q => ?_)
    · refine r_iload_n eX11_listedWord_36 rfl ?_
      refine r_bipush (v := (14)) eX11_listedWord_37 (by decide) ?_
      refine t_icmp_gt eX11_listedWord_39 (t := 51) (by decide) q (fun q => ?_) (fun q => ?_)
      · refine r_iload_n eX11_listedWord_51 rfl ?_
        refine r_bipush (v := (26)) eX11_listedWord_52 (by decide) ?_
        refine t_icmp_gt eX11_listedWord_54 (t := 67) (by decide) q (fun q => ?_) (fun q => ?_)
        · refine r_iload_n eX11_listedWord_67 rfl ?_
          refine r_iconst (v := (1)) eX11_listedWord_68 (by decide) ?_
          refine r_iand eX11_listedWord_69 ?_
          refine t_if_eq eX11_listedWord_70 (t := 78) (by decide) q (fun q => ?_) (fun q => ?_)
          · refine r_bipush (v := (12)) eX11_listedWord_78 (by decide) ?_
            exact sJ_X11_listedWord_80  q
          refine r_bipush (v := (11)) eX11_listedWord_73 (by decide) ?_
          refine r_goto (t := 80) eX11_listedWord_75 (by decide) ?_
          exact sJ_X11_listedWord_80  q
        refine r_iconst (v := (3)) eX11_listedWord_57 (by decide) ?_
        refine r_iconst (v := (0)) eX11_listedWord_58 (by decide) ?_
        refine r_iload_n eX11_listedWord_59 rfl ?_
        refine r_bipush (v := (15)) eX11_listedWord_60 (by decide) ?_
        refine r_isub eX11_listedWord_62 ?_
        refine t_statI (As := [_, _, _]) (rest := []) (d' := d + 0 + 0) eX11_listedWord_63 k_11_442 rfl (by omega) (Nat.le_of_ble_eq_true rfl) (Nat.le_of_ble_eq_true rfl) (fun _ q => s_X11_wordOf q) q (fun v63 h63 q => ?_)
        exact t_rtI eX11_listedWord_66 rfl q
      refine r_iconst (v := (2)) eX11_listedWord_42 (by decide) ?_
      refine r_iconst (v := (0)) eX11_listedWord_43 (by decide) ?_
      refine r_iload_n eX11_listedWord_44 rfl ?_
      refine r_iconst (v := (3)) eX11_listedWord_45 (by decide) ?_
      refine r_isub eX11_listedWord_46 ?_
      refine t_statI (As := [_, _, _]) (rest := []) (d' := d + 0 + 0) eX11_listedWord_47 k_11_442 rfl (by omega) (Nat.le_of_ble_eq_true rfl) (Nat.le_of_ble_eq_true rfl) (fun _ q => s_X11_wordOf q) q (fun v47 h47 q => ?_)
      exact t_rtI eX11_listedWord_50 rfl q
    refine r_iload_n eX11_listedWord_17 rfl ?_
    refine r_iconst (v := (1)) eX11_listedWord_18 (by decide) ?_
    refine t_icmp_ne eX11_listedWord_19 (t := 27) (by decide) q (fun q => ?_) (fun q => ?_)
    · refine r_bipush (v := (10)) eX11_listedWord_27 (by decide) ?_
      refine r_iconst (v := (0)) eX11_listedWord_29 (by decide) ?_
      refine r_bipush (v := (15)) eX11_listedWord_30 (by decide) ?_
      refine t_statI (As := [_, _, _]) (rest := []) (d' := d + 0 + 0) eX11_listedWord_32 k_11_442 rfl (by omega) (Nat.le_of_ble_eq_true rfl) (Nat.le_of_ble_eq_true rfl) (fun _ q => s_X11_wordOf q) q (fun v32 h32 q => ?_)
      exact t_rtI eX11_listedWord_35 rfl q
    refine r_bipush (v := (9)) eX11_listedWord_22 (by decide) ?_
    refine r_goto (t := 29) eX11_listedWord_24 (by decide) ?_
    refine r_iconst (v := (0)) eX11_listedWord_29 (by decide) ?_
    refine r_bipush (v := (15)) eX11_listedWord_30 (by decide) ?_
    refine t_statI (As := [_, _, _]) (rest := []) (d' := d + 0 + 0) eX11_listedWord_32 k_11_442 rfl (by omega) (Nat.le_of_ble_eq_true rfl) (Nat.le_of_ble_eq_true rfl) (fun _ q => s_X11_wordOf q) q (fun v32 h32 q => ?_)
    exact t_rtI eX11_listedWord_35 rfl q
  refine r_iconst (v := (1)) eX11_listedWord_4 (by decide) ?_
  refine r_iconst (v := (1)) eX11_listedWord_5 (by decide) ?_
  refine r_bipush (v := (15)) eX11_listedWord_6 (by decide) ?_
  refine t_statI (As := [_, _, _]) (rest := []) (d' := d + 0 + 0) eX11_listedWord_8 k_11_442 rfl (by omega) (Nat.le_of_ble_eq_true rfl) (Nat.le_of_ble_eq_true rfl) (fun _ q => s_X11_wordOf q) q (fun v8 h8 q => ?_)
  exact t_rtI eX11_listedWord_11 rfl q
theorem sL_X0_addListed_38 {E : Ev} {d kc ks : Nat} {Φ : Ou → Hp → Prop} {y0 : Nat} {y1 : Nat} {y2 : Int32} {y3 : Int32} {y4 : Int32} {K83 : Hp → Rs} (hK83 : ∀ (w5 : Int32) (h : Hp), OK (K83 h) Φ → WE E mX0_addListed (d + 2) 83 [some (.ref y0), some (.ref y1), some (.int y2), some (.int y3), some (.int y4), some (.int w5)] [] h kc ks Φ) : ∀ (g : Nat) (y5 : Int32) (h : Hp), OK (L_X0_addListed_38 E K83 y0 y1 y4 g y5 h) Φ → WE E mX0_addListed (d + 2) 38 [some (.ref y0), some (.ref y1), some (.int y2), some (.int y3), some (.int y4), some (.int y5)] [] h kc ks Φ := by
  intro g
  induction g with
  | zero => intro y5 h q; exact q.elim
  | succ g ih =>
    intro y5 h q
    refine r_iload eX0_addListed_38 rfl ?_
    refine r_aload_n eX0_addListed_40 rfl ?_
    refine t_gfI eX0_addListed_41 f_0_55 q (fun v41 q => ?_)
    refine t_icmp_ge eX0_addListed_44 (t := 83) (by decide) q (fun q => ?_) (fun q => ?_)
    · exact hK83 _ _ q
    refine r_iload eX0_addListed_47 rfl ?_
    refine r_bipush (v := (10)) eX0_addListed_49 (by decide) ?_
    refine t_icmp_ge eX0_addListed_51 (t := 83) (by decide) q (fun q => ?_) (fun q => ?_)
    · exact hK83 _ _ q
    refine r_aload_n eX0_addListed_54 rfl ?_
    refine t_gfR eX0_addListed_55 f_0_21 q (fun v55 q => ?_)
    refine r_iload eX0_addListed_58 rfl ?_
    refine r_iload eX0_addListed_60 rfl ?_
    refine r_iconst (v := (4)) eX0_addListed_62 (by decide) ?_
    refine r_imul eX0_addListed_63 ?_
    refine r_iadd eX0_addListed_64 ?_
    refine r_aload_n eX0_addListed_65 rfl ?_
    refine t_gfR eX0_addListed_66 f_0_60 q (fun v66 q => ?_)
    refine r_iload eX0_addListed_69 rfl ?_
    refine t_gaL eX0_addListed_71 q (fun v71 q => ?_)
    refine r_l2i eX0_addListed_72 ?_
    refine t_statI (As := [_]) (rest := [_, _]) (d' := d + 0 + 1) eX0_addListed_73 k_0_64 rfl (by omega) (Nat.le_of_ble_eq_true rfl) (Nat.le_of_ble_eq_true rfl) (fun _ q => s_X11_listedWord q) q (fun v73 h73 q => ?_)
    refine t_paI eX0_addListed_76 q (fun h76 q => ?_)
    refine r_iinc (v := (1)) (lv' := [_, _, _, _, _, _]) eX0_addListed_77 rfl (by decide) rfl ?_
    refine r_goto (t := 38) eX0_addListed_80 (by decide) ?_
    exact ih _ _ q
theorem sJ_X0_addListed_83 {E : Ev} {d kc ks : Nat} {Φ : Ou → Hp → Prop} {y0 : Nat} {y1 : Nat} {y2 : Int32} {y3 : Int32} {y4 : Int32} {y5 : Int32} {h : Hp}  (q : OK (J_X0_addListed_83 E y0 y1 y2 y3 h) Φ) : WE E mX0_addListed (d + 2) 83 [some (.ref y0), some (.ref y1), some (.int y2), some (.int y3), some (.int y4), some (.int y5)] [] h kc ks Φ := by
  refine r_aload_n eX0_addListed_83 rfl ?_
  refine t_gfR eX0_addListed_84 f_0_9 q (fun v84 q => ?_)
  refine r_aload_n eX0_addListed_87 rfl ?_
  refine t_gfI eX0_addListed_88 f_0_39 q (fun v88 q => ?_)
  refine r_iload_n eX0_addListed_91 rfl ?_
  refine t_paI eX0_addListed_92 q (fun h92 q => ?_)
  refine r_aload_n eX0_addListed_93 rfl ?_
  refine t_gfR eX0_addListed_94 f_0_15 q (fun v94 q => ?_)
  refine r_aload_n eX0_addListed_97 rfl ?_
  refine t_gfI eX0_addListed_98 f_0_39 q (fun v98 q => ?_)
  refine r_iload_n eX0_addListed_101 rfl ?_
  refine t_paI eX0_addListed_102 q (fun h102 q => ?_)
  refine r_aload_n eX0_addListed_103 rfl ?_
  refine t_gfR eX0_addListed_104 f_0_18 q (fun v104 q => ?_)
  refine r_aload_n eX0_addListed_107 rfl ?_
  refine t_gfI eX0_addListed_108 f_0_39 q (fun v108 q => ?_)
  refine r_aload_n eX0_addListed_111 rfl ?_
  refine t_gfI eX0_addListed_112 f_0_55 q (fun v112 q => ?_)
  refine t_paI eX0_addListed_115 q (fun h115 q => ?_)
  refine r_aload_n eX0_addListed_116 rfl ?_
  refine r_dup eX0_addListed_117 rfl ?_
  refine t_gfI eX0_addListed_118 f_0_39 q (fun v118 q => ?_)
  refine r_dup_x1 eX0_addListed_121 rfl rfl ?_
  refine r_iconst (v := (1)) eX0_addListed_122 (by decide) ?_
  refine r_iadd eX0_addListed_123 ?_
  refine t_pf eX0_addListed_124 p_0_39 rfl rfl (fun q => by cases q) q (fun h124 q => ?_)
  exact t_rtI eX0_addListed_127 rfl q
theorem s_X0_addListed {E : Ev} {d : Nat} {a0 : Nat} {a1 : Nat} {x2 : Int32} {x3 : Int32} {h : Hp} {Φ : Ou → Hp → Prop} (q : OK (F_X0_addListed E a0 a1 x2 x3 h) Φ) : CE E mX0_addListed (d + 2) [.ref a0, .ref a1, .int x2, .int x3] h 0 0 Φ := by
  show WE E mX0_addListed (d + 2) 0 [some (.ref a0), some (.ref a1), some (.int x2), some (.int x3), none, none] [] h 0 0 Φ
  refine r_aload_n eX0_addListed_0 rfl ?_
  refine t_gfI eX0_addListed_1 f_0_39 q (fun v1 q => ?_)
  refine r_bipush (v := (12)) eX0_addListed_4 (by decide) ?_
  refine t_icmp_lt eX0_addListed_6 (t := 11) (by decide) q (fun q => ?_) (fun q => ?_)
  · refine r_aload_n eX0_addListed_11 rfl ?_
    refine t_gfI eX0_addListed_12 f_0_39 q (fun v12 q => ?_)
    refine r_bipush (v := (40)) eX0_addListed_15 (by decide) ?_
    refine r_imul eX0_addListed_17 ?_
    refine r_istore (lv' := [_, _, _, _, _, _]) eX0_addListed_18 (Nat.le_of_ble_eq_true rfl) rfl ?_
    refine r_aload_n eX0_addListed_20 rfl ?_
    refine t_gfR eX0_addListed_21 f_0_21 q (fun v21 q => ?_)
    refine r_iload eX0_addListed_24 rfl ?_
    refine r_iload eX0_addListed_26 rfl ?_
    refine r_bipush (v := (40)) eX0_addListed_28 (by decide) ?_
    refine r_iadd eX0_addListed_30 ?_
    refine r_iconst (v := (0)) eX0_addListed_31 (by decide) ?_
    refine t_statV (As := [_, _, _, _]) (rest := []) (d' := d + 0 + 1) eX0_addListed_32 k_0_49 rfl (by omega) (Nat.le_of_ble_eq_true rfl) (Nat.le_of_ble_eq_true rfl) (fun _ q => s_J7_fill_fda19 q) q (fun h32 q => ?_)
    refine r_iconst (v := (0)) eX0_addListed_35 (by decide) ?_
    refine r_istore (lv' := [_, _, _, _, _, _]) eX0_addListed_36 (Nat.le_of_ble_eq_true rfl) rfl ?_
    refine sL_X0_addListed_38 (fun w1 h2 q => ?_) _ _ _ q
    exact sJ_X0_addListed_83  q
  refine r_iconst (v := (-1)) eX0_addListed_9 (by decide) ?_
  exact t_rtI eX0_addListed_10 rfl q
theorem s_X0_addRecord {E : Ev} {d : Nat} {a0 : Nat} {x1 : Int32} {x2 : Int32} {x3 : Int32} {x4 : Int32} {x5 : Int32} {h : Hp} {Φ : Ou → Hp → Prop} (q : OK (F_X0_addRecord E a0 x1 x2 x3 x4 x5 h) Φ) : CE E mX0_addRecord (d + 0) [.ref a0, .int x1, .int x2, .int x3, .int x4, .int x5] h 0 0 Φ := by
  show WE E mX0_addRecord (d + 0) 0 [some (.ref a0), some (.int x1), some (.int x2), some (.int x3), some (.int x4), some (.int x5)] [] h 0 0 Φ
  refine r_aload_n eX0_addRecord_0 rfl ?_
  refine t_gfI eX0_addRecord_1 f_0_68 q (fun v1 q => ?_)
  refine r_bipush (v := (30)) eX0_addRecord_4 (by decide) ?_
  refine t_icmp_lt eX0_addRecord_6 (t := 11) (by decide) q (fun q => ?_) (fun q => ?_)
  · refine r_aload_n eX0_addRecord_11 rfl ?_
    refine t_gfR eX0_addRecord_12 f_0_24 q (fun v12 q => ?_)
    refine r_aload_n eX0_addRecord_15 rfl ?_
    refine t_gfI eX0_addRecord_16 f_0_68 q (fun v16 q => ?_)
    refine r_iload_n eX0_addRecord_19 rfl ?_
    refine t_paI eX0_addRecord_20 q (fun h20 q => ?_)
    refine r_aload_n eX0_addRecord_21 rfl ?_
    refine t_gfR eX0_addRecord_22 f_0_27 q (fun v22 q => ?_)
    refine r_aload_n eX0_addRecord_25 rfl ?_
    refine t_gfI eX0_addRecord_26 f_0_68 q (fun v26 q => ?_)
    refine r_iload_n eX0_addRecord_29 rfl ?_
    refine t_paI eX0_addRecord_30 q (fun h30 q => ?_)
    refine r_aload_n eX0_addRecord_31 rfl ?_
    refine t_gfR eX0_addRecord_32 f_0_30 q (fun v32 q => ?_)
    refine r_aload_n eX0_addRecord_35 rfl ?_
    refine t_gfI eX0_addRecord_36 f_0_68 q (fun v36 q => ?_)
    refine r_iload_n eX0_addRecord_39 rfl ?_
    refine t_paI eX0_addRecord_40 q (fun h40 q => ?_)
    refine r_aload_n eX0_addRecord_41 rfl ?_
    refine t_gfR eX0_addRecord_42 f_0_33 q (fun v42 q => ?_)
    refine r_aload_n eX0_addRecord_45 rfl ?_
    refine t_gfI eX0_addRecord_46 f_0_68 q (fun v46 q => ?_)
    refine r_iload eX0_addRecord_49 rfl ?_
    refine t_paI eX0_addRecord_51 q (fun h51 q => ?_)
    refine r_aload_n eX0_addRecord_52 rfl ?_
    refine t_gfR eX0_addRecord_53 f_0_36 q (fun v53 q => ?_)
    refine r_aload_n eX0_addRecord_56 rfl ?_
    refine t_gfI eX0_addRecord_57 f_0_68 q (fun v57 q => ?_)
    refine r_iload eX0_addRecord_60 rfl ?_
    refine t_paI eX0_addRecord_62 q (fun h62 q => ?_)
    refine r_aload_n eX0_addRecord_63 rfl ?_
    refine r_dup eX0_addRecord_64 rfl ?_
    refine t_gfI eX0_addRecord_65 f_0_68 q (fun v65 q => ?_)
    refine r_iconst (v := (1)) eX0_addRecord_68 (by decide) ?_
    refine r_iadd eX0_addRecord_69 ?_
    refine t_pf eX0_addRecord_70 p_0_68 rfl rfl (fun q => by cases q) q (fun h70 q => ?_)
    refine r_aload_n eX0_addRecord_73 rfl ?_
    refine t_gfI eX0_addRecord_74 f_0_68 q (fun v74 q => ?_)
    exact t_rtI eX0_addRecord_77 rfl q
  refine r_iconst (v := (-1)) eX0_addRecord_9 (by decide) ?_
  exact t_rtI eX0_addRecord_10 rfl q
theorem sL_X0_recordsOf_5 {E : Ev} {d kc ks : Nat} {Φ : Ou → Hp → Prop} {y0 : Nat} {y1 : Int32} {y2 : Int32}  : ∀ (g : Nat) (y3 : Int32) (y4 : Int32) (y5 : Option Value) (h : Hp), OK (L_X0_recordsOf_5 E y0 y1 y2 g y3 y4 h) Φ → WE E mX0_recordsOf (d + 0) 5 [some (.ref y0), some (.int y1), some (.int y2), some (.int y3), some (.int y4), y5] [] h kc ks Φ := by
  intro g
  induction g with
  | zero => intro y3 y4 y5 h q; exact q.elim
  | succ g ih =>
    intro y3 y4 y5 h q
    refine r_iload eX0_recordsOf_5 rfl ?_
    refine r_aload_n eX0_recordsOf_7 rfl ?_
    refine t_gfI eX0_recordsOf_8 f_0_68 q (fun v8 q => ?_)
    refine t_icmp_ge eX0_recordsOf_11 (t := 64) (by decide) q (fun q => ?_) (fun q => ?_)
    · refine r_iload_n eX0_recordsOf_64 rfl ?_
      exact t_rtI eX0_recordsOf_65 rfl q
    refine r_aload_n eX0_recordsOf_14 rfl ?_
    refine t_gfR eX0_recordsOf_15 f_0_27 q (fun v15 q => ?_)
    refine r_iload eX0_recordsOf_18 rfl ?_
    refine t_gaI eX0_recordsOf_20 q (fun v20 q => ?_)
    refine r_istore (lv' := [_, _, _, _, _, _]) eX0_recordsOf_21 (Nat.le_of_ble_eq_true rfl) rfl ?_
    refine r_aload_n eX0_recordsOf_23 rfl ?_
    refine t_gfR eX0_recordsOf_24 f_0_15 q (fun v24 q => ?_)
    refine r_iload eX0_recordsOf_27 rfl ?_
    refine t_gaI eX0_recordsOf_29 q (fun v29 q => ?_)
    refine r_iload_n eX0_recordsOf_30 rfl ?_
    refine t_icmp_ne eX0_recordsOf_31 (t := 58) (by decide) q (fun q => ?_) (fun q => ?_)
    · refine r_iinc (v := (1)) (lv' := [_, _, _, _, _, _]) eX0_recordsOf_58 rfl (by decide) rfl ?_
      refine r_goto (t := 5) eX0_recordsOf_61 (by decide) ?_
      exact ih _ _ _ _ q
    refine r_iload_n eX0_recordsOf_34 rfl ?_
    refine t_if_eq eX0_recordsOf_35 (t := 55) (by decide) q (fun q => ?_) (fun q => ?_)
    · refine r_iinc (v := (1)) (lv' := [_, _, _, _, _, _]) eX0_recordsOf_55 rfl (by decide) rfl ?_
      refine r_iinc (v := (1)) (lv' := [_, _, _, _, _, _]) eX0_recordsOf_58 rfl (by decide) rfl ?_
      refine r_goto (t := 5) eX0_recordsOf_61 (by decide) ?_
      exact ih _ _ _ _ q
    refine r_aload_n eX0_recordsOf_38 rfl ?_
    refine t_gfR eX0_recordsOf_39 f_0_36 q (fun v39 q => ?_)
    refine r_iload eX0_recordsOf_42 rfl ?_
    refine t_gaI eX0_recordsOf_44 q (fun v44 q => ?_)
    refine r_aload_n eX0_recordsOf_45 rfl ?_
    refine t_gfR eX0_recordsOf_46 f_0_9 q (fun v46 q => ?_)
    refine r_iload eX0_recordsOf_49 rfl ?_
    refine t_gaI eX0_recordsOf_51 q (fun v51 q => ?_)
    refine t_icmp_ne eX0_recordsOf_52 (t := 58) (by decide) q (fun q => ?_) (fun q => ?_)
    · refine r_iinc (v := (1)) (lv' := [_, _, _, _, _, _]) eX0_recordsOf_58 rfl (by decide) rfl ?_
      refine r_goto (t := 5) eX0_recordsOf_61 (by decide) ?_
      exact ih _ _ _ _ q
    refine r_iinc (v := (1)) (lv' := [_, _, _, _, _, _]) eX0_recordsOf_55 rfl (by decide) rfl ?_
    refine r_iinc (v := (1)) (lv' := [_, _, _, _, _, _]) eX0_recordsOf_58 rfl (by decide) rfl ?_
    refine r_goto (t := 5) eX0_recordsOf_61 (by decide) ?_
    exact ih _ _ _ _ q
theorem s_X0_recordsOf {E : Ev} {d : Nat} {a0 : Nat} {x1 : Int32} {x2 : Int32} {h : Hp} {Φ : Ou → Hp → Prop} (q : OK (F_X0_recordsOf E a0 x1 x2 h) Φ) : CE E mX0_recordsOf (d + 0) [.ref a0, .int x1, .int x2] h 0 0 Φ := by
  show WE E mX0_recordsOf (d + 0) 0 [some (.ref a0), some (.int x1), some (.int x2), none, none, none] [] h 0 0 Φ
  refine r_iconst (v := (0)) eX0_recordsOf_0 (by decide) ?_
  refine r_istore_n (lv' := [_, _, _, _, _, _]) eX0_recordsOf_1 (Nat.le_of_ble_eq_true rfl) rfl ?_
  refine r_iconst (v := (0)) eX0_recordsOf_2 (by decide) ?_
  refine r_istore (lv' := [_, _, _, _, _, _]) eX0_recordsOf_3 (Nat.le_of_ble_eq_true rfl) rfl ?_
  exact sL_X0_recordsOf_5  _ _ _ _ _ q
theorem s_X0_take {E : Ev} {d : Nat} {a0 : Nat} {a1 : Nat} {h : Hp} {Φ : Ou → Hp → Prop} (q : OK (F_X0_take E a0 a1 h) Φ) : CE E mX0_take (d + 0) [.ref a0, .ref a1] h 0 0 Φ := by
  show WE E mX0_take (d + 0) 0 [some (.ref a0), some (.ref a1)] [] h 0 0 Φ
  refine r_aload_n eX0_take_0 rfl ?_
  refine r_aload_n eX0_take_1 rfl ?_
  refine t_gfI eX0_take_2 f_0_39 q (fun v2 q => ?_)
  refine t_pf eX0_take_5 p_0_39 rfl rfl (fun q => by cases q) q (fun h5 q => ?_)
  refine r_aload_n eX0_take_8 rfl ?_
  refine t_gfR eX0_take_9 f_0_9 q (fun v9 q => ?_)
  refine r_iconst (v := (0)) eX0_take_12 (by decide) ?_
  refine r_aload_n eX0_take_13 rfl ?_
  refine t_gfR eX0_take_14 f_0_9 q (fun v14 q => ?_)
  refine r_iconst (v := (0)) eX0_take_17 (by decide) ?_
  refine r_bipush (v := (12)) eX0_take_18 (by decide) ?_
  refine t_acp (t := 0) eX0_take_20 jl_0_43 (Nat.le_of_ble_eq_true rfl) q (fun h20 q => ?_)
  refine r_aload_n eX0_take_23 rfl ?_
  refine t_gfR eX0_take_24 f_0_15 q (fun v24 q => ?_)
  refine r_iconst (v := (0)) eX0_take_27 (by decide) ?_
  refine r_aload_n eX0_take_28 rfl ?_
  refine t_gfR eX0_take_29 f_0_15 q (fun v29 q => ?_)
  refine r_iconst (v := (0)) eX0_take_32 (by decide) ?_
  refine r_bipush (v := (12)) eX0_take_33 (by decide) ?_
  refine t_acp (t := 0) eX0_take_35 jl_0_43 (Nat.le_of_ble_eq_true rfl) q (fun h35 q => ?_)
  refine r_aload_n eX0_take_38 rfl ?_
  refine t_gfR eX0_take_39 f_0_18 q (fun v39 q => ?_)
  refine r_iconst (v := (0)) eX0_take_42 (by decide) ?_
  refine r_aload_n eX0_take_43 rfl ?_
  refine t_gfR eX0_take_44 f_0_18 q (fun v44 q => ?_)
  refine r_iconst (v := (0)) eX0_take_47 (by decide) ?_
  refine r_bipush (v := (12)) eX0_take_48 (by decide) ?_
  refine t_acp (t := 0) eX0_take_50 jl_0_43 (Nat.le_of_ble_eq_true rfl) q (fun h50 q => ?_)
  refine r_aload_n eX0_take_53 rfl ?_
  refine t_gfR eX0_take_54 f_0_21 q (fun v54 q => ?_)
  refine r_iconst (v := (0)) eX0_take_57 (by decide) ?_
  refine r_aload_n eX0_take_58 rfl ?_
  refine t_gfR eX0_take_59 f_0_21 q (fun v59 q => ?_)
  refine r_iconst (v := (0)) eX0_take_62 (by decide) ?_
  refine r_sipush (v := (480)) eX0_take_63 (by decide) ?_
  refine t_acp (t := 0) eX0_take_66 jl_0_43 (Nat.le_of_ble_eq_true rfl) q (fun h66 q => ?_)
  refine r_aload_n eX0_take_69 rfl ?_
  refine r_aload_n eX0_take_70 rfl ?_
  refine t_gfI eX0_take_71 f_0_68 q (fun v71 q => ?_)
  refine t_pf eX0_take_74 p_0_68 rfl rfl (fun q => by cases q) q (fun h74 q => ?_)
  refine r_aload_n eX0_take_77 rfl ?_
  refine t_gfR eX0_take_78 f_0_24 q (fun v78 q => ?_)
  refine r_iconst (v := (0)) eX0_take_81 (by decide) ?_
  refine r_aload_n eX0_take_82 rfl ?_
  refine t_gfR eX0_take_83 f_0_24 q (fun v83 q => ?_)
  refine r_iconst (v := (0)) eX0_take_86 (by decide) ?_
  refine r_bipush (v := (30)) eX0_take_87 (by decide) ?_
  refine t_acp (t := 0) eX0_take_89 jl_0_43 (Nat.le_of_ble_eq_true rfl) q (fun h89 q => ?_)
  refine r_aload_n eX0_take_92 rfl ?_
  refine t_gfR eX0_take_93 f_0_27 q (fun v93 q => ?_)
  refine r_iconst (v := (0)) eX0_take_96 (by decide) ?_
  refine r_aload_n eX0_take_97 rfl ?_
  refine t_gfR eX0_take_98 f_0_27 q (fun v98 q => ?_)
  refine r_iconst (v := (0)) eX0_take_101 (by decide) ?_
  refine r_bipush (v := (30)) eX0_take_102 (by decide) ?_
  refine t_acp (t := 0) eX0_take_104 jl_0_43 (Nat.le_of_ble_eq_true rfl) q (fun h104 q => ?_)
  refine r_aload_n eX0_take_107 rfl ?_
  refine t_gfR eX0_take_108 f_0_30 q (fun v108 q => ?_)
  refine r_iconst (v := (0)) eX0_take_111 (by decide) ?_
  refine r_aload_n eX0_take_112 rfl ?_
  refine t_gfR eX0_take_113 f_0_30 q (fun v113 q => ?_)
  refine r_iconst (v := (0)) eX0_take_116 (by decide) ?_
  refine r_bipush (v := (30)) eX0_take_117 (by decide) ?_
  refine t_acp (t := 0) eX0_take_119 jl_0_43 (Nat.le_of_ble_eq_true rfl) q (fun h119 q => ?_)
  refine r_aload_n eX0_take_122 rfl ?_
  refine t_gfR eX0_take_123 f_0_33 q (fun v123 q => ?_)
  refine r_iconst (v := (0)) eX0_take_126 (by decide) ?_
  refine r_aload_n eX0_take_127 rfl ?_
  refine t_gfR eX0_take_128 f_0_33 q (fun v128 q => ?_)
  refine r_iconst (v := (0)) eX0_take_131 (by decide) ?_
  refine r_bipush (v := (30)) eX0_take_132 (by decide) ?_
  refine t_acp (t := 0) eX0_take_134 jl_0_43 (Nat.le_of_ble_eq_true rfl) q (fun h134 q => ?_)
  refine r_aload_n eX0_take_137 rfl ?_
  refine t_gfR eX0_take_138 f_0_36 q (fun v138 q => ?_)
  refine r_iconst (v := (0)) eX0_take_141 (by decide) ?_
  refine r_aload_n eX0_take_142 rfl ?_
  refine t_gfR eX0_take_143 f_0_36 q (fun v143 q => ?_)
  refine r_iconst (v := (0)) eX0_take_146 (by decide) ?_
  refine r_bipush (v := (30)) eX0_take_147 (by decide) ?_
  refine t_acp (t := 0) eX0_take_149 jl_0_43 (Nat.le_of_ble_eq_true rfl) q (fun h149 q => ?_)
  exact t_rtV eX0_take_152 rfl q
theorem s_X11_isIn {E : Ev} {d : Nat} {x0 : Int64} {x2 : Int32} {h : Hp} {Φ : Ou → Hp → Prop} (q : OK (F_X11_isIn E x0 x2 h) Φ) : CE E mX11_isIn (d + 0) [.long x0, .int x2] h 0 0 Φ := by
  show WE E mX11_isIn (d + 0) 0 [some (.long x0), none, some (.int x2)] [] h 0 0 Φ
  refine r_lload_n eX11_isIn_0 rfl ?_
  refine r_iload_n eX11_isIn_1 rfl ?_
  refine r_lshr eX11_isIn_2 ?_
  refine r_lconst (v := 1) eX11_isIn_3 rfl ?_
  refine r_land eX11_isIn_4 ?_
  refine r_lconst (v := 0) eX11_isIn_5 rfl ?_
  refine t_lc_eq eX11_isIn_6 eX11_isIn_7 (t := 14) (by decide) q (fun q => ?_) (fun q => ?_)
  · refine r_iconst (v := (0)) eX11_isIn_14 (by decide) ?_
    exact t_rtZ eX11_isIn_15 rfl q
  refine r_iconst (v := (1)) eX11_isIn_10 (by decide) ?_
  refine r_goto (t := 15) eX11_isIn_11 (by decide) ?_
  exact t_rtZ eX11_isIn_15 rfl q
theorem s_X6_add {E : Ev} {d : Nat} {a0 : Nat} {x1 : Int32} {h : Hp} {Φ : Ou → Hp → Prop} (q : OK (F_X6_add E a0 x1 h) Φ) : CE E mX6_add (d + 0) [.ref a0, .int x1] h 0 0 Φ := by
  show WE E mX6_add (d + 0) 0 [some (.ref a0), some (.int x1), none] [] h 0 0 Φ
  refine r_iload_n eX6_add_0 rfl ?_
  refine r_iconst (v := (1)) eX6_add_1 (by decide) ?_
  refine r_ishr eX6_add_2 ?_
  replace q := OK_lt q
  refine r_istore_n (lv' := [_, _, _]) eX6_add_3 (Nat.le_of_ble_eq_true rfl) rfl ?_
  refine r_aload_n eX6_add_4 rfl ?_
  refine t_gfR eX6_add_5 f_6_11 q (fun v5 q => ?_)
  refine r_iconst (v := (2)) eX6_add_8 (by decide) ?_
  refine r_iload_n eX6_add_9 rfl ?_
  refine r_iconst (v := (1)) eX6_add_10 (by decide) ?_
  refine r_iand eX6_add_11 ?_
  refine r_imul eX6_add_12 ?_
  refine r_iload_n eX6_add_13 rfl ?_
  refine r_bipush (v := (6)) eX6_add_14 (by decide) ?_
  refine r_ishr eX6_add_16 ?_
  refine r_iadd eX6_add_17 ?_
  refine r_dup2 eX6_add_18 rfl rfl ?_
  refine t_gaL eX6_add_19 q (fun v19 q => ?_)
  refine r_lconst (v := 1) eX6_add_20 rfl ?_
  refine r_iload_n eX6_add_21 rfl ?_
  refine r_bipush (v := (63)) eX6_add_22 (by decide) ?_
  refine r_iand eX6_add_24 ?_
  refine r_lshl eX6_add_25 ?_
  refine r_lor eX6_add_26 ?_
  refine t_paL eX6_add_27 q (fun h27 q => ?_)
  exact t_rtV eX6_add_28 rfl q
theorem sL_J7_fill_d0a16_6 {E : Ev} {d kc ks : Nat} {Φ : Ou → Hp → Prop} {y0 : Nat} {y1 : Int64} {y4 : Int32}  : ∀ (g : Nat) (y3 : Int32) (h : Hp), OK (L_J7_fill_d0a16_6 E y0 y1 y4 g y3 h) Φ → WE E mJ7_fill_d0a16 (d + 0) 6 [some (.ref y0), some (.long y1), none, some (.int y3), some (.int y4)] [] h kc ks Φ := by
  intro g
  induction g with
  | zero => intro y3 h q; exact q.elim
  | succ g ih =>
    intro y3 h q
    refine r_iload_n eJ7_fill_d0a16_6 rfl ?_
    refine r_iload eJ7_fill_d0a16_7 rfl ?_
    refine t_icmp_ge eJ7_fill_d0a16_9 (t := 22) (by decide) q (fun q => ?_) (fun q => ?_)
    · exact t_rtV eJ7_fill_d0a16_22 rfl q
    refine r_aload_n eJ7_fill_d0a16_12 rfl ?_
    refine r_iload_n eJ7_fill_d0a16_13 rfl ?_
    refine r_lload_n eJ7_fill_d0a16_14 rfl ?_
    refine t_paL eJ7_fill_d0a16_15 q (fun h15 q => ?_)
    refine r_iinc (v := (1)) (lv' := [_, _, _, _, _]) eJ7_fill_d0a16_16 rfl (by decide) rfl ?_
    refine r_goto (t := 6) eJ7_fill_d0a16_19 (by decide) ?_
    exact ih _ _ q
theorem s_J7_fill_d0a16 {E : Ev} {d : Nat} {a0 : Nat} {x1 : Int64} {h : Hp} {Φ : Ou → Hp → Prop} (q : OK (F_J7_fill_d0a16 E a0 x1 h) Φ) : CE E mJ7_fill_d0a16 (d + 0) [.ref a0, .long x1] h 0 0 Φ := by
  show WE E mJ7_fill_d0a16 (d + 0) 0 [some (.ref a0), some (.long x1), none, none, none] [] h 0 0 Φ
  refine r_iconst (v := (0)) eJ7_fill_d0a16_0 (by decide) ?_
  refine r_istore_n (lv' := [_, _, _, _, _]) eJ7_fill_d0a16_1 (Nat.le_of_ble_eq_true rfl) rfl ?_
  refine r_aload_n eJ7_fill_d0a16_2 rfl ?_
  refine t_aln eJ7_fill_d0a16_3 (by decide) q (fun v3 q => ?_)
  refine r_istore (lv' := [_, _, _, _, _]) eJ7_fill_d0a16_4 (Nat.le_of_ble_eq_true rfl) rfl ?_
  exact sL_J7_fill_d0a16_6  _ _ _ q
theorem s_X6_clear {E : Ev} {d : Nat} {a0 : Nat} {h : Hp} {Φ : Ou → Hp → Prop} (q : OK (F_X6_clear E a0 h) Φ) : CE E mX6_clear (d + 1) [.ref a0] h 0 0 Φ := by
  show WE E mX6_clear (d + 1) 0 [some (.ref a0)] [] h 0 0 Φ
  refine r_aload_n eX6_clear_0 rfl ?_
  refine t_gfR eX6_clear_1 f_6_11 q (fun v1 q => ?_)
  refine r_lconst (v := 0) eX6_clear_4 rfl ?_
  refine t_statV (As := [_, _]) (rest := []) (d' := d + 0 + 0) eX6_clear_5 k_6_15 rfl (by omega) (Nat.le_of_ble_eq_true rfl) (Nat.le_of_ble_eq_true rfl) (fun _ q => s_J7_fill_d0a16 q) q (fun h5 q => ?_)
  exact t_rtV eX6_clear_8 rfl q
theorem sL_X1_begin_15 {E : Ev} {d kc ks : Nat} {Φ : Ou → Hp → Prop} {y0 : Nat} {y1 : Int32} {y2 : Int32} {y3 : Int32}  : ∀ (g : Nat) (y4 : Int32) (y5 : Option Value) (y6 : Option Value) (h : Hp), OK (L_X1_begin_15 E y0 y1 y2 g y4 h) Φ → WE E mX1_begin (d + 2) 15 [some (.ref y0), some (.int y1), some (.int y2), some (.int y3), some (.int y4), y5, y6] [] h kc ks Φ := by
  intro g
  induction g with
  | zero => intro y4 y5 y6 h q; exact q.elim
  | succ g ih =>
    intro y4 y5 y6 h q
    refine r_iload eX1_begin_15 rfl ?_
    refine r_bipush (v := (8)) eX1_begin_17 (by decide) ?_
    refine t_icmp_ge eX1_begin_19 (t := 123) (by decide) q (fun q => ?_) (fun q => ?_)
    · exact t_rtV eX1_begin_123 rfl q
    refine r_iload_n eX1_begin_22 rfl ?_
    refine r_i2l eX1_begin_23 ?_
    refine r_iload eX1_begin_24 rfl ?_
    refine t_statI (As := [_, _]) (rest := []) (d' := d + 1 + 0) eX1_begin_26 k_1_53 rfl (by omega) (Nat.le_of_ble_eq_true rfl) (Nat.le_of_ble_eq_true rfl) (fun _ q => s_X11_isIn q) q (fun v26 h26 q => ?_)
    refine t_if_eq eX1_begin_29 (t := 117) (by decide) q (fun q => ?_) (fun q => ?_)
    · refine r_iinc (v := (1)) (lv' := [_, _, _, _, _, _, _]) eX1_begin_117 rfl (by decide) rfl ?_
      refine r_goto (t := 15) eX1_begin_120 (by decide) ?_
      exact ih _ _ _ _ q
    refine r_iload eX1_begin_32 rfl ?_
    refine r_sipush (v := (240)) eX1_begin_34 (by decide) ?_
    refine r_imul eX1_begin_37 ?_
    refine r_istore (lv' := [_, _, _, _, _, _, _]) eX1_begin_38 (Nat.le_of_ble_eq_true rfl) rfl ?_
    refine r_iload eX1_begin_40 rfl ?_
    refine r_iconst (v := (4)) eX1_begin_42 (by decide) ?_
    refine r_aload_n eX1_begin_43 rfl ?_
    refine t_gfR eX1_begin_44 f_1_41 q (fun v44 q => ?_)
    refine t_gfR eX1_begin_47 f_1_57 q (fun v47 q => ?_)
    refine t_gfR eX1_begin_50 f_1_63 q (fun v50 q => ?_)
    refine t_gfI eX1_begin_53 f_1_69 q (fun v53 q => ?_)
    refine r_imul eX1_begin_56 ?_
    refine r_iadd eX1_begin_57 ?_
    replace q := OK_lt q
    refine r_istore (lv' := [_, _, _, _, _, _, _]) eX1_begin_58 (Nat.le_of_ble_eq_true rfl) rfl ?_
    refine r_aload_n eX1_begin_60 rfl ?_
    refine t_gfR eX1_begin_61 f_1_21 q (fun v61 q => ?_)
    refine r_iload eX1_begin_64 rfl ?_
    refine r_iload eX1_begin_66 rfl ?_
    refine r_iconst (v := (0)) eX1_begin_68 (by decide) ?_
    refine t_statV (As := [_, _, _, _]) (rest := []) (d' := d + 0 + 1) eX1_begin_69 k_1_74 rfl (by omega) (Nat.le_of_ble_eq_true rfl) (Nat.le_of_ble_eq_true rfl) (fun _ q => s_J7_fill_fda19 q) q (fun h69 q => ?_)
    refine r_aload_n eX1_begin_72 rfl ?_
    refine t_gfR eX1_begin_73 f_1_24 q (fun v73 q => ?_)
    refine r_iload eX1_begin_76 rfl ?_
    refine r_iload eX1_begin_78 rfl ?_
    refine r_iconst (v := (0)) eX1_begin_80 (by decide) ?_
    refine t_statV (As := [_, _, _, _]) (rest := []) (d' := d + 0 + 1) eX1_begin_81 k_1_74 rfl (by omega) (Nat.le_of_ble_eq_true rfl) (Nat.le_of_ble_eq_true rfl) (fun _ q => s_J7_fill_fda19 q) q (fun h81 q => ?_)
    refine r_aload_n eX1_begin_84 rfl ?_
    refine t_gfR eX1_begin_85 f_1_27 q (fun v85 q => ?_)
    refine r_iload eX1_begin_88 rfl ?_
    refine r_iload eX1_begin_90 rfl ?_
    refine r_iconst (v := (0)) eX1_begin_92 (by decide) ?_
    refine t_statV (As := [_, _, _, _]) (rest := []) (d' := d + 0 + 1) eX1_begin_93 k_1_74 rfl (by omega) (Nat.le_of_ble_eq_true rfl) (Nat.le_of_ble_eq_true rfl) (fun _ q => s_J7_fill_fda19 q) q (fun h93 q => ?_)
    refine r_aload_n eX1_begin_96 rfl ?_
    refine t_gfR eX1_begin_97 f_1_17 q (fun v97 q => ?_)
    refine r_iload eX1_begin_100 rfl ?_
    refine t_gaR eX1_begin_102 (by decide) q (fun v102 q => ?_)
    refine t_virtV (As := []) (rest := []) (d' := d + 0 + 1) (ci := 6) eX1_begin_103 k_1_80 rfl rfl rfl (by omega) (Nat.le_of_ble_eq_true rfl) (Nat.le_of_ble_eq_true rfl) (fun _ q => s_X6_clear q) q (fun h103 q => ?_)
    refine r_aload_n eX1_begin_106 rfl ?_
    refine t_gfR eX1_begin_107 f_1_17 q (fun v107 q => ?_)
    refine r_iload eX1_begin_110 rfl ?_
    refine t_gaR eX1_begin_112 (by decide) q (fun v112 q => ?_)
    refine r_iload_n eX1_begin_113 rfl ?_
    refine t_virtV (As := [_]) (rest := []) (d' := d + 1 + 0) (ci := 6) eX1_begin_114 k_1_83 rfl rfl rfl (by omega) (Nat.le_of_ble_eq_true rfl) (Nat.le_of_ble_eq_true rfl) (fun _ q => s_X6_add q) q (fun h114 q => ?_)
    refine r_iinc (v := (1)) (lv' := [_, _, _, _, _, _, _]) eX1_begin_117 rfl (by decide) rfl ?_
    refine r_goto (t := 15) eX1_begin_120 (by decide) ?_
    exact ih _ _ _ _ q
theorem s_X1_begin {E : Ev} {d : Nat} {a0 : Nat} {x1 : Int32} {x2 : Int32} {x3 : Int32} {h : Hp} {Φ : Ou → Hp → Prop} (q : OK (F_X1_begin E a0 x1 x2 x3 h) Φ) : CE E mX1_begin (d + 2) [.ref a0, .int x1, .int x2, .int x3] h 0 0 Φ := by
  show WE E mX1_begin (d + 2) 0 [some (.ref a0), some (.int x1), some (.int x2), some (.int x3), none, none, none] [] h 0 0 Φ
  refine r_aload_n eX1_begin_0 rfl ?_
  refine r_iload_n eX1_begin_1 rfl ?_
  refine t_pf eX1_begin_2 p_1_45 rfl rfl (fun q => by cases q) q (fun h2 q => ?_)
  refine r_aload_n eX1_begin_5 rfl ?_
  refine r_lconst (v := 1) eX1_begin_6 rfl ?_
  refine r_iload_n eX1_begin_7 rfl ?_
  refine r_lshl eX1_begin_8 ?_
  refine t_pf eX1_begin_9 p_1_49 rfl rfl (fun q => by cases q) q (fun h9 q => ?_)
  refine r_iconst (v := (0)) eX1_begin_12 (by decide) ?_
  refine r_istore (lv' := [_, _, _, _, _, _, _]) eX1_begin_13 (Nat.le_of_ble_eq_true rfl) rfl ?_
  exact sL_X1_begin_15  _ _ _ _ _ q
theorem s_J13_bitCount_95d88 {E : Ev} {d : Nat} {x0 : Int64} {h : Hp} {Φ : Ou → Hp → Prop} (q : OK (F_J13_bitCount_95d88 E x0 h) Φ) : CE E mJ13_bitCount_95d88 (d + 0) [.long x0] h 0 0 Φ := by
  show WE E mJ13_bitCount_95d88 (d + 0) 0 [some (.long x0), none] [] h 0 0 Φ
  refine r_lload_n eJ13_bitCount_95d88_0 rfl ?_
  refine r_lload_n eJ13_bitCount_95d88_1 rfl ?_
  refine r_iconst (v := (1)) eJ13_bitCount_95d88_2 (by decide) ?_
  refine r_lushr eJ13_bitCount_95d88_3 ?_
  refine r_ldc2 eJ13_bitCount_95d88_4 g_15_314 ?_
  refine r_land eJ13_bitCount_95d88_7 ?_
  refine r_lsub eJ13_bitCount_95d88_8 ?_
  replace q := OK_lt q
  refine r_lstore_n (lv' := [_, _]) eJ13_bitCount_95d88_9 (Nat.le_of_ble_eq_true rfl) rfl ?_
  refine r_lload_n eJ13_bitCount_95d88_10 rfl ?_
  refine r_ldc2 eJ13_bitCount_95d88_11 g_15_316 ?_
  refine r_land eJ13_bitCount_95d88_14 ?_
  refine r_lload_n eJ13_bitCount_95d88_15 rfl ?_
  refine r_iconst (v := (2)) eJ13_bitCount_95d88_16 (by decide) ?_
  refine r_lushr eJ13_bitCount_95d88_17 ?_
  refine r_ldc2 eJ13_bitCount_95d88_18 g_15_316 ?_
  refine r_land eJ13_bitCount_95d88_21 ?_
  refine r_ladd eJ13_bitCount_95d88_22 ?_
  replace q := OK_lt q
  refine r_lstore_n (lv' := [_, _]) eJ13_bitCount_95d88_23 (Nat.le_of_ble_eq_true rfl) rfl ?_
  refine r_lload_n eJ13_bitCount_95d88_24 rfl ?_
  refine r_lload_n eJ13_bitCount_95d88_25 rfl ?_
  refine r_iconst (v := (4)) eJ13_bitCount_95d88_26 (by decide) ?_
  refine r_lushr eJ13_bitCount_95d88_27 ?_
  refine r_ladd eJ13_bitCount_95d88_28 ?_
  refine r_ldc2 eJ13_bitCount_95d88_29 g_15_318 ?_
  refine r_land eJ13_bitCount_95d88_32 ?_
  replace q := OK_lt q
  refine r_lstore_n (lv' := [_, _]) eJ13_bitCount_95d88_33 (Nat.le_of_ble_eq_true rfl) rfl ?_
  refine r_lload_n eJ13_bitCount_95d88_34 rfl ?_
  refine r_lload_n eJ13_bitCount_95d88_35 rfl ?_
  refine r_bipush (v := (8)) eJ13_bitCount_95d88_36 (by decide) ?_
  refine r_lushr eJ13_bitCount_95d88_38 ?_
  refine r_ladd eJ13_bitCount_95d88_39 ?_
  replace q := OK_lt q
  refine r_lstore_n (lv' := [_, _]) eJ13_bitCount_95d88_40 (Nat.le_of_ble_eq_true rfl) rfl ?_
  refine r_lload_n eJ13_bitCount_95d88_41 rfl ?_
  refine r_lload_n eJ13_bitCount_95d88_42 rfl ?_
  refine r_bipush (v := (16)) eJ13_bitCount_95d88_43 (by decide) ?_
  refine r_lushr eJ13_bitCount_95d88_45 ?_
  refine r_ladd eJ13_bitCount_95d88_46 ?_
  replace q := OK_lt q
  refine r_lstore_n (lv' := [_, _]) eJ13_bitCount_95d88_47 (Nat.le_of_ble_eq_true rfl) rfl ?_
  refine r_lload_n eJ13_bitCount_95d88_48 rfl ?_
  refine r_lload_n eJ13_bitCount_95d88_49 rfl ?_
  refine r_bipush (v := (32)) eJ13_bitCount_95d88_50 (by decide) ?_
  refine r_lushr eJ13_bitCount_95d88_52 ?_
  refine r_ladd eJ13_bitCount_95d88_53 ?_
  replace q := OK_lt q
  refine r_lstore_n (lv' := [_, _]) eJ13_bitCount_95d88_54 (Nat.le_of_ble_eq_true rfl) rfl ?_
  refine r_lload_n eJ13_bitCount_95d88_55 rfl ?_
  refine r_l2i eJ13_bitCount_95d88_56 ?_
  refine r_bipush (v := (127)) eJ13_bitCount_95d88_57 (by decide) ?_
  refine r_iand eJ13_bitCount_95d88_59 ?_
  exact t_rtI eJ13_bitCount_95d88_60 rfl q
theorem s_X11_lowest {E : Ev} {d : Nat} {x0 : Int64} {h : Hp} {Φ : Ou → Hp → Prop} (q : OK (F_X11_lowest E x0 h) Φ) : CE E mX11_lowest (d + 1) [.long x0] h 0 0 Φ := by
  show WE E mX11_lowest (d + 1) 0 [some (.long x0), none] [] h 0 0 Φ
  refine r_lload_n eX11_lowest_0 rfl ?_
  refine r_lload_n eX11_lowest_1 rfl ?_
  refine r_lneg eX11_lowest_2 ?_
  refine r_land eX11_lowest_3 ?_
  refine r_lconst (v := 1) eX11_lowest_4 rfl ?_
  refine r_lsub eX11_lowest_5 ?_
  refine t_statI (As := [_]) (rest := []) (d' := d + 0 + 0) eX11_lowest_6 k_11_167 rfl (by omega) (Nat.le_of_ble_eq_true rfl) (Nat.le_of_ble_eq_true rfl) (fun _ q => s_J13_bitCount_95d88 q) q (fun v6 h6 q => ?_)
  exact t_rtI eX11_lowest_9 rfl q
theorem s_X6_isEmpty {E : Ev} {d : Nat} {a0 : Nat} {h : Hp} {Φ : Ou → Hp → Prop} (q : OK (F_X6_isEmpty E a0 h) Φ) : CE E mX6_isEmpty (d + 0) [.ref a0] h 0 0 Φ := by
  show WE E mX6_isEmpty (d + 0) 0 [some (.ref a0)] [] h 0 0 Φ
  refine r_aload_n eX6_isEmpty_0 rfl ?_
  refine t_gfR eX6_isEmpty_1 f_6_11 q (fun v1 q => ?_)
  refine r_iconst (v := (0)) eX6_isEmpty_4 (by decide) ?_
  refine t_gaL eX6_isEmpty_5 q (fun v5 q => ?_)
  refine r_aload_n eX6_isEmpty_6 rfl ?_
  refine t_gfR eX6_isEmpty_7 f_6_11 q (fun v7 q => ?_)
  refine r_iconst (v := (1)) eX6_isEmpty_10 (by decide) ?_
  refine t_gaL eX6_isEmpty_11 q (fun v11 q => ?_)
  refine r_lor eX6_isEmpty_12 ?_
  refine r_aload_n eX6_isEmpty_13 rfl ?_
  refine t_gfR eX6_isEmpty_14 f_6_11 q (fun v14 q => ?_)
  refine r_iconst (v := (2)) eX6_isEmpty_17 (by decide) ?_
  refine t_gaL eX6_isEmpty_18 q (fun v18 q => ?_)
  refine r_lor eX6_isEmpty_19 ?_
  refine r_aload_n eX6_isEmpty_20 rfl ?_
  refine t_gfR eX6_isEmpty_21 f_6_11 q (fun v21 q => ?_)
  refine r_iconst (v := (3)) eX6_isEmpty_24 (by decide) ?_
  refine t_gaL eX6_isEmpty_25 q (fun v25 q => ?_)
  refine r_lor eX6_isEmpty_26 ?_
  refine r_lconst (v := 0) eX6_isEmpty_27 rfl ?_
  refine t_lc_ne eX6_isEmpty_28 eX6_isEmpty_29 (t := 36) (by decide) q (fun q => ?_) (fun q => ?_)
  · refine r_iconst (v := (0)) eX6_isEmpty_36 (by decide) ?_
    exact t_rtZ eX6_isEmpty_37 rfl q
  refine r_iconst (v := (1)) eX6_isEmpty_32 (by decide) ?_
  refine r_goto (t := 37) eX6_isEmpty_33 (by decide) ?_
  exact t_rtZ eX6_isEmpty_37 rfl q
theorem s_X6_stateOf {E : Ev} {d : Nat} {x0 : Int32} {x1 : Int32} {h : Hp} {Φ : Ou → Hp → Prop} (q : OK (F_X6_stateOf E x0 x1 h) Φ) : CE E mX6_stateOf (d + 0) [.int x0, .int x1] h 0 0 Φ := by
  show WE E mX6_stateOf (d + 0) 0 [some (.int x0), some (.int x1)] [] h 0 0 Φ
  refine r_iconst (v := (2)) eX6_stateOf_0 (by decide) ?_
  refine r_bipush (v := (64)) eX6_stateOf_1 (by decide) ?_
  refine r_iload_n eX6_stateOf_3 rfl ?_
  refine r_iconst (v := (1)) eX6_stateOf_4 (by decide) ?_
  refine r_iand eX6_stateOf_5 ?_
  refine r_imul eX6_stateOf_6 ?_
  refine r_iload_n eX6_stateOf_7 rfl ?_
  refine r_iadd eX6_stateOf_8 ?_
  refine r_imul eX6_stateOf_9 ?_
  refine r_iload_n eX6_stateOf_10 rfl ?_
  refine r_iconst (v := (1)) eX6_stateOf_11 (by decide) ?_
  refine r_ishr eX6_stateOf_12 ?_
  refine r_iadd eX6_stateOf_13 ?_
  exact t_rtI eX6_stateOf_14 rfl q
theorem sJ_X6_list_80 {E : Ev} {d kc ks : Nat} {Φ : Ou → Hp → Prop} {y0 : Nat} {y1 : Nat} {y2 : Int32} {y3 : Int32} {y4 : Int64} {y6 : Int32} {y7 : Int32} {h : Hp} {K33 : Int32 → Int64 → Int32 → Hp → Rs} (hK33 : ∀ (w2 : Int32) (w4 : Int64) (w6 : Int32) (w7 : Option Value) (h : Hp), OK (K33 w2 w4 w6 h) Φ → WE E mX6_list (d + 2) 33 [some (.ref y0), some (.ref y1), some (.int w2), some (.int y3), some (.long w4), none, some (.int w6), w7] [] h kc ks Φ) (q : OK (J_X6_list_80 E K33 y0 y1 y2 y3 y4 y6 y7 h) Φ) : WE E mX6_list (d + 2) 80 [some (.ref y0), some (.ref y1), some (.int y2), some (.int y3), some (.long y4), none, some (.int y6), some (.int y7)] [] h kc ks Φ := by
  refine r_aload_n eX6_list_80 rfl ?_
  refine t_gfR eX6_list_81 f_6_11 q (fun v81 q => ?_)
  refine r_iload_n eX6_list_84 rfl ?_
  refine r_iconst (v := (2)) eX6_list_85 (by decide) ?_
  refine r_iadd eX6_list_86 ?_
  refine t_gaL eX6_list_87 q (fun v87 q => ?_)
  refine r_iload eX6_list_88 rfl ?_
  refine t_statI (As := [_, _]) (rest := []) (d' := d + 1 + 0) eX6_list_90 k_6_30 rfl (by omega) (Nat.le_of_ble_eq_true rfl) (Nat.le_of_ble_eq_true rfl) (fun _ q => s_X11_isIn q) q (fun v90 h90 q => ?_)
  refine t_if_eq eX6_list_93 (t := 110) (by decide) q (fun q => ?_) (fun q => ?_)
  · refine r_iinc (v := (-1)) (lv' := [_, _, _, _, _, _, _, _]) eX6_list_110 rfl (by decide) rfl ?_
    refine r_goto (t := 33) eX6_list_113 (by decide) ?_
    exact hK33 _ _ _ _ _ q
  refine r_aload_n eX6_list_96 rfl ?_
  refine r_iload_n eX6_list_97 rfl ?_
  refine r_iinc (v := (1)) (lv' := [_, _, _, _, _, _, _, _]) eX6_list_98 rfl (by decide) rfl ?_
  refine r_iload_n eX6_list_101 rfl ?_
  refine r_iconst (v := (2)) eX6_list_102 (by decide) ?_
  refine r_iadd eX6_list_103 ?_
  refine r_iload eX6_list_104 rfl ?_
  refine t_statI (As := [_, _]) (rest := [_, _]) (d' := d + 1 + 0) eX6_list_106 k_6_34 rfl (by omega) (Nat.le_of_ble_eq_true rfl) (Nat.le_of_ble_eq_true rfl) (fun _ q => s_X6_stateOf q) q (fun v106 h106 q => ?_)
  refine t_paI eX6_list_109 q (fun h109 q => ?_)
  refine r_iinc (v := (-1)) (lv' := [_, _, _, _, _, _, _, _]) eX6_list_110 rfl (by decide) rfl ?_
  refine r_goto (t := 33) eX6_list_113 (by decide) ?_
  exact hK33 _ _ _ _ _ q
theorem sL_X6_list_33 {E : Ev} {d kc ks : Nat} {Φ : Ou → Hp → Prop} {y0 : Nat} {y1 : Nat} {y3 : Int32} {K116 : Int32 → Hp → Rs} (hK116 : ∀ (w2 : Int32) (w4 : Int64) (w6 : Int32) (w7 : Option Value) (h : Hp), OK (K116 w2 h) Φ → WE E mX6_list (d + 2) 116 [some (.ref y0), some (.ref y1), some (.int w2), some (.int y3), some (.long w4), none, some (.int w6), w7] [] h kc ks Φ) : ∀ (g : Nat) (y2 : Int32) (y4 : Int64) (y6 : Int32) (y7 : Option Value) (h : Hp), OK (L_X6_list_33 E K116 y0 y1 y3 g y2 y4 y6 h) Φ → WE E mX6_list (d + 2) 33 [some (.ref y0), some (.ref y1), some (.int y2), some (.int y3), some (.long y4), none, some (.int y6), y7] [] h kc ks Φ := by
  intro g
  induction g with
  | zero => intro y2 y4 y6 y7 h q; exact q.elim
  | succ g ih =>
    intro y2 y4 y6 y7 h q
    refine r_iload eX6_list_33 rfl ?_
    refine t_if_le eX6_list_35 (t := 116) (by decide) q (fun q => ?_) (fun q => ?_)
    · exact hK116 _ _ _ _ _ q
    refine r_lload eX6_list_38 rfl ?_
    refine t_statI (As := [_]) (rest := []) (d' := d + 0 + 1) eX6_list_40 k_6_27 rfl (by omega) (Nat.le_of_ble_eq_true rfl) (Nat.le_of_ble_eq_true rfl) (fun _ q => s_X11_lowest q) q (fun v40 h40 q => ?_)
    refine r_istore (lv' := [_, _, _, _, _, _, _, _]) eX6_list_43 (Nat.le_of_ble_eq_true rfl) rfl ?_
    refine r_lload eX6_list_45 rfl ?_
    refine r_lload eX6_list_47 rfl ?_
    refine r_lconst (v := 1) eX6_list_49 rfl ?_
    refine r_lsub eX6_list_50 ?_
    refine r_land eX6_list_51 ?_
    replace q := OK_lt q
    refine r_lstore (lv' := [_, _, _, _, _, _, _, _]) eX6_list_52 (Nat.le_of_ble_eq_true rfl) rfl ?_
    refine r_aload_n eX6_list_54 rfl ?_
    refine t_gfR eX6_list_55 f_6_11 q (fun v55 q => ?_)
    refine r_iload_n eX6_list_58 rfl ?_
    refine t_gaL eX6_list_59 q (fun v59 q => ?_)
    refine r_iload eX6_list_60 rfl ?_
    refine t_statI (As := [_, _]) (rest := []) (d' := d + 1 + 0) eX6_list_62 k_6_30 rfl (by omega) (Nat.le_of_ble_eq_true rfl) (Nat.le_of_ble_eq_true rfl) (fun _ q => s_X11_isIn q) q (fun v62 h62 q => ?_)
    refine t_if_eq eX6_list_65 (t := 80) (by decide) q (fun q => ?_) (fun q => ?_)
    · refine sJ_X6_list_80 (fun w2 w3 w4 w5 h6 q => ?_) q
      exact ih _ _ _ _ _ q
    refine r_aload_n eX6_list_68 rfl ?_
    refine r_iload_n eX6_list_69 rfl ?_
    refine r_iinc (v := (1)) (lv' := [_, _, _, _, _, _, _, _]) eX6_list_70 rfl (by decide) rfl ?_
    refine r_iload_n eX6_list_73 rfl ?_
    refine r_iload eX6_list_74 rfl ?_
    refine t_statI (As := [_, _]) (rest := [_, _]) (d' := d + 1 + 0) eX6_list_76 k_6_34 rfl (by omega) (Nat.le_of_ble_eq_true rfl) (Nat.le_of_ble_eq_true rfl) (fun _ q => s_X6_stateOf q) q (fun v76 h76 q => ?_)
    refine t_paI eX6_list_79 q (fun h79 q => ?_)
    refine sJ_X6_list_80 (fun w7 w8 w9 w10 h11 q => ?_) q
    exact ih _ _ _ _ _ q
theorem sL_X6_list_4 {E : Ev} {d kc ks : Nat} {Φ : Ou → Hp → Prop} {y0 : Nat} {y1 : Nat}  : ∀ (g : Nat) (y2 : Int32) (y3 : Int32) (y4 : Option Value) (y5 : Option Value) (y6 : Option Value) (y7 : Option Value) (h : Hp), OK (L_X6_list_4 E y0 y1 g y2 y3 h) Φ → WE E mX6_list (d + 2) 4 [some (.ref y0), some (.ref y1), some (.int y2), some (.int y3), y4, y5, y6, y7] [] h kc ks Φ := by
  intro g
  induction g with
  | zero => intro y2 y3 y4 y5 y6 y7 h q; exact q.elim
  | succ g ih =>
    intro y2 y3 y4 y5 y6 y7 h q
    refine r_iload_n eX6_list_4 rfl ?_
    refine r_iconst (v := (2)) eX6_list_5 (by decide) ?_
    refine t_icmp_ge eX6_list_6 (t := 122) (by decide) q (fun q => ?_) (fun q => ?_)
    · refine r_iload_n eX6_list_122 rfl ?_
      exact t_rtI eX6_list_123 rfl q
    refine r_aload_n eX6_list_9 rfl ?_
    refine t_gfR eX6_list_10 f_6_11 q (fun v10 q => ?_)
    refine r_iload_n eX6_list_13 rfl ?_
    refine t_gaL eX6_list_14 q (fun v14 q => ?_)
    refine r_aload_n eX6_list_15 rfl ?_
    refine t_gfR eX6_list_16 f_6_11 q (fun v16 q => ?_)
    refine r_iload_n eX6_list_19 rfl ?_
    refine r_iconst (v := (2)) eX6_list_20 (by decide) ?_
    refine r_iadd eX6_list_21 ?_
    refine t_gaL eX6_list_22 q (fun v22 q => ?_)
    refine r_lor eX6_list_23 ?_
    refine r_lstore (lv' := [_, _, _, _, _, _, _, _]) eX6_list_24 (Nat.le_of_ble_eq_true rfl) rfl ?_
    refine r_lload eX6_list_26 rfl ?_
    refine t_statI (As := [_]) (rest := []) (d' := d + 1 + 0) eX6_list_28 k_6_21 rfl (by omega) (Nat.le_of_ble_eq_true rfl) (Nat.le_of_ble_eq_true rfl) (fun _ q => s_J13_bitCount_95d88 q) q (fun v28 h28 q => ?_)
    refine r_istore (lv' := [_, _, _, _, _, _, _, _]) eX6_list_31 (Nat.le_of_ble_eq_true rfl) rfl ?_
    refine sL_X6_list_33 (fun w1 w2 w3 w4 h5 q => ?_) _ _ _ _ _ _ q
    refine r_iinc (v := (1)) (lv' := [_, _, _, _, _, _, _, _]) eX6_list_116 rfl (by decide) rfl ?_
    refine r_goto (t := 4) eX6_list_119 (by decide) ?_
    exact ih _ _ _ _ _ _ _ q
theorem s_X6_list {E : Ev} {d : Nat} {a0 : Nat} {a1 : Nat} {h : Hp} {Φ : Ou → Hp → Prop} (q : OK (F_X6_list E a0 a1 h) Φ) : CE E mX6_list (d + 2) [.ref a0, .ref a1] h 0 0 Φ := by
  show WE E mX6_list (d + 2) 0 [some (.ref a0), some (.ref a1), none, none, none, none, none, none] [] h 0 0 Φ
  refine r_iconst (v := (0)) eX6_list_0 (by decide) ?_
  refine r_istore_n (lv' := [_, _, _, _, _, _, _, _]) eX6_list_1 (Nat.le_of_ble_eq_true rfl) rfl ?_
  refine r_iconst (v := (0)) eX6_list_2 (by decide) ?_
  refine r_istore_n (lv' := [_, _, _, _, _, _, _, _]) eX6_list_3 (Nat.le_of_ble_eq_true rfl) rfl ?_
  exact sL_X6_list_4  _ _ _ _ _ _ _ _ q
theorem s_X9_become {E : Ev} {d : Nat} {a0 : Nat} {x1 : Int32} {h : Hp} {Φ : Ou → Hp → Prop} (q : OK (F_X9_become E a0 x1 h) Φ) : CE E mX9_become (d + 0) [.ref a0, .int x1] h 0 0 Φ := by
  show WE E mX9_become (d + 0) 0 [some (.ref a0), some (.int x1)] [] h 0 0 Φ
  refine r_aload_n eX9_become_0 rfl ?_
  refine r_iload_n eX9_become_1 rfl ?_
  refine t_pf eX9_become_2 p_9_65 rfl rfl (fun q => by cases q) q (fun h2 q => ?_)
  exact t_rtV eX9_become_5 rfl q
theorem sL_X7_clearNow_2 {E : Ev} {d kc ks : Nat} {Φ : Ou → Hp → Prop} {y0 : Nat}  : ∀ (g : Nat) (y1 : Int32) (h : Hp), OK (L_X7_clearNow_2 E y0 g y1 h) Φ → WE E mX7_clearNow (d + 0) 2 [some (.ref y0), some (.int y1)] [] h kc ks Φ := by
  intro g
  induction g with
  | zero => intro y1 h q; exact q.elim
  | succ g ih =>
    intro y1 h q
    refine r_iload_n eX7_clearNow_2 rfl ?_
    refine r_aload_n eX7_clearNow_3 rfl ?_
    refine t_gfI eX7_clearNow_4 f_7_56 q (fun v4 q => ?_)
    refine t_icmp_ge eX7_clearNow_7 (t := 28) (by decide) q (fun q => ?_) (fun q => ?_)
    · refine r_aload_n eX7_clearNow_28 rfl ?_
      refine r_iconst (v := (0)) eX7_clearNow_29 (by decide) ?_
      refine t_pf eX7_clearNow_30 p_7_56 rfl rfl (fun q => by cases q) q (fun h30 q => ?_)
      exact t_rtV eX7_clearNow_33 rfl q
    refine r_aload_n eX7_clearNow_10 rfl ?_
    refine t_gfR eX7_clearNow_11 f_7_15 q (fun v11 q => ?_)
    refine r_aload_n eX7_clearNow_14 rfl ?_
    refine t_gfR eX7_clearNow_15 f_7_9 q (fun v15 q => ?_)
    refine r_iload_n eX7_clearNow_18 rfl ?_
    refine t_gaI eX7_clearNow_19 q (fun v19 q => ?_)
    refine r_lconst (v := 0) eX7_clearNow_20 rfl ?_
    refine t_paL eX7_clearNow_21 q (fun h21 q => ?_)
    refine r_iinc (v := (1)) (lv' := [_, _]) eX7_clearNow_22 rfl (by decide) rfl ?_
    refine r_goto (t := 2) eX7_clearNow_25 (by decide) ?_
    exact ih _ _ q
theorem s_X7_clearNow {E : Ev} {d : Nat} {a0 : Nat} {h : Hp} {Φ : Ou → Hp → Prop} (q : OK (F_X7_clearNow E a0 h) Φ) : CE E mX7_clearNow (d + 0) [.ref a0] h 0 0 Φ := by
  show WE E mX7_clearNow (d + 0) 0 [some (.ref a0), none] [] h 0 0 Φ
  refine r_iconst (v := (0)) eX7_clearNow_0 (by decide) ?_
  refine r_istore_n (lv' := [_, _]) eX7_clearNow_1 (Nat.le_of_ble_eq_true rfl) rfl ?_
  exact sL_X7_clearNow_2  _ _ _ q
theorem s_X7_begin {E : Ev} {d : Nat} {a0 : Nat} {a1 : Nat} {x2 : Int32} {x3 : Int32} {x4 : Int64} {h : Hp} {Φ : Ou → Hp → Prop} (q : OK (F_X7_begin E a0 a1 x2 x3 x4 h) Φ) : CE E mX7_begin (d + 1) [.ref a0, .ref a1, .int x2, .int x3, .long x4] h 0 0 Φ := by
  show WE E mX7_begin (d + 1) 0 [some (.ref a0), some (.ref a1), some (.int x2), some (.int x3), some (.long x4), none] [] h 0 0 Φ
  refine r_aload_n eX7_begin_0 rfl ?_
  refine t_virtV (As := []) (rest := []) (d' := d + 0 + 0) (ci := 7) eX7_begin_1 k_7_32 rfl rfl rfl (by omega) (Nat.le_of_ble_eq_true rfl) (Nat.le_of_ble_eq_true rfl) (fun _ q => s_X7_clearNow q) q (fun h1 q => ?_)
  refine r_aload_n eX7_begin_4 rfl ?_
  refine r_aload_n eX7_begin_5 rfl ?_
  refine t_pf eX7_begin_6 p_7_25 rfl rfl (fun q => by cases q) q (fun h6 q => ?_)
  refine r_aload_n eX7_begin_9 rfl ?_
  refine r_iload_n eX7_begin_10 rfl ?_
  refine t_pf eX7_begin_11 p_7_35 rfl rfl (fun q => by cases q) q (fun h11 q => ?_)
  refine r_aload_n eX7_begin_14 rfl ?_
  refine r_iload_n eX7_begin_15 rfl ?_
  refine t_pf eX7_begin_16 p_7_39 rfl rfl (fun q => by cases q) q (fun h16 q => ?_)
  refine r_aload_n eX7_begin_19 rfl ?_
  refine r_lload eX7_begin_20 rfl ?_
  refine t_pf eX7_begin_22 p_7_42 rfl rfl (fun q => by cases q) q (fun h22 q => ?_)
  exact t_rtV eX7_begin_25 rfl q
theorem sL_X9_goBack_3 {E : Ev} {d kc ks : Nat} {Φ : Ou → Hp → Prop} {y0 : Nat} {y1 : Nat} {y2 : Int32} {y3 : Nat}  : ∀ (g : Nat) (y4 : Int32) (h : Hp), OK (L_X9_goBack_3 E y0 y1 y2 y3 g y4 h) Φ → WE E mX9_goBack (d + 1) 3 [some (.ref y0), some (.ref y1), some (.int y2), some (.ref y3), some (.int y4)] [] h kc ks Φ := by
  intro g
  induction g with
  | zero => intro y4 h q; exact q.elim
  | succ g ih =>
    intro y4 h q
    refine r_iload eX9_goBack_3 rfl ?_
    refine r_iload_n eX9_goBack_5 rfl ?_
    refine t_icmp_ge eX9_goBack_6 (t := 53) (by decide) q (fun q => ?_) (fun q => ?_)
    · exact t_rtV eX9_goBack_53 rfl q
    refine r_aload_n eX9_goBack_9 rfl ?_
    refine r_iload eX9_goBack_10 rfl ?_
    refine t_gaI eX9_goBack_12 q (fun v12 q => ?_)
    refine r_iconst (v := (1)) eX9_goBack_13 (by decide) ?_
    refine r_iand eX9_goBack_14 ?_
    refine t_if_ne eX9_goBack_15 (t := 47) (by decide) q (fun q => ?_) (fun q => ?_)
    · refine r_iinc (v := (1)) (lv' := [_, _, _, _, _]) eX9_goBack_47 rfl (by decide) rfl ?_
      refine r_goto (t := 3) eX9_goBack_50 (by decide) ?_
      exact ih _ _ q
    refine r_aload_n eX9_goBack_18 rfl ?_
    refine t_gfR eX9_goBack_19 f_9_32 q (fun v19 q => ?_)
    refine t_gfL eX9_goBack_22 f_9_163 q (fun v22 q => ?_)
    refine r_aload_n eX9_goBack_25 rfl ?_
    refine r_iload eX9_goBack_26 rfl ?_
    refine t_gaI eX9_goBack_28 q (fun v28 q => ?_)
    refine r_iconst (v := (2)) eX9_goBack_29 (by decide) ?_
    refine r_ishr eX9_goBack_30 ?_
    refine t_statI (As := [_, _]) (rest := []) (d' := d + 0 + 0) eX9_goBack_31 k_9_145 rfl (by omega) (Nat.le_of_ble_eq_true rfl) (Nat.le_of_ble_eq_true rfl) (fun _ q => s_X11_isIn q) q (fun v31 h31 q => ?_)
    refine t_if_eq eX9_goBack_34 (t := 47) (by decide) q (fun q => ?_) (fun q => ?_)
    · refine r_iinc (v := (1)) (lv' := [_, _, _, _, _]) eX9_goBack_47 rfl (by decide) rfl ?_
      refine r_goto (t := 3) eX9_goBack_50 (by decide) ?_
      exact ih _ _ q
    refine r_aload_n eX9_goBack_37 rfl ?_
    refine r_aload_n eX9_goBack_38 rfl ?_
    refine r_iload eX9_goBack_39 rfl ?_
    refine t_gaI eX9_goBack_41 q (fun v41 q => ?_)
    refine r_iconst (v := (2)) eX9_goBack_42 (by decide) ?_
    refine r_ixor eX9_goBack_43 ?_
    refine t_virtV (As := [_]) (rest := []) (d' := d + 0 + 0) (ci := 6) eX9_goBack_44 k_9_132 rfl rfl rfl (by omega) (Nat.le_of_ble_eq_true rfl) (Nat.le_of_ble_eq_true rfl) (fun _ q => s_X6_add q) q (fun h44 q => ?_)
    refine r_iinc (v := (1)) (lv' := [_, _, _, _, _]) eX9_goBack_47 rfl (by decide) rfl ?_
    refine r_goto (t := 3) eX9_goBack_50 (by decide) ?_
    exact ih _ _ q
theorem s_X9_goBack {E : Ev} {d : Nat} {a0 : Nat} {a1 : Nat} {x2 : Int32} {a3 : Nat} {h : Hp} {Φ : Ou → Hp → Prop} (q : OK (F_X9_goBack E a0 a1 x2 a3 h) Φ) : CE E mX9_goBack (d + 1) [.ref a0, .ref a1, .int x2, .ref a3] h 0 0 Φ := by
  show WE E mX9_goBack (d + 1) 0 [some (.ref a0), some (.ref a1), some (.int x2), some (.ref a3), none] [] h 0 0 Φ
  refine r_iconst (v := (0)) eX9_goBack_0 (by decide) ?_
  refine r_istore (lv' := [_, _, _, _, _]) eX9_goBack_1 (Nat.le_of_ble_eq_true rfl) rfl ?_
  exact sL_X9_goBack_3  _ _ _ q
theorem sL_J7_fill_bad5a_10 {E : Ev} {d kc ks : Nat} {Φ : Ou → Hp → Prop} {y0 : Nat} {y1 : Int32} {y2 : Int32} {y3 : Int64}  : ∀ (g : Nat) (y5 : Int32) (h : Hp), OK (L_J7_fill_bad5a_10 E y0 y2 y3 g y5 h) Φ → WE E mJ7_fill_bad5a (d + 1) 10 [some (.ref y0), some (.int y1), some (.int y2), some (.long y3), none, some (.int y5)] [] h kc ks Φ := by
  intro g
  induction g with
  | zero => intro y5 h q; exact q.elim
  | succ g ih =>
    intro y5 h q
    refine r_iload eJ7_fill_bad5a_10 rfl ?_
    refine r_iload_n eJ7_fill_bad5a_12 rfl ?_
    refine t_icmp_ge eJ7_fill_bad5a_13 (t := 27) (by decide) q (fun q => ?_) (fun q => ?_)
    · exact t_rtV eJ7_fill_bad5a_27 rfl q
    refine r_aload_n eJ7_fill_bad5a_16 rfl ?_
    refine r_iload eJ7_fill_bad5a_17 rfl ?_
    refine r_lload_n eJ7_fill_bad5a_19 rfl ?_
    refine t_paL eJ7_fill_bad5a_20 q (fun h20 q => ?_)
    refine r_iinc (v := (1)) (lv' := [_, _, _, _, _, _]) eJ7_fill_bad5a_21 rfl (by decide) rfl ?_
    refine r_goto (t := 10) eJ7_fill_bad5a_24 (by decide) ?_
    exact ih _ _ q
theorem s_J7_fill_bad5a {E : Ev} {d : Nat} {a0 : Nat} {x1 : Int32} {x2 : Int32} {x3 : Int64} {h : Hp} {Φ : Ou → Hp → Prop} (q : OK (F_J7_fill_bad5a E a0 x1 x2 x3 h) Φ) : CE E mJ7_fill_bad5a (d + 1) [.ref a0, .int x1, .int x2, .long x3] h 0 0 Φ := by
  show WE E mJ7_fill_bad5a (d + 1) 0 [some (.ref a0), some (.int x1), some (.int x2), some (.long x3), none, none] [] h 0 0 Φ
  refine r_aload_n eJ7_fill_bad5a_0 rfl ?_
  refine t_aln eJ7_fill_bad5a_1 (by decide) q (fun v1 q => ?_)
  refine r_iload_n eJ7_fill_bad5a_2 rfl ?_
  refine r_iload_n eJ7_fill_bad5a_3 rfl ?_
  refine t_statV (As := [_, _, _]) (rest := []) (d' := d + 0 + 0) eJ7_fill_bad5a_4 k_14_13 rfl (by omega) (Nat.le_of_ble_eq_true rfl) (Nat.le_of_ble_eq_true rfl) (fun _ q => s_J7_rangeCheck_23922 q) q (fun h4 q => ?_)
  refine r_iload_n eJ7_fill_bad5a_7 rfl ?_
  refine r_istore (lv' := [_, _, _, _, _, _]) eJ7_fill_bad5a_8 (Nat.le_of_ble_eq_true rfl) rfl ?_
  exact sL_J7_fill_bad5a_10  _ _ _ q
theorem sJ_X10_look_337 {E : Ev} {d kc ks : Nat} {Φ : Ou → Hp → Prop} {y0 : Nat} {y1 : Int32} {y2 : Int32} {y3 : Int32} {y4 : Int32} {y5 : Int32} {y6 : Int32} {y7 : Int64} {y9 : Int64} {y11 : Int32} {y12 : Int64} {y14 : Int32} {y15 : Int64} {y17 : Int32} {y18 : Int32} {y19 : Int32} {y20 : Int32} {y21 : Int32} {y22 : Int64} {y24 : Int64} {y26 : Int64} {y28 : Int64} {h : Hp} {K120 : Int64 → Int64 → Int64 → Int32 → Hp → Rs} (hK120 : ∀ (w7 : Int64) (w9 : Int64) (w12 : Int64) (w14 : Int32) (w15 : Option Value) (w16 : Option Value) (w17 : Option Value) (w18 : Option Value) (w19 : Option Value) (w20 : Option Value) (w21 : Option Value) (w22 : Option Value) (w23 : Option Value) (w24 : Option Value) (w25 : Option Value) (w26 : Option Value) (w27 : Option Value) (w28 : Option Value) (w29 : Option Value) (h : Hp), OK (K120 w7 w9 w12 w14 h) Φ → WE E mX10_look (d + 2) 120 [some (.ref y0), some (.int y1), some (.int y2), some (.int y3), some (.int y4), some (.int y5), some (.int y6), some (.long w7), none, some (.long w9), none, some (.int y11), some (.long w12), none, some (.int w14), w15, w16, w17, w18, w19, w20, w21, w22, w23, w24, w25, w26, w27, w28, w29] [] h kc ks Φ) (q : OK (J_X10_look_337 E K120 y0 y2 y4 y5 y6 y7 y9 y11 y12 y14 y15 y28 h) Φ) : WE E mX10_look (d + 2) 337 [some (.ref y0), some (.int y1), some (.int y2), some (.int y3), some (.int y4), some (.int y5), some (.int y6), some (.long y7), none, some (.long y9), none, some (.int y11), some (.long y12), none, some (.int y14), some (.long y15), none, some (.int y17), some (.int y18), some (.int y19), some (.int y20), some (.int y21), some (.long y22), none, some (.long y24), none, some (.long y26), none, some (.long y28), none] [] h kc ks Φ := by
  refine r_lload eX10_look_337 rfl ?_
  refine r_lconst (v := 0) eX10_look_339 rfl ?_
  refine t_lc_lt eX10_look_340 eX10_look_341 (t := 361) (by decide) q (fun q => ?_) (fun q => ?_)
  · refine r_iinc (v := (-1)) (lv' := [_, _, _, _, _, _, _, _, _, _, _, _, _, _, _, _, _, _, _, _, _, _, _, _, _, _, _, _, _, _]) eX10_look_361 rfl (by decide) rfl ?_
    refine r_goto (t := 120) eX10_look_364 (by decide) ?_
    exact hK120 _ _ _ _ _ _ _ _ _ _ _ _ _ _ _ _ _ _ _ _ q
  refine r_aload_n eX10_look_344 rfl ?_
  refine t_gfR eX10_look_345 f_10_42 q (fun v345 q => ?_)
  refine r_iload_n eX10_look_348 rfl ?_
  refine r_bipush (v := (6)) eX10_look_349 (by decide) ?_
  refine r_iadd eX10_look_351 ?_
  refine r_iload eX10_look_352 rfl ?_
  refine r_iadd eX10_look_354 ?_
  refine r_dup2 eX10_look_355 rfl rfl ?_
  refine t_gaL eX10_look_356 q (fun v356 q => ?_)
  refine r_lload eX10_look_357 rfl ?_
  refine r_lor eX10_look_359 ?_
  refine t_paL eX10_look_360 q (fun h360 q => ?_)
  refine r_iinc (v := (-1)) (lv' := [_, _, _, _, _, _, _, _, _, _, _, _, _, _, _, _, _, _, _, _, _, _, _, _, _, _, _, _, _, _]) eX10_look_361 rfl (by decide) rfl ?_
  refine r_goto (t := 120) eX10_look_364 (by decide) ?_
  exact hK120 _ _ _ _ _ _ _ _ _ _ _ _ _ _ _ _ _ _ _ _ q
theorem sJ_X10_look_307 {E : Ev} {d kc ks : Nat} {Φ : Ou → Hp → Prop} {y0 : Nat} {y1 : Int32} {y2 : Int32} {y3 : Int32} {y4 : Int32} {y5 : Int32} {y6 : Int32} {y7 : Int64} {y9 : Int64} {y11 : Int32} {y12 : Int64} {y14 : Int32} {y15 : Int64} {y17 : Int32} {y18 : Int32} {y19 : Int32} {y20 : Int32} {y21 : Int32} {y22 : Int64} {y24 : Int64} {y26 : Int64} {y28 : Int64} {h : Hp} {K120 : Int64 → Int64 → Int64 → Int32 → Hp → Rs} (hK120 : ∀ (w7 : Int64) (w9 : Int64) (w12 : Int64) (w14 : Int32) (w15 : Option Value) (w16 : Option Value) (w17 : Option Value) (w18 : Option Value) (w19 : Option Value) (w20 : Option Value) (w21 : Option Value) (w22 : Option Value) (w23 : Option Value) (w24 : Option Value) (w25 : Option Value) (w26 : Option Value) (w27 : Option Value) (w28 : Option Value) (w29 : Option Value) (h : Hp), OK (K120 w7 w9 w12 w14 h) Φ → WE E mX10_look (d + 2) 120 [some (.ref y0), some (.int y1), some (.int y2), some (.int y3), some (.int y4), some (.int y5), some (.int y6), some (.long w7), none, some (.long w9), none, some (.int y11), some (.long w12), none, some (.int w14), w15, w16, w17, w18, w19, w20, w21, w22, w23, w24, w25, w26, w27, w28, w29] [] h kc ks Φ) (q : OK (J_X10_look_307 E K120 y0 y2 y4 y5 y6 y11 y12 y14 y15 y24 y26 y28 h) Φ) : WE E mX10_look (d + 2) 307 [some (.ref y0), some (.int y1), some (.int y2), some (.int y3), some (.int y4), some (.int y5), some (.int y6), some (.long y7), none, some (.long y9), none, some (.int y11), some (.long y12), none, some (.int y14), some (.long y15), none, some (.int y17), some (.int y18), some (.int y19), some (.int y20), some (.int y21), some (.long y22), none, some (.long y24), none, some (.long y26), none, some (.long y28), none] [] h kc ks Φ := by
  refine r_lload eX10_look_307 rfl ?_
  refine r_lstore (lv' := [_, _, _, _, _, _, _, _, _, _, _, _, _, _, _, _, _, _, _, _, _, _, _, _, _, _, _, _, _, _]) eX10_look_309 (Nat.le_of_ble_eq_true rfl) rfl ?_
  refine r_lload eX10_look_311 rfl ?_
  refine r_lstore (lv' := [_, _, _, _, _, _, _, _, _, _, _, _, _, _, _, _, _, _, _, _, _, _, _, _, _, _, _, _, _, _]) eX10_look_313 (Nat.le_of_ble_eq_true rfl) rfl ?_
  refine r_aload_n eX10_look_315 rfl ?_
  refine t_gfR eX10_look_316 f_10_42 q (fun v316 q => ?_)
  refine r_iload_n eX10_look_319 rfl ?_
  refine r_bipush (v := (6)) eX10_look_320 (by decide) ?_
  refine r_iadd eX10_look_322 ?_
  refine r_lconst (v := 0) eX10_look_323 rfl ?_
  refine t_paL eX10_look_324 q (fun h324 q => ?_)
  refine r_aload_n eX10_look_325 rfl ?_
  refine t_gfR eX10_look_326 f_10_42 q (fun v326 q => ?_)
  refine r_iload_n eX10_look_329 rfl ?_
  refine r_bipush (v := (6)) eX10_look_330 (by decide) ?_
  refine r_iadd eX10_look_332 ?_
  refine r_iconst (v := (1)) eX10_look_333 (by decide) ?_
  refine r_iadd eX10_look_334 ?_
  refine r_lconst (v := 0) eX10_look_335 rfl ?_
  refine t_paL eX10_look_336 q (fun h336 q => ?_)
  refine sJ_X10_look_337 (fun w1 w2 w3 w4 w5 w6 w7 w8 w9 w10 w11 w12 w13 w14 w15 w16 w17 w18 w19 h20 q => ?_) q
  exact hK120 _ _ _ _ _ _ _ _ _ _ _ _ _ _ _ _ _ _ _ _ q
theorem sJ_X10_look_221 {E : Ev} {d kc ks : Nat} {Φ : Ou → Hp → Prop} {y0 : Nat} {y1 : Int32} {y2 : Int32} {y3 : Int32} {y4 : Int32} {y5 : Int32} {y6 : Int32} {y7 : Int64} {y9 : Int64} {y11 : Int32} {y12 : Int64} {y14 : Int32} {y15 : Int64} {y17 : Int32} {y18 : Int32} {y19 : Int32} {y20 : Int32} {y21 : Option Value} {y22 : Option Value} {y23 : Option Value} {y24 : Option Value} {y25 : Option Value} {y26 : Option Value} {y27 : Option Value} {y28 : Option Value} {y29 : Option Value} {t0 : Int32} {h : Hp} {K120 : Int64 → Int64 → Int64 → Int32 → Hp → Rs} (hK120 : ∀ (w7 : Int64) (w9 : Int64) (w12 : Int64) (w14 : Int32) (w15 : Option Value) (w16 : Option Value) (w17 : Option Value) (w18 : Option Value) (w19 : Option Value) (w20 : Option Value) (w21 : Option Value) (w22 : Option Value) (w23 : Option Value) (w24 : Option Value) (w25 : Option Value) (w26 : Option Value) (w27 : Option Value) (w28 : Option Value) (w29 : Option Value) (h : Hp), OK (K120 w7 w9 w12 w14 h) Φ → WE E mX10_look (d + 2) 120 [some (.ref y0), some (.int y1), some (.int y2), some (.int y3), some (.int y4), some (.int y5), some (.int y6), some (.long w7), none, some (.long w9), none, some (.int y11), some (.long w12), none, some (.int w14), w15, w16, w17, w18, w19, w20, w21, w22, w23, w24, w25, w26, w27, w28, w29] [] h kc ks Φ) (q : OK (J_X10_look_221 E K120 y0 y2 y4 y5 y6 y7 y9 y11 y12 y14 y15 y18 y19 t0 h) Φ) : WE E mX10_look (d + 2) 221 [some (.ref y0), some (.int y1), some (.int y2), some (.int y3), some (.int y4), some (.int y5), some (.int y6), some (.long y7), none, some (.long y9), none, some (.int y11), some (.long y12), none, some (.int y14), some (.long y15), none, some (.int y17), some (.int y18), some (.int y19), some (.int y20), y21, y22, y23, y24, y25, y26, y27, y28, y29] [.int t0] h kc ks Φ := by
  refine r_istore (lv' := [_, _, _, _, _, _, _, _, _, _, _, _, _, _, _, _, _, _, _, _, _, _, _, _, _, _, _, _, _, _]) eX10_look_221 (Nat.le_of_ble_eq_true rfl) rfl ?_
  refine r_aload_n eX10_look_223 rfl ?_
  refine t_gfR eX10_look_224 f_10_42 q (fun v224 q => ?_)
  refine r_iload_n eX10_look_227 rfl ?_
  refine r_iconst (v := (2)) eX10_look_228 (by decide) ?_
  refine r_iload eX10_look_229 rfl ?_
  refine r_imul eX10_look_231 ?_
  refine r_iadd eX10_look_232 ?_
  refine r_iload eX10_look_233 rfl ?_
  refine r_iadd eX10_look_235 ?_
  refine r_dup2 eX10_look_236 rfl rfl ?_
  refine t_gaL eX10_look_237 q (fun v237 q => ?_)
  refine r_lload eX10_look_238 rfl ?_
  refine r_lor eX10_look_240 ?_
  refine t_paL eX10_look_241 q (fun h241 q => ?_)
  refine r_iload eX10_look_242 rfl ?_
  refine r_iload eX10_look_244 rfl ?_
  refine r_imul eX10_look_246 ?_
  refine r_iload eX10_look_247 rfl ?_
  refine r_iload eX10_look_249 rfl ?_
  refine r_imul eX10_look_251 ?_
  refine r_iadd eX10_look_252 ?_
  refine r_i2l eX10_look_253 ?_
  replace q := OK_lt q
  refine r_lstore (lv' := [_, _, _, _, _, _, _, _, _, _, _, _, _, _, _, _, _, _, _, _, _, _, _, _, _, _, _, _, _, _]) eX10_look_254 (Nat.le_of_ble_eq_true rfl) rfl ?_
  refine r_lload eX10_look_256 rfl ?_
  refine r_lload eX10_look_258 rfl ?_
  refine r_absl eX10_look_260 jl_10_149 (Nat.le_of_ble_eq_true rfl) ?_
  refine r_lmul eX10_look_263 ?_
  replace q := OK_lt q
  refine r_lstore (lv' := [_, _, _, _, _, _, _, _, _, _, _, _, _, _, _, _, _, _, _, _, _, _, _, _, _, _, _, _, _, _]) eX10_look_264 (Nat.le_of_ble_eq_true rfl) rfl ?_
  refine r_iload eX10_look_266 rfl ?_
  refine r_iload eX10_look_268 rfl ?_
  refine r_imul eX10_look_270 ?_
  refine r_iload eX10_look_271 rfl ?_
  refine r_iload eX10_look_273 rfl ?_
  refine r_imul eX10_look_275 ?_
  refine r_iadd eX10_look_276 ?_
  refine r_i2l eX10_look_277 ?_
  replace q := OK_lt q
  refine r_lstore (lv' := [_, _, _, _, _, _, _, _, _, _, _, _, _, _, _, _, _, _, _, _, _, _, _, _, _, _, _, _, _, _]) eX10_look_278 (Nat.le_of_ble_eq_true rfl) rfl ?_
  refine r_lload eX10_look_280 rfl ?_
  refine r_lload eX10_look_282 rfl ?_
  refine r_lmul eX10_look_284 ?_
  refine r_lload eX10_look_285 rfl ?_
  refine r_lload eX10_look_287 rfl ?_
  refine r_lmul eX10_look_289 ?_
  refine r_lsub eX10_look_290 ?_
  refine r_lstore (lv' := [_, _, _, _, _, _, _, _, _, _, _, _, _, _, _, _, _, _, _, _, _, _, _, _, _, _, _, _, _, _]) eX10_look_291 (Nat.le_of_ble_eq_true rfl) rfl ?_
  refine r_lload eX10_look_293 rfl ?_
  refine r_lconst (v := 0) eX10_look_295 rfl ?_
  refine t_lc_eq eX10_look_296 eX10_look_297 (t := 307) (by decide) q (fun q => ?_) (fun q => ?_)
  · refine sJ_X10_look_307 (fun w4 w5 w6 w7 w8 w9 w10 w11 w12 w13 w14 w15 w16 w17 w18 w19 w20 w21 w22 h23 q => ?_) q
    exact hK120 _ _ _ _ _ _ _ _ _ _ _ _ _ _ _ _ _ _ _ _ q
  refine r_lload eX10_look_300 rfl ?_
  refine r_lconst (v := 0) eX10_look_302 rfl ?_
  refine t_lc_le eX10_look_303 eX10_look_304 (t := 337) (by decide) q (fun q => ?_) (fun q => ?_)
  · refine sJ_X10_look_337 (fun w24 w25 w26 w27 w28 w29 w30 w31 w32 w33 w34 w35 w36 w37 w38 w39 w40 w41 w42 h43 q => ?_) q
    exact hK120 _ _ _ _ _ _ _ _ _ _ _ _ _ _ _ _ _ _ _ _ q
  refine sJ_X10_look_307 (fun w44 w45 w46 w47 w48 w49 w50 w51 w52 w53 w54 w55 w56 w57 w58 w59 w60 w61 w62 h63 q => ?_) q
  exact hK120 _ _ _ _ _ _ _ _ _ _ _ _ _ _ _ _ _ _ _ _ q
theorem sL_X10_look_120 {E : Ev} {d kc ks : Nat} {Φ : Ou → Hp → Prop} {y0 : Nat} {y1 : Int32} {y2 : Int32} {y3 : Int32} {y4 : Int32} {y5 : Int32} {y6 : Int32} {y11 : Int32} {K367 : Int64 → Int64 → Hp → Rs} (hK367 : ∀ (w7 : Int64) (w9 : Int64) (w12 : Int64) (w14 : Int32) (w15 : Option Value) (w16 : Option Value) (w17 : Option Value) (w18 : Option Value) (w19 : Option Value) (w20 : Option Value) (w21 : Option Value) (w22 : Option Value) (w23 : Option Value) (w24 : Option Value) (w25 : Option Value) (w26 : Option Value) (w27 : Option Value) (w28 : Option Value) (w29 : Option Value) (h : Hp), OK (K367 w7 w9 h) Φ → WE E mX10_look (d + 2) 367 [some (.ref y0), some (.int y1), some (.int y2), some (.int y3), some (.int y4), some (.int y5), some (.int y6), some (.long w7), none, some (.long w9), none, some (.int y11), some (.long w12), none, some (.int w14), w15, w16, w17, w18, w19, w20, w21, w22, w23, w24, w25, w26, w27, w28, w29] [] h kc ks Φ) : ∀ (g : Nat) (y7 : Int64) (y9 : Int64) (y12 : Int64) (y14 : Int32) (y15 : Option Value) (y16 : Option Value) (y17 : Option Value) (y18 : Option Value) (y19 : Option Value) (y20 : Option Value) (y21 : Option Value) (y22 : Option Value) (y23 : Option Value) (y24 : Option Value) (y25 : Option Value) (y26 : Option Value) (y27 : Option Value) (y28 : Option Value) (y29 : Option Value) (h : Hp), OK (L_X10_look_120 E K367 y0 y2 y4 y5 y6 y11 g y7 y9 y12 y14 h) Φ → WE E mX10_look (d + 2) 120 [some (.ref y0), some (.int y1), some (.int y2), some (.int y3), some (.int y4), some (.int y5), some (.int y6), some (.long y7), none, some (.long y9), none, some (.int y11), some (.long y12), none, some (.int y14), y15, y16, y17, y18, y19, y20, y21, y22, y23, y24, y25, y26, y27, y28, y29] [] h kc ks Φ := by
  intro g
  induction g with
  | zero => intro y7 y9 y12 y14 y15 y16 y17 y18 y19 y20 y21 y22 y23 y24 y25 y26 y27 y28 y29 h q; exact q.elim
  | succ g ih =>
    intro y7 y9 y12 y14 y15 y16 y17 y18 y19 y20 y21 y22 y23 y24 y25 y26 y27 y28 y29 h q
    refine r_iload eX10_look_120 rfl ?_
    refine t_if_le eX10_look_122 (t := 367) (by decide) q (fun q => ?_) (fun q => ?_)
    · exact hK367 _ _ _ _ _ _ _ _ _ _ _ _ _ _ _ _ _ _ _ _ q
    refine r_lload eX10_look_125 rfl ?_
    refine r_lload eX10_look_127 rfl ?_
    refine r_lneg eX10_look_129 ?_
    refine r_land eX10_look_130 ?_
    refine r_lstore (lv' := [_, _, _, _, _, _, _, _, _, _, _, _, _, _, _, _, _, _, _, _, _, _, _, _, _, _, _, _, _, _]) eX10_look_131 (Nat.le_of_ble_eq_true rfl) rfl ?_
    refine r_lload eX10_look_133 rfl ?_
    refine r_lload eX10_look_135 rfl ?_
    refine r_lxor eX10_look_137 ?_
    replace q := OK_lt q
    refine r_lstore (lv' := [_, _, _, _, _, _, _, _, _, _, _, _, _, _, _, _, _, _, _, _, _, _, _, _, _, _, _, _, _, _]) eX10_look_138 (Nat.le_of_ble_eq_true rfl) rfl ?_
    refine r_bipush (v := (64)) eX10_look_140 (by decide) ?_
    refine r_iload eX10_look_142 rfl ?_
    refine r_imul eX10_look_144 ?_
    refine r_lload eX10_look_145 rfl ?_
    refine r_lconst (v := 1) eX10_look_147 rfl ?_
    refine r_lsub eX10_look_148 ?_
    refine t_statI (As := [_]) (rest := [_]) (d' := d + 1 + 0) eX10_look_149 k_10_143 rfl (by omega) (Nat.le_of_ble_eq_true rfl) (Nat.le_of_ble_eq_true rfl) (fun _ q => s_J13_bitCount_95d88 q) q (fun v149 h149 q => ?_)
    refine r_iadd eX10_look_152 ?_
    replace q := OK_lt q
    refine r_istore (lv' := [_, _, _, _, _, _, _, _, _, _, _, _, _, _, _, _, _, _, _, _, _, _, _, _, _, _, _, _, _, _]) eX10_look_153 (Nat.le_of_ble_eq_true rfl) rfl ?_
    refine r_iload eX10_look_155 rfl ?_
    refine r_iload eX10_look_157 rfl ?_
    refine t_icmp_ne eX10_look_159 (t := 165) (by decide) q (fun q => ?_) (fun q => ?_)
    · refine r_aload_n eX10_look_165 rfl ?_
      refine t_gfR eX10_look_166 f_10_45 q (fun v166 q => ?_)
      refine t_gfR eX10_look_169 f_10_137 q (fun v169 q => ?_)
      refine r_iload eX10_look_172 rfl ?_
      refine t_gaI eX10_look_174 q (fun v174 q => ?_)
      refine r_istore (lv' := [_, _, _, _, _, _, _, _, _, _, _, _, _, _, _, _, _, _, _, _, _, _, _, _, _, _, _, _, _, _]) eX10_look_175 (Nat.le_of_ble_eq_true rfl) rfl ?_
      refine r_aload_n eX10_look_177 rfl ?_
      refine t_gfR eX10_look_178 f_10_45 q (fun v178 q => ?_)
      refine t_gfR eX10_look_181 f_10_140 q (fun v181 q => ?_)
      refine r_iload eX10_look_184 rfl ?_
      refine t_gaI eX10_look_186 q (fun v186 q => ?_)
      refine r_istore (lv' := [_, _, _, _, _, _, _, _, _, _, _, _, _, _, _, _, _, _, _, _, _, _, _, _, _, _, _, _, _, _]) eX10_look_187 (Nat.le_of_ble_eq_true rfl) rfl ?_
      refine r_iload eX10_look_189 rfl ?_
      refine r_iload eX10_look_191 rfl ?_
      refine r_imul eX10_look_193 ?_
      refine r_iload eX10_look_194 rfl ?_
      refine r_iload eX10_look_196 rfl ?_
      refine r_imul eX10_look_198 ?_
      refine r_isub eX10_look_199 ?_
      replace q := OK_lt q
      refine r_istore (lv' := [_, _, _, _, _, _, _, _, _, _, _, _, _, _, _, _, _, _, _, _, _, _, _, _, _, _, _, _, _, _]) eX10_look_200 (Nat.le_of_ble_eq_true rfl) rfl ?_
      refine r_iload eX10_look_202 rfl ?_
      refine t_if_le eX10_look_204 (t := 211) (by decide) q (fun q => ?_) (fun q => ?_)
      · refine r_iload eX10_look_211 rfl ?_
        refine t_if_ge eX10_look_213 (t := 220) (by decide) q (fun q => ?_) (fun q => ?_)
        · refine r_iconst (v := (2)) eX10_look_220 (by decide) ?_
          refine sJ_X10_look_221 (fun w4 w5 w6 w7 w8 w9 w10 w11 w12 w13 w14 w15 w16 w17 w18 w19 w20 w21 w22 h23 q => ?_) q
          exact ih _ _ _ _ _ _ _ _ _ _ _ _ _ _ _ _ _ _ _ _ q
        refine r_iconst (v := (1)) eX10_look_216 (by decide) ?_
        refine r_goto (t := 221) eX10_look_217 (by decide) ?_
        refine sJ_X10_look_221 (fun w24 w25 w26 w27 w28 w29 w30 w31 w32 w33 w34 w35 w36 w37 w38 w39 w40 w41 w42 h43 q => ?_) q
        exact ih _ _ _ _ _ _ _ _ _ _ _ _ _ _ _ _ _ _ _ _ q
      refine r_iconst (v := (0)) eX10_look_207 (by decide) ?_
      refine r_goto (t := 221) eX10_look_208 (by decide) ?_
      refine sJ_X10_look_221 (fun w44 w45 w46 w47 w48 w49 w50 w51 w52 w53 w54 w55 w56 w57 w58 w59 w60 w61 w62 h63 q => ?_) q
      exact ih _ _ _ _ _ _ _ _ _ _ _ _ _ _ _ _ _ _ _ _ q
    refine r_goto (t := 361) eX10_look_162 (by decide) ?_
    refine r_iinc (v := (-1)) (lv' := [_, _, _, _, _, _, _, _, _, _, _, _, _, _, _, _, _, _, _, _, _, _, _, _, _, _, _, _, _, _]) eX10_look_361 rfl (by decide) rfl ?_
    refine r_goto (t := 120) eX10_look_364 (by decide) ?_
    exact ih _ _ _ _ _ _ _ _ _ _ _ _ _ _ _ _ _ _ _ _ q
theorem sL_X10_look_86 {E : Ev} {d kc ks : Nat} {Φ : Ou → Hp → Prop} {y0 : Nat} {y1 : Int32} {y2 : Int32} {y3 : Int32} {y4 : Int32} {y5 : Int32} {y6 : Int32}  : ∀ (g : Nat) (y7 : Int64) (y9 : Int64) (y11 : Int32) (y12 : Option Value) (y13 : Option Value) (y14 : Option Value) (y15 : Option Value) (y16 : Option Value) (y17 : Option Value) (y18 : Option Value) (y19 : Option Value) (y20 : Option Value) (y21 : Option Value) (y22 : Option Value) (y23 : Option Value) (y24 : Option Value) (y25 : Option Value) (y26 : Option Value) (y27 : Option Value) (y28 : Option Value) (y29 : Option Value) (h : Hp), OK (L_X10_look_86 E y0 y1 y2 y4 y5 y6 g y7 y9 y11 h) Φ → WE E mX10_look (d + 2) 86 [some (.ref y0), some (.int y1), some (.int y2), some (.int y3), some (.int y4), some (.int y5), some (.int y6), some (.long y7), none, some (.long y9), none, some (.int y11), y12, y13, y14, y15, y16, y17, y18, y19, y20, y21, y22, y23, y24, y25, y26, y27, y28, y29] [] h kc ks Φ := by
  intro g
  induction g with
  | zero => intro y7 y9 y11 y12 y13 y14 y15 y16 y17 y18 y19 y20 y21 y22 y23 y24 y25 y26 y27 y28 y29 h q; exact q.elim
  | succ g ih =>
    intro y7 y9 y11 y12 y13 y14 y15 y16 y17 y18 y19 y20 y21 y22 y23 y24 y25 y26 y27 y28 y29 h q
    refine r_iload eX10_look_86 rfl ?_
    refine r_iconst (v := (2)) eX10_look_88 (by decide) ?_
    refine t_icmp_ge eX10_look_89 (t := 373) (by decide) q (fun q => ?_) (fun q => ?_)
    · refine r_iload_n eX10_look_373 rfl ?_
      exact t_rtI eX10_look_374 rfl q
    refine r_aload_n eX10_look_92 rfl ?_
    refine t_gfR eX10_look_93 f_10_26 q (fun v93 q => ?_)
    refine r_iconst (v := (2)) eX10_look_96 (by decide) ?_
    refine r_aload_n eX10_look_97 rfl ?_
    refine t_gfR eX10_look_98 f_10_45 q (fun v98 q => ?_)
    refine t_gfR eX10_look_101 f_10_121 q (fun v101 q => ?_)
    refine r_iload_n eX10_look_104 rfl ?_
    refine t_gaI eX10_look_105 q (fun v105 q => ?_)
    refine r_imul eX10_look_106 ?_
    refine r_iload eX10_look_107 rfl ?_
    refine r_iadd eX10_look_109 ?_
    refine t_gaL eX10_look_110 q (fun v110 q => ?_)
    refine r_lstore (lv' := [_, _, _, _, _, _, _, _, _, _, _, _, _, _, _, _, _, _, _, _, _, _, _, _, _, _, _, _, _, _]) eX10_look_111 (Nat.le_of_ble_eq_true rfl) rfl ?_
    refine r_lload eX10_look_113 rfl ?_
    refine t_statI (As := [_]) (rest := []) (d' := d + 1 + 0) eX10_look_115 k_10_143 rfl (by omega) (Nat.le_of_ble_eq_true rfl) (Nat.le_of_ble_eq_true rfl) (fun _ q => s_J13_bitCount_95d88 q) q (fun v115 h115 q => ?_)
    refine r_istore (lv' := [_, _, _, _, _, _, _, _, _, _, _, _, _, _, _, _, _, _, _, _, _, _, _, _, _, _, _, _, _, _]) eX10_look_118 (Nat.le_of_ble_eq_true rfl) rfl ?_
    refine sL_X10_look_120 (fun w1 w2 w3 w4 w5 w6 w7 w8 w9 w10 w11 w12 w13 w14 w15 w16 w17 w18 w19 h20 q => ?_) _ _ _ _ _ _ _ _ _ _ _ _ _ _ _ _ _ _ _ _ _ q
    refine r_iinc (v := (1)) (lv' := [_, _, _, _, _, _, _, _, _, _, _, _, _, _, _, _, _, _, _, _, _, _, _, _, _, _, _, _, _, _]) eX10_look_367 rfl (by decide) rfl ?_
    refine r_goto (t := 86) eX10_look_370 (by decide) ?_
    exact ih _ _ _ _ _ _ _ _ _ _ _ _ _ _ _ _ _ _ _ _ _ _ q
theorem sJ_X10_look_53 {E : Ev} {d kc ks : Nat} {Φ : Ou → Hp → Prop} {y0 : Nat} {y1 : Int32} {y2 : Int32} {y3 : Int32} {t0 : Int32} {h : Hp}  (q : OK (J_X10_look_53 E y0 y1 y2 y3 t0 h) Φ) : WE E mX10_look (d + 2) 53 [some (.ref y0), some (.int y1), some (.int y2), some (.int y3), none, none, none, none, none, none, none, none, none, none, none, none, none, none, none, none, none, none, none, none, none, none, none, none, none, none] [.int t0] h kc ks Φ := by
  refine r_istore (lv' := [_, _, _, _, _, _, _, _, _, _, _, _, _, _, _, _, _, _, _, _, _, _, _, _, _, _, _, _, _, _]) eX10_look_53 (Nat.le_of_ble_eq_true rfl) rfl ?_
  refine r_aload_n eX10_look_55 rfl ?_
  refine t_gfR eX10_look_56 f_10_45 q (fun v56 q => ?_)
  refine t_gfR eX10_look_59 f_10_137 q (fun v59 q => ?_)
  refine r_iload_n eX10_look_62 rfl ?_
  refine t_gaI eX10_look_63 q (fun v63 q => ?_)
  refine r_istore (lv' := [_, _, _, _, _, _, _, _, _, _, _, _, _, _, _, _, _, _, _, _, _, _, _, _, _, _, _, _, _, _]) eX10_look_64 (Nat.le_of_ble_eq_true rfl) rfl ?_
  refine r_aload_n eX10_look_66 rfl ?_
  refine t_gfR eX10_look_67 f_10_45 q (fun v67 q => ?_)
  refine t_gfR eX10_look_70 f_10_140 q (fun v70 q => ?_)
  refine r_iload_n eX10_look_73 rfl ?_
  refine t_gaI eX10_look_74 q (fun v74 q => ?_)
  refine r_istore (lv' := [_, _, _, _, _, _, _, _, _, _, _, _, _, _, _, _, _, _, _, _, _, _, _, _, _, _, _, _, _, _]) eX10_look_75 (Nat.le_of_ble_eq_true rfl) rfl ?_
  refine r_lconst (v := 0) eX10_look_77 rfl ?_
  refine r_lstore (lv' := [_, _, _, _, _, _, _, _, _, _, _, _, _, _, _, _, _, _, _, _, _, _, _, _, _, _, _, _, _, _]) eX10_look_78 (Nat.le_of_ble_eq_true rfl) rfl ?_
  refine r_lconst (v := 0) eX10_look_80 rfl ?_
  refine r_lstore (lv' := [_, _, _, _, _, _, _, _, _, _, _, _, _, _, _, _, _, _, _, _, _, _, _, _, _, _, _, _, _, _]) eX10_look_81 (Nat.le_of_ble_eq_true rfl) rfl ?_
  refine r_iconst (v := (0)) eX10_look_83 (by decide) ?_
  refine r_istore (lv' := [_, _, _, _, _, _, _, _, _, _, _, _, _, _, _, _, _, _, _, _, _, _, _, _, _, _, _, _, _, _]) eX10_look_84 (Nat.le_of_ble_eq_true rfl) rfl ?_
  exact sL_X10_look_86  _ _ _ _ _ _ _ _ _ _ _ _ _ _ _ _ _ _ _ _ _ _ _ q
theorem s_X10_look {E : Ev} {d : Nat} {a0 : Nat} {x1 : Int32} {h : Hp} {Φ : Ou → Hp → Prop} (q : OK (F_X10_look E a0 x1 h) Φ) : CE E mX10_look (d + 2) [.ref a0, .int x1] h 0 0 Φ := by
  show WE E mX10_look (d + 2) 0 [some (.ref a0), some (.int x1), none, none, none, none, none, none, none, none, none, none, none, none, none, none, none, none, none, none, none, none, none, none, none, none, none, none, none, none] [] h 0 0 Φ
  refine r_iload_n eX10_look_0 rfl ?_
  refine r_bipush (v := (8)) eX10_look_1 (by decide) ?_
  refine r_imul eX10_look_3 ?_
  refine r_istore_n (lv' := [_, _, _, _, _, _, _, _, _, _, _, _, _, _, _, _, _, _, _, _, _, _, _, _, _, _, _, _, _, _]) eX10_look_4 (Nat.le_of_ble_eq_true rfl) rfl ?_
  refine r_aload_n eX10_look_5 rfl ?_
  refine t_gfR eX10_look_6 f_10_38 q (fun v6 q => ?_)
  refine r_iload_n eX10_look_9 rfl ?_
  refine t_gaZ eX10_look_10 q (fun v10 q => ?_)
  refine t_if_eq eX10_look_11 (t := 16) (by decide) q (fun q => ?_) (fun q => ?_)
  · refine r_aload_n eX10_look_16 rfl ?_
    refine t_gfR eX10_look_17 f_10_38 q (fun v17 q => ?_)
    refine r_iload_n eX10_look_20 rfl ?_
    refine r_iconst (v := (1)) eX10_look_21 (by decide) ?_
    refine t_paZ eX10_look_22 q (fun h22 q => ?_)
    refine r_aload_n eX10_look_23 rfl ?_
    refine t_gfR eX10_look_24 f_10_42 q (fun v24 q => ?_)
    refine r_iload_n eX10_look_27 rfl ?_
    refine r_iload_n eX10_look_28 rfl ?_
    refine r_bipush (v := (8)) eX10_look_29 (by decide) ?_
    refine r_iadd eX10_look_31 ?_
    refine r_lconst (v := 0) eX10_look_32 rfl ?_
    refine t_statV (As := [_, _, _, _]) (rest := []) (d' := d + 0 + 1) eX10_look_33 k_10_134 rfl (by omega) (Nat.le_of_ble_eq_true rfl) (Nat.le_of_ble_eq_true rfl) (fun _ q => s_J7_fill_bad5a q) q (fun h33 q => ?_)
    refine r_iload_n eX10_look_36 rfl ?_
    refine r_iconst (v := (1)) eX10_look_37 (by decide) ?_
    refine r_ishr eX10_look_38 ?_
    replace q := OK_lt q
    refine r_istore_n (lv' := [_, _, _, _, _, _, _, _, _, _, _, _, _, _, _, _, _, _, _, _, _, _, _, _, _, _, _, _, _, _]) eX10_look_39 (Nat.le_of_ble_eq_true rfl) rfl ?_
    refine r_iload_n eX10_look_40 rfl ?_
    refine r_iconst (v := (1)) eX10_look_41 (by decide) ?_
    refine r_iand eX10_look_42 ?_
    refine t_if_ne eX10_look_43 (t := 52) (by decide) q (fun q => ?_) (fun q => ?_)
    · refine r_iconst (v := (-1)) eX10_look_52 (by decide) ?_
      exact sJ_X10_look_53  q
    refine r_iload_n eX10_look_46 rfl ?_
    refine r_iconst (v := (1)) eX10_look_47 (by decide) ?_
    refine r_ixor eX10_look_48 ?_
    refine r_goto (t := 53) eX10_look_49 (by decide) ?_
    exact sJ_X10_look_53  q
  refine r_iload_n eX10_look_14 rfl ?_
  exact t_rtI eX10_look_15 rfl q
theorem sJ_X7_carry_154 {E : Ev} {d kc ks : Nat} {Φ : Ou → Hp → Prop} {y0 : Nat} {y1 : Int32} {y2 : Int64} {y4 : Int32} {y5 : Int64} {y7 : Int32} {y8 : Int32} {y9 : Int64} {y11 : Option Value} {h : Hp} {K33 : Int64 → Int32 → Hp → Rs} (hK33 : ∀ (w5 : Int64) (w7 : Int32) (w8 : Option Value) (w9 : Option Value) (w10 : Option Value) (w11 : Option Value) (h : Hp), OK (K33 w5 w7 h) Φ → WE E mX7_carry (d + 1) 33 [some (.ref y0), some (.int y1), some (.long y2), none, some (.int y4), some (.long w5), none, some (.int w7), w8, w9, w10, w11] [] h kc ks Φ) (q : OK (J_X7_carry_154 E K33 y0 y2 y4 y5 y7 y8 y9 h) Φ) : WE E mX7_carry (d + 1) 154 [some (.ref y0), some (.int y1), some (.long y2), none, some (.int y4), some (.long y5), none, some (.int y7), some (.int y8), some (.long y9), none, y11] [] h kc ks Φ := by
  refine r_aload_n eX7_carry_154 rfl ?_
  refine t_gfR eX7_carry_155 f_7_22 q (fun v155 q => ?_)
  refine r_iload eX7_carry_158 rfl ?_
  refine r_dup2 eX7_carry_160 rfl rfl ?_
  refine t_gaL eX7_carry_161 q (fun v161 q => ?_)
  refine r_lload eX7_carry_162 rfl ?_
  refine r_lor eX7_carry_164 ?_
  refine t_paL eX7_carry_165 q (fun h165 q => ?_)
  refine r_iinc (v := (-1)) (lv' := [_, _, _, _, _, _, _, _, _, _, _, _]) eX7_carry_166 rfl (by decide) rfl ?_
  refine r_goto (t := 33) eX7_carry_169 (by decide) ?_
  exact hK33 _ _ _ _ _ _ _ q
theorem sJ_X7_carry_117 {E : Ev} {d kc ks : Nat} {Φ : Ou → Hp → Prop} {y0 : Nat} {y1 : Int32} {y2 : Int64} {y4 : Int32} {y5 : Int64} {y7 : Int32} {y8 : Int32} {y9 : Int64} {y11 : Option Value} {h : Hp} {K33 : Int64 → Int32 → Hp → Rs} (hK33 : ∀ (w5 : Int64) (w7 : Int32) (w8 : Option Value) (w9 : Option Value) (w10 : Option Value) (w11 : Option Value) (h : Hp), OK (K33 w5 w7 h) Φ → WE E mX7_carry (d + 1) 33 [some (.ref y0), some (.int y1), some (.long y2), none, some (.int y4), some (.long w5), none, some (.int w7), w8, w9, w10, w11] [] h kc ks Φ) (q : OK (J_X7_carry_117 E K33 y0 y2 y4 y5 y7 y8 y9 h) Φ) : WE E mX7_carry (d + 1) 117 [some (.ref y0), some (.int y1), some (.long y2), none, some (.int y4), some (.long y5), none, some (.int y7), some (.int y8), some (.long y9), none, y11] [] h kc ks Φ := by
  refine r_lload eX7_carry_117 rfl ?_
  refine r_lconst (v := 0) eX7_carry_119 rfl ?_
  refine t_lc_eq eX7_carry_120 eX7_carry_121 (t := 166) (by decide) q (fun q => ?_) (fun q => ?_)
  · refine r_iinc (v := (-1)) (lv' := [_, _, _, _, _, _, _, _, _, _, _, _]) eX7_carry_166 rfl (by decide) rfl ?_
    refine r_goto (t := 33) eX7_carry_169 (by decide) ?_
    exact hK33 _ _ _ _ _ _ _ q
  refine r_aload_n eX7_carry_124 rfl ?_
  refine t_gfR eX7_carry_125 f_7_22 q (fun v125 q => ?_)
  refine r_iload eX7_carry_128 rfl ?_
  refine t_gaL eX7_carry_130 q (fun v130 q => ?_)
  refine r_lconst (v := 0) eX7_carry_131 rfl ?_
  refine t_lc_ne eX7_carry_132 eX7_carry_133 (t := 154) (by decide) q (fun q => ?_) (fun q => ?_)
  · refine sJ_X7_carry_154 (fun w1 w2 w3 w4 w5 w6 h7 q => ?_) q
    exact hK33 _ _ _ _ _ _ _ q
  refine r_aload_n eX7_carry_136 rfl ?_
  refine t_gfR eX7_carry_137 f_7_19 q (fun v137 q => ?_)
  refine r_aload_n eX7_carry_140 rfl ?_
  refine r_dup eX7_carry_141 rfl ?_
  refine t_gfI eX7_carry_142 f_7_59 q (fun v142 q => ?_)
  refine r_dup_x1 eX7_carry_145 rfl rfl ?_
  refine r_iconst (v := (1)) eX7_carry_146 (by decide) ?_
  refine r_iadd eX7_carry_147 ?_
  refine t_pf eX7_carry_148 p_7_59 rfl rfl (fun q => by cases q) q (fun h148 q => ?_)
  refine r_iload eX7_carry_151 rfl ?_
  refine t_paI eX7_carry_153 q (fun h153 q => ?_)
  refine sJ_X7_carry_154 (fun w8 w9 w10 w11 w12 w13 h14 q => ?_) q
  exact hK33 _ _ _ _ _ _ _ q
theorem sL_X7_carry_33 {E : Ev} {d kc ks : Nat} {Φ : Ou → Hp → Prop} {y0 : Nat} {y1 : Int32} {y2 : Int64} {y4 : Int32} {K172 : Hp → Rs} (hK172 : ∀ (w5 : Int64) (w7 : Int32) (w8 : Option Value) (w9 : Option Value) (w10 : Option Value) (w11 : Option Value) (h : Hp), OK (K172 h) Φ → WE E mX7_carry (d + 1) 172 [some (.ref y0), some (.int y1), some (.long y2), none, some (.int y4), some (.long w5), none, some (.int w7), w8, w9, w10, w11] [] h kc ks Φ) : ∀ (g : Nat) (y5 : Int64) (y7 : Int32) (y8 : Option Value) (y9 : Option Value) (y10 : Option Value) (y11 : Option Value) (h : Hp), OK (L_X7_carry_33 E K172 y0 y2 y4 g y5 y7 h) Φ → WE E mX7_carry (d + 1) 33 [some (.ref y0), some (.int y1), some (.long y2), none, some (.int y4), some (.long y5), none, some (.int y7), y8, y9, y10, y11] [] h kc ks Φ := by
  intro g
  induction g with
  | zero => intro y5 y7 y8 y9 y10 y11 h q; exact q.elim
  | succ g ih =>
    intro y5 y7 y8 y9 y10 y11 h q
    refine r_iload eX7_carry_33 rfl ?_
    refine t_if_le eX7_carry_35 (t := 172) (by decide) q (fun q => ?_) (fun q => ?_)
    · exact hK172 _ _ _ _ _ _ _ q
    refine r_bipush (v := (64)) eX7_carry_38 (by decide) ?_
    refine r_iload eX7_carry_40 rfl ?_
    refine r_imul eX7_carry_42 ?_
    refine r_lload eX7_carry_43 rfl ?_
    refine r_lload eX7_carry_45 rfl ?_
    refine r_lneg eX7_carry_47 ?_
    refine r_land eX7_carry_48 ?_
    refine r_lconst (v := 1) eX7_carry_49 rfl ?_
    refine r_lsub eX7_carry_50 ?_
    refine t_statI (As := [_]) (rest := [_]) (d' := d + 0 + 0) eX7_carry_51 k_7_65 rfl (by omega) (Nat.le_of_ble_eq_true rfl) (Nat.le_of_ble_eq_true rfl) (fun _ q => s_J13_bitCount_95d88 q) q (fun v51 h51 q => ?_)
    refine r_iadd eX7_carry_54 ?_
    replace q := OK_lt q
    refine r_istore (lv' := [_, _, _, _, _, _, _, _, _, _, _, _]) eX7_carry_55 (Nat.le_of_ble_eq_true rfl) rfl ?_
    refine r_lload eX7_carry_57 rfl ?_
    refine r_lload eX7_carry_59 rfl ?_
    refine r_lconst (v := 1) eX7_carry_61 rfl ?_
    refine r_lsub eX7_carry_62 ?_
    refine r_land eX7_carry_63 ?_
    replace q := OK_lt q
    refine r_lstore (lv' := [_, _, _, _, _, _, _, _, _, _, _, _]) eX7_carry_64 (Nat.le_of_ble_eq_true rfl) rfl ?_
    refine r_lload_n eX7_carry_66 rfl ?_
    refine r_lstore (lv' := [_, _, _, _, _, _, _, _, _, _, _, _]) eX7_carry_67 (Nat.le_of_ble_eq_true rfl) rfl ?_
    refine r_aload_n eX7_carry_69 rfl ?_
    refine t_gfL eX7_carry_70 f_7_42 q (fun v70 q => ?_)
    refine r_lconst (v := 0) eX7_carry_73 rfl ?_
    refine t_lc_eq eX7_carry_74 eX7_carry_75 (t := 117) (by decide) q (fun q => ?_) (fun q => ?_)
    · refine sJ_X7_carry_117 (fun w3 w4 w5 w6 w7 w8 h9 q => ?_) q
      exact ih _ _ _ _ _ _ _ q
    refine r_aload_n eX7_carry_78 rfl ?_
    refine t_gfR eX7_carry_79 f_7_28 q (fun v79 q => ?_)
    refine t_gfR eX7_carry_82 f_7_71 q (fun v82 q => ?_)
    refine t_gfR eX7_carry_85 f_7_75 q (fun v85 q => ?_)
    refine r_iload eX7_carry_88 rfl ?_
    refine r_iconst (v := (1)) eX7_carry_90 (by decide) ?_
    refine r_ishr eX7_carry_91 ?_
    refine t_gaI eX7_carry_92 q (fun v92 q => ?_)
    refine r_istore (lv' := [_, _, _, _, _, _, _, _, _, _, _, _]) eX7_carry_93 (Nat.le_of_ble_eq_true rfl) rfl ?_
    refine r_iload eX7_carry_95 rfl ?_
    refine r_bipush (v := (64)) eX7_carry_97 (by decide) ?_
    refine t_icmp_ge eX7_carry_99 (t := 114) (by decide) q (fun q => ?_) (fun q => ?_)
    · refine r_lconst (v := 0) eX7_carry_114 rfl ?_
      refine r_lstore (lv' := [_, _, _, _, _, _, _, _, _, _, _, _]) eX7_carry_115 (Nat.le_of_ble_eq_true rfl) rfl ?_
      refine sJ_X7_carry_117 (fun w10 w11 w12 w13 w14 w15 h16 q => ?_) q
      exact ih _ _ _ _ _ _ _ q
    refine r_lload_n eX7_carry_102 rfl ?_
    refine r_iload eX7_carry_103 rfl ?_
    refine r_lshl eX7_carry_105 ?_
    refine r_aload_n eX7_carry_106 rfl ?_
    refine t_gfL eX7_carry_107 f_7_42 q (fun v107 q => ?_)
    refine r_land eX7_carry_110 ?_
    refine r_goto (t := 115) eX7_carry_111 (by decide) ?_
    replace q := OK_lt q
    refine r_lstore (lv' := [_, _, _, _, _, _, _, _, _, _, _, _]) eX7_carry_115 (Nat.le_of_ble_eq_true rfl) rfl ?_
    refine sJ_X7_carry_117 (fun w18 w19 w20 w21 w22 w23 h24 q => ?_) q
    exact ih _ _ _ _ _ _ _ q
theorem sL_X7_carry_3 {E : Ev} {d kc ks : Nat} {Φ : Ou → Hp → Prop} {y0 : Nat} {y1 : Int32} {y2 : Int64}  : ∀ (g : Nat) (y4 : Int32) (y5 : Option Value) (y6 : Option Value) (y7 : Option Value) (y8 : Option Value) (y9 : Option Value) (y10 : Option Value) (y11 : Option Value) (h : Hp), OK (L_X7_carry_3 E y0 y1 y2 g y4 h) Φ → WE E mX7_carry (d + 1) 3 [some (.ref y0), some (.int y1), some (.long y2), none, some (.int y4), y5, y6, y7, y8, y9, y10, y11] [] h kc ks Φ := by
  intro g
  induction g with
  | zero => intro y4 y5 y6 y7 y8 y9 y10 y11 h q; exact q.elim
  | succ g ih =>
    intro y4 y5 y6 y7 y8 y9 y10 y11 h q
    refine r_iload eX7_carry_3 rfl ?_
    refine r_iconst (v := (2)) eX7_carry_5 (by decide) ?_
    refine t_icmp_ge eX7_carry_6 (t := 178) (by decide) q (fun q => ?_) (fun q => ?_)
    · exact t_rtV eX7_carry_178 rfl q
    refine r_aload_n eX7_carry_9 rfl ?_
    refine t_gfR eX7_carry_10 f_7_28 q (fun v10 q => ?_)
    refine t_gfR eX7_carry_13 f_7_62 q (fun v13 q => ?_)
    refine r_iload_n eX7_carry_16 rfl ?_
    refine r_bipush (v := (6)) eX7_carry_17 (by decide) ?_
    refine r_iadd eX7_carry_19 ?_
    refine r_iload eX7_carry_20 rfl ?_
    refine r_iadd eX7_carry_22 ?_
    refine t_gaL eX7_carry_23 q (fun v23 q => ?_)
    refine r_lstore (lv' := [_, _, _, _, _, _, _, _, _, _, _, _]) eX7_carry_24 (Nat.le_of_ble_eq_true rfl) rfl ?_
    refine r_lload eX7_carry_26 rfl ?_
    refine t_statI (As := [_]) (rest := []) (d' := d + 0 + 0) eX7_carry_28 k_7_65 rfl (by omega) (Nat.le_of_ble_eq_true rfl) (Nat.le_of_ble_eq_true rfl) (fun _ q => s_J13_bitCount_95d88 q) q (fun v28 h28 q => ?_)
    refine r_istore (lv' := [_, _, _, _, _, _, _, _, _, _, _, _]) eX7_carry_31 (Nat.le_of_ble_eq_true rfl) rfl ?_
    refine sL_X7_carry_33 (fun w1 w2 w3 w4 w5 w6 h7 q => ?_) _ _ _ _ _ _ _ _ q
    refine r_iinc (v := (1)) (lv' := [_, _, _, _, _, _, _, _, _, _, _, _]) eX7_carry_172 rfl (by decide) rfl ?_
    refine r_goto (t := 3) eX7_carry_175 (by decide) ?_
    exact ih _ _ _ _ _ _ _ _ _ q
theorem s_X7_carry {E : Ev} {d : Nat} {a0 : Nat} {x1 : Int32} {x2 : Int64} {h : Hp} {Φ : Ou → Hp → Prop} (q : OK (F_X7_carry E a0 x1 x2 h) Φ) : CE E mX7_carry (d + 1) [.ref a0, .int x1, .long x2] h 0 0 Φ := by
  show WE E mX7_carry (d + 1) 0 [some (.ref a0), some (.int x1), some (.long x2), none, none, none, none, none, none, none, none, none] [] h 0 0 Φ
  refine r_iconst (v := (0)) eX7_carry_0 (by decide) ?_
  refine r_istore (lv' := [_, _, _, _, _, _, _, _, _, _, _, _]) eX7_carry_1 (Nat.le_of_ble_eq_true rfl) rfl ?_
  exact sL_X7_carry_3  _ _ _ _ _ _ _ _ _ _ q
theorem sL_X7_go_5 {E : Ev} {d kc ks : Nat} {Φ : Ou → Hp → Prop} {y0 : Nat} {K37 : Hp → Rs} (hK37 : ∀ (w1 : Int32) (h : Hp), OK (K37 h) Φ → WE E mX7_go (d + 3) 37 [some (.ref y0), some (.int w1), none] [] h kc ks Φ) : ∀ (g : Nat) (y1 : Int32) (h : Hp), OK (L_X7_go_5 E K37 y0 g y1 h) Φ → WE E mX7_go (d + 3) 5 [some (.ref y0), some (.int y1), none] [] h kc ks Φ := by
  intro g
  induction g with
  | zero => intro y1 h q; exact q.elim
  | succ g ih =>
    intro y1 h q
    refine r_iload_n eX7_go_5 rfl ?_
    refine r_aload_n eX7_go_6 rfl ?_
    refine t_gfI eX7_go_7 f_7_39 q (fun v7 q => ?_)
    refine t_icmp_ge eX7_go_10 (t := 37) (by decide) q (fun q => ?_) (fun q => ?_)
    · exact hK37 _ _ q
    refine r_aload_n eX7_go_13 rfl ?_
    refine r_aload_n eX7_go_14 rfl ?_
    refine t_gfR eX7_go_15 f_7_28 q (fun v15 q => ?_)
    refine r_aload_n eX7_go_18 rfl ?_
    refine t_gfR eX7_go_19 f_7_25 q (fun v19 q => ?_)
    refine r_iload_n eX7_go_22 rfl ?_
    refine t_gaI eX7_go_23 q (fun v23 q => ?_)
    refine t_virtI (As := [_]) (rest := [_]) (d' := d + 0 + 2) (ci := 10) eX7_go_24 k_7_46 rfl rfl rfl (by omega) (Nat.le_of_ble_eq_true rfl) (Nat.le_of_ble_eq_true rfl) (fun _ q => s_X10_look q) q (fun v24 h24 q => ?_)
    refine r_lconst (v := 1) eX7_go_27 rfl ?_
    refine t_virtV (As := [_, _]) (rest := []) (d' := d + 1 + 1) (ci := 7) eX7_go_28 k_7_52 rfl rfl rfl (by omega) (Nat.le_of_ble_eq_true rfl) (Nat.le_of_ble_eq_true rfl) (fun _ q => s_X7_carry q) q (fun h28 q => ?_)
    refine r_iinc (v := (1)) (lv' := [_, _, _]) eX7_go_31 rfl (by decide) rfl ?_
    refine r_goto (t := 5) eX7_go_34 (by decide) ?_
    exact ih _ _ q
theorem sL_X7_go_44 {E : Ev} {d kc ks : Nat} {Φ : Ou → Hp → Prop} {y0 : Nat} {K88 : Hp → Rs} (hK88 : ∀ (w1 : Int32) (h : Hp), OK (K88 h) Φ → WE E mX7_go (d + 3) 88 [some (.ref y0), some (.int w1), none] [] h kc ks Φ) : ∀ (g : Nat) (y1 : Int32) (h : Hp), OK (L_X7_go_44 E K88 y0 g y1 h) Φ → WE E mX7_go (d + 3) 44 [some (.ref y0), some (.int y1), none] [] h kc ks Φ := by
  intro g
  induction g with
  | zero => intro y1 h q; exact q.elim
  | succ g ih =>
    intro y1 h q
    refine r_iload_n eX7_go_44 rfl ?_
    refine r_aload_n eX7_go_45 rfl ?_
    refine t_gfI eX7_go_46 f_7_56 q (fun v46 q => ?_)
    refine t_icmp_ge eX7_go_49 (t := 88) (by decide) q (fun q => ?_) (fun q => ?_)
    · exact hK88 _ _ q
    refine r_aload_n eX7_go_52 rfl ?_
    refine r_aload_n eX7_go_53 rfl ?_
    refine t_gfR eX7_go_54 f_7_28 q (fun v54 q => ?_)
    refine r_iconst (v := (2)) eX7_go_57 (by decide) ?_
    refine r_aload_n eX7_go_58 rfl ?_
    refine t_gfR eX7_go_59 f_7_9 q (fun v59 q => ?_)
    refine r_iload_n eX7_go_62 rfl ?_
    refine t_gaI eX7_go_63 q (fun v63 q => ?_)
    refine r_imul eX7_go_64 ?_
    refine t_virtI (As := [_]) (rest := [_]) (d' := d + 0 + 2) (ci := 10) eX7_go_65 k_7_46 rfl rfl rfl (by omega) (Nat.le_of_ble_eq_true rfl) (Nat.le_of_ble_eq_true rfl) (fun _ q => s_X10_look q) q (fun v65 h65 q => ?_)
    refine r_aload_n eX7_go_68 rfl ?_
    refine t_gfR eX7_go_69 f_7_15 q (fun v69 q => ?_)
    refine r_aload_n eX7_go_72 rfl ?_
    refine t_gfR eX7_go_73 f_7_9 q (fun v73 q => ?_)
    refine r_iload_n eX7_go_76 rfl ?_
    refine t_gaI eX7_go_77 q (fun v77 q => ?_)
    refine t_gaL eX7_go_78 q (fun v78 q => ?_)
    refine t_virtV (As := [_, _]) (rest := []) (d' := d + 1 + 1) (ci := 7) eX7_go_79 k_7_52 rfl rfl rfl (by omega) (Nat.le_of_ble_eq_true rfl) (Nat.le_of_ble_eq_true rfl) (fun _ q => s_X7_carry q) q (fun h79 q => ?_)
    refine r_iinc (v := (1)) (lv' := [_, _, _]) eX7_go_82 rfl (by decide) rfl ?_
    refine r_goto (t := 44) eX7_go_85 (by decide) ?_
    exact ih _ _ q
theorem s_X7_go {E : Ev} {d : Nat} {a0 : Nat} {h : Hp} {Φ : Ou → Hp → Prop} (q : OK (F_X7_go E a0 h) Φ) : CE E mX7_go (d + 3) [.ref a0] h 0 0 Φ := by
  show WE E mX7_go (d + 3) 0 [some (.ref a0), none, none] [] h 0 0 Φ
  refine r_aload_n eX7_go_0 rfl ?_
  refine t_gfI eX7_go_1 f_7_35 q (fun v1 q => ?_)
  refine r_istore_n (lv' := [_, _, _]) eX7_go_4 (Nat.le_of_ble_eq_true rfl) rfl ?_
  refine sL_X7_go_5 (fun w1 h2 q => ?_) _ _ _ q
  refine r_aload_n eX7_go_37 rfl ?_
  refine r_iconst (v := (0)) eX7_go_38 (by decide) ?_
  refine t_pf eX7_go_39 p_7_39 rfl rfl (fun q => by cases q) q (fun h39 q => ?_)
  refine r_iconst (v := (0)) eX7_go_42 (by decide) ?_
  refine r_istore_n (lv' := [_, _, _]) eX7_go_43 (Nat.le_of_ble_eq_true rfl) rfl ?_
  refine sL_X7_go_44 (fun w3 h4 q => ?_) _ _ _ q
  refine r_aload_n eX7_go_88 rfl ?_
  refine t_virtV (As := []) (rest := []) (d' := d + 2 + 0) (ci := 7) eX7_go_89 k_7_32 rfl rfl rfl (by omega) (Nat.le_of_ble_eq_true rfl) (Nat.le_of_ble_eq_true rfl) (fun _ q => s_X7_clearNow q) q (fun h89 q => ?_)
  refine r_aload_n eX7_go_92 rfl ?_
  refine t_gfR eX7_go_93 f_7_9 q (fun v93 q => ?_)
  refine r_astore_n (lv' := [_, _, _]) eX7_go_96 (Nat.le_of_ble_eq_true rfl) rfl ?_
  refine r_aload_n eX7_go_97 rfl ?_
  refine t_gfR eX7_go_98 f_7_15 q (fun v98 q => ?_)
  refine r_astore_n (lv' := [_, _, _]) eX7_go_101 (Nat.le_of_ble_eq_true rfl) rfl ?_
  refine r_aload_n eX7_go_102 rfl ?_
  refine r_aload_n eX7_go_103 rfl ?_
  refine t_gfR eX7_go_104 f_7_19 q (fun v104 q => ?_)
  refine t_pf eX7_go_107 p_7_9 rfl rfl (fun q => by cases q) q (fun h107 q => ?_)
  refine r_aload_n eX7_go_110 rfl ?_
  refine r_aload_n eX7_go_111 rfl ?_
  refine t_gfR eX7_go_112 f_7_22 q (fun v112 q => ?_)
  refine t_pf eX7_go_115 p_7_15 rfl rfl (fun q => by cases q) q (fun h115 q => ?_)
  refine r_aload_n eX7_go_118 rfl ?_
  refine r_aload_n eX7_go_119 rfl ?_
  refine t_gfI eX7_go_120 f_7_59 q (fun v120 q => ?_)
  refine t_pf eX7_go_123 p_7_56 rfl rfl (fun q => by cases q) q (fun h123 q => ?_)
  refine r_aload_n eX7_go_126 rfl ?_
  refine r_aload_n eX7_go_127 rfl ?_
  refine t_pf eX7_go_128 p_7_19 rfl rfl (fun q => by cases q) q (fun h128 q => ?_)
  refine r_aload_n eX7_go_131 rfl ?_
  refine r_aload_n eX7_go_132 rfl ?_
  refine t_pf eX7_go_133 p_7_22 rfl rfl (fun q => by cases q) q (fun h133 q => ?_)
  refine r_aload_n eX7_go_136 rfl ?_
  refine r_iconst (v := (0)) eX7_go_137 (by decide) ?_
  refine t_pf eX7_go_138 p_7_59 rfl rfl (fun q => by cases q) q (fun h138 q => ?_)
  refine r_aload_n eX7_go_141 rfl ?_
  refine t_gfI eX7_go_142 f_7_56 q (fun v142 q => ?_)
  refine t_if_le eX7_go_145 (t := 152) (by decide) q (fun q => ?_) (fun q => ?_)
  · refine r_iconst (v := (0)) eX7_go_152 (by decide) ?_
    exact t_rtZ eX7_go_153 rfl q
  refine r_iconst (v := (1)) eX7_go_148 (by decide) ?_
  refine r_goto (t := 153) eX7_go_149 (by decide) ?_
  exact t_rtZ eX7_go_153 rfl q
theorem sL_X9_goFar_69 {E : Ev} {d kc ks : Nat} {Φ : Ou → Hp → Prop} {y0 : Nat} {y1 : Int32} {y2 : Nat} {y3 : Int32} {y4 : Nat} {y5 : Int64} {y7 : Int64} {y9 : Int32} {K126 : Hp → Rs} (hK126 : ∀ (w10 : Int32) (w11 : Option Value) (h : Hp), OK (K126 h) Φ → WE E mX9_goFar (d + 4) 126 [some (.ref y0), some (.int y1), some (.ref y2), some (.int y3), some (.ref y4), some (.long y5), none, some (.long y7), none, some (.int y9), some (.int w10), w11] [] h kc ks Φ) : ∀ (g : Nat) (y10 : Int32) (y11 : Option Value) (h : Hp), OK (L_X9_goFar_69 E K126 y0 y4 y7 g y10 h) Φ → WE E mX9_goFar (d + 4) 69 [some (.ref y0), some (.int y1), some (.ref y2), some (.int y3), some (.ref y4), some (.long y5), none, some (.long y7), none, some (.int y9), some (.int y10), y11] [] h kc ks Φ := by
  intro g
  induction g with
  | zero => intro y10 y11 h q; exact q.elim
  | succ g ih =>
    intro y10 y11 h q
    refine r_iload eX9_goFar_69 rfl ?_
    refine r_aload_n eX9_goFar_71 rfl ?_
    refine t_gfR eX9_goFar_72 f_9_49 q (fun v72 q => ?_)
    refine t_gfI eX9_goFar_75 f_9_126 q (fun v75 q => ?_)
    refine t_icmp_ge eX9_goFar_78 (t := 126) (by decide) q (fun q => ?_) (fun q => ?_)
    · exact hK126 _ _ _ q
    refine r_aload_n eX9_goFar_81 rfl ?_
    refine t_gfR eX9_goFar_82 f_9_49 q (fun v82 q => ?_)
    refine t_gfR eX9_goFar_85 f_9_129 q (fun v85 q => ?_)
    refine r_iload eX9_goFar_88 rfl ?_
    refine t_gaI eX9_goFar_90 q (fun v90 q => ?_)
    refine r_istore (lv' := [_, _, _, _, _, _, _, _, _, _, _, _]) eX9_goFar_91 (Nat.le_of_ble_eq_true rfl) rfl ?_
    refine r_aload_n eX9_goFar_93 rfl ?_
    refine t_gfR eX9_goFar_94 f_9_49 q (fun v94 q => ?_)
    refine t_gfR eX9_goFar_97 f_9_149 q (fun v97 q => ?_)
    refine r_iload eX9_goFar_100 rfl ?_
    refine t_gaL eX9_goFar_102 q (fun v102 q => ?_)
    refine r_lload eX9_goFar_103 rfl ?_
    refine r_land eX9_goFar_105 ?_
    refine r_lconst (v := 0) eX9_goFar_106 rfl ?_
    refine t_lc_eq eX9_goFar_107 eX9_goFar_108 (t := 120) (by decide) q (fun q => ?_) (fun q => ?_)
    · refine r_iinc (v := (1)) (lv' := [_, _, _, _, _, _, _, _, _, _, _, _]) eX9_goFar_120 rfl (by decide) rfl ?_
      refine r_goto (t := 69) eX9_goFar_123 (by decide) ?_
      exact ih _ _ _ q
    refine r_aload eX9_goFar_111 rfl ?_
    refine r_iconst (v := (2)) eX9_goFar_113 (by decide) ?_
    refine r_iload eX9_goFar_114 rfl ?_
    refine r_imul eX9_goFar_116 ?_
    refine t_virtV (As := [_]) (rest := []) (d' := d + 3 + 0) (ci := 6) eX9_goFar_117 k_9_132 rfl rfl rfl (by omega) (Nat.le_of_ble_eq_true rfl) (Nat.le_of_ble_eq_true rfl) (fun _ q => s_X6_add q) q (fun h117 q => ?_)
    refine r_iinc (v := (1)) (lv' := [_, _, _, _, _, _, _, _, _, _, _, _]) eX9_goFar_120 rfl (by decide) rfl ?_
    refine r_goto (t := 69) eX9_goFar_123 (by decide) ?_
    exact ih _ _ _ q
theorem sL_X9_goFar_39 {E : Ev} {d kc ks : Nat} {Φ : Ou → Hp → Prop} {y0 : Nat} {y1 : Int32} {y2 : Nat} {y3 : Int32} {y4 : Nat} {y5 : Int64} {y7 : Int64}  : ∀ (g : Nat) (y9 : Int32) (y10 : Option Value) (y11 : Option Value) (h : Hp), OK (L_X9_goFar_39 E y0 y4 y7 g y9 h) Φ → WE E mX9_goFar (d + 4) 39 [some (.ref y0), some (.int y1), some (.ref y2), some (.int y3), some (.ref y4), some (.long y5), none, some (.long y7), none, some (.int y9), y10, y11] [] h kc ks Φ := by
  intro g
  induction g with
  | zero => intro y9 y10 y11 h q; exact q.elim
  | succ g ih =>
    intro y9 y10 y11 h q
    refine r_iload eX9_goFar_39 rfl ?_
    refine r_aload_n eX9_goFar_41 rfl ?_
    refine t_gfR eX9_goFar_42 f_9_36 q (fun v42 q => ?_)
    refine t_gfR eX9_goFar_45 f_9_119 q (fun v45 q => ?_)
    refine r_aload_n eX9_goFar_48 rfl ?_
    refine t_gfI eX9_goFar_49 f_9_65 q (fun v49 q => ?_)
    refine t_gaI eX9_goFar_52 q (fun v52 q => ?_)
    refine t_icmp_ge eX9_goFar_53 (t := 132) (by decide) q (fun q => ?_) (fun q => ?_)
    · exact t_rtV eX9_goFar_132 rfl q
    refine r_aload_n eX9_goFar_56 rfl ?_
    refine t_gfR eX9_goFar_57 f_9_49 q (fun v57 q => ?_)
    refine t_virtI (As := []) (rest := []) (d' := d + 0 + 3) (ci := 7) eX9_goFar_60 k_9_122 rfl rfl rfl (by omega) (Nat.le_of_ble_eq_true rfl) (Nat.le_of_ble_eq_true rfl) (fun _ q => s_X7_go q) q (fun v60 h60 q => ?_)
    refine t_if_eq eX9_goFar_63 (t := 132) (by decide) q (fun q => ?_) (fun q => ?_)
    · exact t_rtV eX9_goFar_132 rfl q
    refine r_iconst (v := (0)) eX9_goFar_66 (by decide) ?_
    refine r_istore (lv' := [_, _, _, _, _, _, _, _, _, _, _, _]) eX9_goFar_67 (Nat.le_of_ble_eq_true rfl) rfl ?_
    refine sL_X9_goFar_69 (fun w1 w2 h3 q => ?_) _ _ _ _ q
    refine r_iinc (v := (1)) (lv' := [_, _, _, _, _, _, _, _, _, _, _, _]) eX9_goFar_126 rfl (by decide) rfl ?_
    refine r_goto (t := 39) eX9_goFar_129 (by decide) ?_
    exact ih _ _ _ _ q
theorem s_X9_goFar {E : Ev} {d : Nat} {a0 : Nat} {x1 : Int32} {a2 : Nat} {x3 : Int32} {a4 : Nat} {h : Hp} {Φ : Ou → Hp → Prop} (q : OK (F_X9_goFar E a0 x1 a2 x3 a4 h) Φ) : CE E mX9_goFar (d + 4) [.ref a0, .int x1, .ref a2, .int x3, .ref a4] h 0 0 Φ := by
  show WE E mX9_goFar (d + 4) 0 [some (.ref a0), some (.int x1), some (.ref a2), some (.int x3), some (.ref a4), none, none, none, none, none, none, none] [] h 0 0 Φ
  refine r_lconst (v := 1) eX9_goFar_0 rfl ?_
  refine r_iconst (v := (2)) eX9_goFar_1 (by decide) ?_
  refine r_iload_n eX9_goFar_2 rfl ?_
  refine r_imul eX9_goFar_3 ?_
  refine r_iconst (v := (1)) eX9_goFar_4 (by decide) ?_
  refine r_iadd eX9_goFar_5 ?_
  refine r_lshl eX9_goFar_6 ?_
  refine r_lconst (v := 1) eX9_goFar_7 rfl ?_
  refine r_lsub eX9_goFar_8 ?_
  replace q := OK_lt q
  refine r_lstore (lv' := [_, _, _, _, _, _, _, _, _, _, _, _]) eX9_goFar_9 (Nat.le_of_ble_eq_true rfl) rfl ?_
  refine r_lload eX9_goFar_11 rfl ?_
  refine r_lconst (v := 1) eX9_goFar_13 rfl ?_
  refine r_iload_n eX9_goFar_14 rfl ?_
  refine r_iconst (v := (1)) eX9_goFar_15 (by decide) ?_
  refine r_iadd eX9_goFar_16 ?_
  refine r_iconst (v := (2)) eX9_goFar_17 (by decide) ?_
  refine t_dvI eX9_goFar_18 q (fun v18 q => ?_)
  refine r_lshl eX9_goFar_19 ?_
  refine r_lneg eX9_goFar_20 ?_
  refine r_land eX9_goFar_21 ?_
  replace q := OK_lt q
  refine r_lstore (lv' := [_, _, _, _, _, _, _, _, _, _, _, _]) eX9_goFar_22 (Nat.le_of_ble_eq_true rfl) rfl ?_
  refine r_aload_n eX9_goFar_24 rfl ?_
  refine t_gfR eX9_goFar_25 f_9_49 q (fun v25 q => ?_)
  refine r_aload_n eX9_goFar_28 rfl ?_
  refine r_iconst (v := (0)) eX9_goFar_29 (by decide) ?_
  refine r_iload_n eX9_goFar_30 rfl ?_
  refine r_lload eX9_goFar_31 rfl ?_
  refine t_virtV (As := [_, _, _, _]) (rest := []) (d' := d + 2 + 1) (ci := 7) eX9_goFar_33 k_9_107 rfl rfl rfl (by omega) (Nat.le_of_ble_eq_true rfl) (Nat.le_of_ble_eq_true rfl) (fun _ q => s_X7_begin q) q (fun h33 q => ?_)
  refine r_iconst (v := (0)) eX9_goFar_36 (by decide) ?_
  refine r_istore (lv' := [_, _, _, _, _, _, _, _, _, _, _, _]) eX9_goFar_37 (Nat.le_of_ble_eq_true rfl) rfl ?_
  exact sL_X9_goFar_39  _ _ _ _ _ q
theorem sL_X9_goTimes_31 {E : Ev} {d kc ks : Nat} {Φ : Ou → Hp → Prop} {y0 : Nat} {y1 : Int32} {y2 : Nat} {y3 : Int32} {y4 : Nat} {K53 : Hp → Rs} (hK53 : ∀ (w5 : Int32) (h : Hp), OK (K53 h) Φ → WE E mX9_goTimes (d + 4) 53 [some (.ref y0), some (.int y1), some (.ref y2), some (.int y3), some (.ref y4), some (.int w5), none] [] h kc ks Φ) : ∀ (g : Nat) (y5 : Int32) (h : Hp), OK (L_X9_goTimes_31 E K53 y0 y1 g y5 h) Φ → WE E mX9_goTimes (d + 4) 31 [some (.ref y0), some (.int y1), some (.ref y2), some (.int y3), some (.ref y4), some (.int y5), none] [] h kc ks Φ := by
  intro g
  induction g with
  | zero => intro y5 h q; exact q.elim
  | succ g ih =>
    intro y5 h q
    refine r_iload eX9_goTimes_31 rfl ?_
    refine r_iload_n eX9_goTimes_33 rfl ?_
    refine t_icmp_ge eX9_goTimes_34 (t := 53) (by decide) q (fun q => ?_) (fun q => ?_)
    · exact hK53 _ _ q
    refine r_aload_n eX9_goTimes_37 rfl ?_
    refine t_gfR eX9_goTimes_38 f_9_49 q (fun v38 q => ?_)
    refine t_virtI (As := []) (rest := []) (d' := d + 0 + 3) (ci := 7) eX9_goTimes_41 k_9_122 rfl rfl rfl (by omega) (Nat.le_of_ble_eq_true rfl) (Nat.le_of_ble_eq_true rfl) (fun _ q => s_X7_go q) q (fun v41 h41 q => ?_)
    refine t_if_eq eX9_goTimes_44 (t := 53) (by decide) q (fun q => ?_) (fun q => ?_)
    · exact hK53 _ _ q
    refine r_iinc (v := (1)) (lv' := [_, _, _, _, _, _, _]) eX9_goTimes_47 rfl (by decide) rfl ?_
    refine r_goto (t := 31) eX9_goTimes_50 (by decide) ?_
    exact ih _ _ q
theorem sL_X9_goTimes_56 {E : Ev} {d kc ks : Nat} {Φ : Ou → Hp → Prop} {y0 : Nat} {y1 : Int32} {y2 : Nat} {y3 : Int32} {y4 : Nat} {y5 : Int32}  : ∀ (g : Nat) (y6 : Int32) (h : Hp), OK (L_X9_goTimes_56 E y0 y4 g y6 h) Φ → WE E mX9_goTimes (d + 4) 56 [some (.ref y0), some (.int y1), some (.ref y2), some (.int y3), some (.ref y4), some (.int y5), some (.int y6)] [] h kc ks Φ := by
  intro g
  induction g with
  | zero => intro y6 h q; exact q.elim
  | succ g ih =>
    intro y6 h q
    refine r_iload eX9_goTimes_56 rfl ?_
    refine r_aload_n eX9_goTimes_58 rfl ?_
    refine t_gfR eX9_goTimes_59 f_9_49 q (fun v59 q => ?_)
    refine t_gfI eX9_goTimes_62 f_9_126 q (fun v62 q => ?_)
    refine t_icmp_ge eX9_goTimes_65 (t := 91) (by decide) q (fun q => ?_) (fun q => ?_)
    · exact t_rtV eX9_goTimes_91 rfl q
    refine r_aload eX9_goTimes_68 rfl ?_
    refine r_iconst (v := (2)) eX9_goTimes_70 (by decide) ?_
    refine r_aload_n eX9_goTimes_71 rfl ?_
    refine t_gfR eX9_goTimes_72 f_9_49 q (fun v72 q => ?_)
    refine t_gfR eX9_goTimes_75 f_9_129 q (fun v75 q => ?_)
    refine r_iload eX9_goTimes_78 rfl ?_
    refine t_gaI eX9_goTimes_80 q (fun v80 q => ?_)
    refine r_imul eX9_goTimes_81 ?_
    refine t_virtV (As := [_]) (rest := []) (d' := d + 3 + 0) (ci := 6) eX9_goTimes_82 k_9_132 rfl rfl rfl (by omega) (Nat.le_of_ble_eq_true rfl) (Nat.le_of_ble_eq_true rfl) (fun _ q => s_X6_add q) q (fun h82 q => ?_)
    refine r_iinc (v := (1)) (lv' := [_, _, _, _, _, _, _]) eX9_goTimes_85 rfl (by decide) rfl ?_
    refine r_goto (t := 56) eX9_goTimes_88 (by decide) ?_
    exact ih _ _ q
theorem s_X9_goTimes {E : Ev} {d : Nat} {a0 : Nat} {x1 : Int32} {a2 : Nat} {x3 : Int32} {a4 : Nat} {h : Hp} {Φ : Ou → Hp → Prop} (q : OK (F_X9_goTimes E a0 x1 a2 x3 a4 h) Φ) : CE E mX9_goTimes (d + 4) [.ref a0, .int x1, .ref a2, .int x3, .ref a4] h 0 0 Φ := by
  show WE E mX9_goTimes (d + 4) 0 [some (.ref a0), some (.int x1), some (.ref a2), some (.int x3), some (.ref a4), none, none] [] h 0 0 Φ
  refine r_iload_n eX9_goTimes_0 rfl ?_
  refine r_aload_n eX9_goTimes_1 rfl ?_
  refine t_gfR eX9_goTimes_2 f_9_36 q (fun v2 q => ?_)
  refine t_gfR eX9_goTimes_5 f_9_119 q (fun v5 q => ?_)
  refine r_aload_n eX9_goTimes_8 rfl ?_
  refine t_gfI eX9_goTimes_9 f_9_65 q (fun v9 q => ?_)
  refine t_gaI eX9_goTimes_12 q (fun v12 q => ?_)
  refine t_icmp_le eX9_goTimes_13 (t := 17) (by decide) q (fun q => ?_) (fun q => ?_)
  · refine r_aload_n eX9_goTimes_17 rfl ?_
    refine t_gfR eX9_goTimes_18 f_9_49 q (fun v18 q => ?_)
    refine r_aload_n eX9_goTimes_21 rfl ?_
    refine r_iconst (v := (0)) eX9_goTimes_22 (by decide) ?_
    refine r_iload_n eX9_goTimes_23 rfl ?_
    refine r_lconst (v := 0) eX9_goTimes_24 rfl ?_
    refine t_virtV (As := [_, _, _, _]) (rest := []) (d' := d + 2 + 1) (ci := 7) eX9_goTimes_25 k_9_107 rfl rfl rfl (by omega) (Nat.le_of_ble_eq_true rfl) (Nat.le_of_ble_eq_true rfl) (fun _ q => s_X7_begin q) q (fun h25 q => ?_)
    refine r_iconst (v := (0)) eX9_goTimes_28 (by decide) ?_
    refine r_istore (lv' := [_, _, _, _, _, _, _]) eX9_goTimes_29 (Nat.le_of_ble_eq_true rfl) rfl ?_
    refine sL_X9_goTimes_31 (fun w1 h2 q => ?_) _ _ _ q
    refine r_iconst (v := (0)) eX9_goTimes_53 (by decide) ?_
    refine r_istore (lv' := [_, _, _, _, _, _, _]) eX9_goTimes_54 (Nat.le_of_ble_eq_true rfl) rfl ?_
    exact sL_X9_goTimes_56  _ _ _ q
  exact t_rtV eX9_goTimes_16 rfl q
theorem s_X6_addArrows {E : Ev} {d : Nat} {a0 : Nat} {x1 : Int64} {x3 : Int64} {h : Hp} {Φ : Ou → Hp → Prop} (q : OK (F_X6_addArrows E a0 x1 x3 h) Φ) : CE E mX6_addArrows (d + 0) [.ref a0, .long x1, .long x3] h 0 0 Φ := by
  show WE E mX6_addArrows (d + 0) 0 [some (.ref a0), some (.long x1), none, some (.long x3), none] [] h 0 0 Φ
  refine r_aload_n eX6_addArrows_0 rfl ?_
  refine t_gfR eX6_addArrows_1 f_6_11 q (fun v1 q => ?_)
  refine r_iconst (v := (0)) eX6_addArrows_4 (by decide) ?_
  refine r_dup2 eX6_addArrows_5 rfl rfl ?_
  refine t_gaL eX6_addArrows_6 q (fun v6 q => ?_)
  refine r_lload_n eX6_addArrows_7 rfl ?_
  refine r_lor eX6_addArrows_8 ?_
  refine t_paL eX6_addArrows_9 q (fun h9 q => ?_)
  refine r_aload_n eX6_addArrows_10 rfl ?_
  refine t_gfR eX6_addArrows_11 f_6_11 q (fun v11 q => ?_)
  refine r_iconst (v := (1)) eX6_addArrows_14 (by decide) ?_
  refine r_dup2 eX6_addArrows_15 rfl rfl ?_
  refine t_gaL eX6_addArrows_16 q (fun v16 q => ?_)
  refine r_lload_n eX6_addArrows_17 rfl ?_
  refine r_lor eX6_addArrows_18 ?_
  refine t_paL eX6_addArrows_19 q (fun h19 q => ?_)
  exact t_rtV eX6_addArrows_20 rfl q
theorem sL_X9_goUntil_52 {E : Ev} {d kc ks : Nat} {Φ : Ou → Hp → Prop} {y0 : Nat} {y1 : Int64} {y3 : Nat} {y4 : Int32} {y5 : Int32} {y6 : Nat} {y7 : Int32} {K178 : Hp → Rs} (hK178 : ∀ (w8 : Int32) (w9 : Option Value) (w10 : Option Value) (h : Hp), OK (K178 h) Φ → WE E mX9_goUntil (d + 4) 178 [some (.ref y0), some (.long y1), none, some (.ref y3), some (.int y4), some (.int y5), some (.ref y6), some (.int y7), some (.int w8), w9, w10] [] h kc ks Φ) : ∀ (g : Nat) (y8 : Int32) (y9 : Option Value) (y10 : Option Value) (h : Hp), OK (L_X9_goUntil_52 E K178 y0 y1 y5 y6 g y8 h) Φ → WE E mX9_goUntil (d + 4) 52 [some (.ref y0), some (.long y1), none, some (.ref y3), some (.int y4), some (.int y5), some (.ref y6), some (.int y7), some (.int y8), y9, y10] [] h kc ks Φ := by
  intro g
  induction g with
  | zero => intro y8 y9 y10 h q; exact q.elim
  | succ g ih =>
    intro y8 y9 y10 h q
    refine r_iload eX9_goUntil_52 rfl ?_
    refine r_aload_n eX9_goUntil_54 rfl ?_
    refine t_gfR eX9_goUntil_55 f_9_49 q (fun v55 q => ?_)
    refine t_gfI eX9_goUntil_58 f_9_126 q (fun v58 q => ?_)
    refine t_icmp_ge eX9_goUntil_61 (t := 178) (by decide) q (fun q => ?_) (fun q => ?_)
    · exact hK178 _ _ _ _ q
    refine r_aload_n eX9_goUntil_64 rfl ?_
    refine t_gfR eX9_goUntil_65 f_9_49 q (fun v65 q => ?_)
    refine t_gfR eX9_goUntil_68 f_9_129 q (fun v68 q => ?_)
    refine r_iload eX9_goUntil_71 rfl ?_
    refine t_gaI eX9_goUntil_73 q (fun v73 q => ?_)
    refine r_istore (lv' := [_, _, _, _, _, _, _, _, _, _, _]) eX9_goUntil_74 (Nat.le_of_ble_eq_true rfl) rfl ?_
    refine r_lload_n eX9_goUntil_76 rfl ?_
    refine r_aload_n eX9_goUntil_77 rfl ?_
    refine t_gfR eX9_goUntil_78 f_9_32 q (fun v78 q => ?_)
    refine t_gfR eX9_goUntil_81 f_9_136 q (fun v81 q => ?_)
    refine t_gfR eX9_goUntil_84 f_9_140 q (fun v84 q => ?_)
    refine r_iconst (v := (2)) eX9_goUntil_87 (by decide) ?_
    refine r_iload eX9_goUntil_88 rfl ?_
    refine r_imul eX9_goUntil_90 ?_
    refine t_gaI eX9_goUntil_91 q (fun v91 q => ?_)
    refine t_statI (As := [_, _]) (rest := []) (d' := d + 3 + 0) eX9_goUntil_92 k_9_145 rfl (by omega) (Nat.le_of_ble_eq_true rfl) (Nat.le_of_ble_eq_true rfl) (fun _ q => s_X11_isIn q) q (fun v92 h92 q => ?_)
    refine t_if_ne eX9_goUntil_95 (t := 101) (by decide) q (fun q => ?_) (fun q => ?_)
    · refine r_aload_n eX9_goUntil_101 rfl ?_
      refine t_gfR eX9_goUntil_102 f_9_49 q (fun v102 q => ?_)
      refine t_gfR eX9_goUntil_105 f_9_149 q (fun v105 q => ?_)
      refine r_iload eX9_goUntil_108 rfl ?_
      refine r_lconst (v := 0) eX9_goUntil_110 rfl ?_
      refine t_paL eX9_goUntil_111 q (fun h111 q => ?_)
      refine r_iload eX9_goUntil_112 rfl ?_
      refine t_if_eq eX9_goUntil_114 (t := 163) (by decide) q (fun q => ?_) (fun q => ?_)
      · refine r_aload eX9_goUntil_163 rfl ?_
        refine r_iconst (v := (2)) eX9_goUntil_165 (by decide) ?_
        refine r_iload eX9_goUntil_166 rfl ?_
        refine r_imul eX9_goUntil_168 ?_
        refine t_virtV (As := [_]) (rest := []) (d' := d + 3 + 0) (ci := 6) eX9_goUntil_169 k_9_132 rfl rfl rfl (by omega) (Nat.le_of_ble_eq_true rfl) (Nat.le_of_ble_eq_true rfl) (fun _ q => s_X6_add q) q (fun h169 q => ?_)
        refine r_iinc (v := (1)) (lv' := [_, _, _, _, _, _, _, _, _, _, _]) eX9_goUntil_172 rfl (by decide) rfl ?_
        refine r_goto (t := 52) eX9_goUntil_175 (by decide) ?_
        exact ih _ _ _ _ q
      refine r_aload_n eX9_goUntil_117 rfl ?_
      refine t_gfR eX9_goUntil_118 f_9_32 q (fun v118 q => ?_)
      refine r_iconst (v := (2)) eX9_goUntil_121 (by decide) ?_
      refine r_iload eX9_goUntil_122 rfl ?_
      refine r_imul eX9_goUntil_124 ?_
      refine t_virtI (As := [_]) (rest := []) (d' := d + 1 + 2) (ci := 10) eX9_goUntil_125 k_9_152 rfl rfl rfl (by omega) (Nat.le_of_ble_eq_true rfl) (Nat.le_of_ble_eq_true rfl) (fun _ q => s_X10_look q) q (fun v125 h125 q => ?_)
      refine r_bipush (v := (6)) eX9_goUntil_128 (by decide) ?_
      refine r_iadd eX9_goUntil_130 ?_
      refine r_istore (lv' := [_, _, _, _, _, _, _, _, _, _, _]) eX9_goUntil_131 (Nat.le_of_ble_eq_true rfl) rfl ?_
      refine r_aload eX9_goUntil_133 rfl ?_
      refine r_aload_n eX9_goUntil_135 rfl ?_
      refine t_gfR eX9_goUntil_136 f_9_32 q (fun v136 q => ?_)
      refine t_gfR eX9_goUntil_139 f_9_156 q (fun v139 q => ?_)
      refine r_iload eX9_goUntil_142 rfl ?_
      refine t_gaL eX9_goUntil_144 q (fun v144 q => ?_)
      refine r_aload_n eX9_goUntil_145 rfl ?_
      refine t_gfR eX9_goUntil_146 f_9_32 q (fun v146 q => ?_)
      refine t_gfR eX9_goUntil_149 f_9_156 q (fun v149 q => ?_)
      refine r_iload eX9_goUntil_152 rfl ?_
      refine r_iconst (v := (1)) eX9_goUntil_154 (by decide) ?_
      refine r_iadd eX9_goUntil_155 ?_
      refine t_gaL eX9_goUntil_156 q (fun v156 q => ?_)
      refine t_virtV (As := [_, _]) (rest := []) (d' := d + 3 + 0) (ci := 6) eX9_goUntil_157 k_9_159 rfl rfl rfl (by omega) (Nat.le_of_ble_eq_true rfl) (Nat.le_of_ble_eq_true rfl) (fun _ q => s_X6_addArrows q) q (fun h157 q => ?_)
      refine r_goto (t := 172) eX9_goUntil_160 (by decide) ?_
      refine r_iinc (v := (1)) (lv' := [_, _, _, _, _, _, _, _, _, _, _]) eX9_goUntil_172 rfl (by decide) rfl ?_
      refine r_goto (t := 52) eX9_goUntil_175 (by decide) ?_
      exact ih _ _ _ _ q
    refine r_goto (t := 172) eX9_goUntil_98 (by decide) ?_
    refine r_iinc (v := (1)) (lv' := [_, _, _, _, _, _, _, _, _, _, _]) eX9_goUntil_172 rfl (by decide) rfl ?_
    refine r_goto (t := 52) eX9_goUntil_175 (by decide) ?_
    exact ih _ _ _ _ q
theorem sL_X9_goUntil_22 {E : Ev} {d kc ks : Nat} {Φ : Ou → Hp → Prop} {y0 : Nat} {y1 : Int64} {y3 : Nat} {y4 : Int32} {y5 : Int32} {y6 : Nat}  : ∀ (g : Nat) (y7 : Int32) (y8 : Option Value) (y9 : Option Value) (y10 : Option Value) (h : Hp), OK (L_X9_goUntil_22 E y0 y1 y5 y6 g y7 h) Φ → WE E mX9_goUntil (d + 4) 22 [some (.ref y0), some (.long y1), none, some (.ref y3), some (.int y4), some (.int y5), some (.ref y6), some (.int y7), y8, y9, y10] [] h kc ks Φ := by
  intro g
  induction g with
  | zero => intro y7 y8 y9 y10 h q; exact q.elim
  | succ g ih =>
    intro y7 y8 y9 y10 h q
    refine r_iload eX9_goUntil_22 rfl ?_
    refine r_aload_n eX9_goUntil_24 rfl ?_
    refine t_gfR eX9_goUntil_25 f_9_36 q (fun v25 q => ?_)
    refine t_gfR eX9_goUntil_28 f_9_119 q (fun v28 q => ?_)
    refine r_aload_n eX9_goUntil_31 rfl ?_
    refine t_gfI eX9_goUntil_32 f_9_65 q (fun v32 q => ?_)
    refine t_gaI eX9_goUntil_35 q (fun v35 q => ?_)
    refine t_icmp_ge eX9_goUntil_36 (t := 184) (by decide) q (fun q => ?_) (fun q => ?_)
    · exact t_rtV eX9_goUntil_184 rfl q
    refine r_aload_n eX9_goUntil_39 rfl ?_
    refine t_gfR eX9_goUntil_40 f_9_49 q (fun v40 q => ?_)
    refine t_virtI (As := []) (rest := []) (d' := d + 0 + 3) (ci := 7) eX9_goUntil_43 k_9_122 rfl rfl rfl (by omega) (Nat.le_of_ble_eq_true rfl) (Nat.le_of_ble_eq_true rfl) (fun _ q => s_X7_go q) q (fun v43 h43 q => ?_)
    refine t_if_eq eX9_goUntil_46 (t := 184) (by decide) q (fun q => ?_) (fun q => ?_)
    · exact t_rtV eX9_goUntil_184 rfl q
    refine r_iconst (v := (0)) eX9_goUntil_49 (by decide) ?_
    refine r_istore (lv' := [_, _, _, _, _, _, _, _, _, _, _]) eX9_goUntil_50 (Nat.le_of_ble_eq_true rfl) rfl ?_
    refine sL_X9_goUntil_52 (fun w1 w2 w3 h4 q => ?_) _ _ _ _ _ q
    refine r_iinc (v := (1)) (lv' := [_, _, _, _, _, _, _, _, _, _, _]) eX9_goUntil_178 rfl (by decide) rfl ?_
    refine r_goto (t := 22) eX9_goUntil_181 (by decide) ?_
    exact ih _ _ _ _ _ q
theorem s_X9_goUntil {E : Ev} {d : Nat} {a0 : Nat} {x1 : Int64} {a3 : Nat} {x4 : Int32} {x5 : Int32} {a6 : Nat} {h : Hp} {Φ : Ou → Hp → Prop} (q : OK (F_X9_goUntil E a0 x1 a3 x4 x5 a6 h) Φ) : CE E mX9_goUntil (d + 4) [.ref a0, .long x1, .ref a3, .int x4, .int x5, .ref a6] h 0 0 Φ := by
  show WE E mX9_goUntil (d + 4) 0 [some (.ref a0), some (.long x1), none, some (.ref a3), some (.int x4), some (.int x5), some (.ref a6), none, none, none, none] [] h 0 0 Φ
  refine r_lload_n eX9_goUntil_0 rfl ?_
  refine r_lconst (v := 0) eX9_goUntil_1 rfl ?_
  refine t_lc_ne eX9_goUntil_2 eX9_goUntil_3 (t := 7) (by decide) q (fun q => ?_) (fun q => ?_)
  · refine r_aload_n eX9_goUntil_7 rfl ?_
    refine t_gfR eX9_goUntil_8 f_9_49 q (fun v8 q => ?_)
    refine r_aload_n eX9_goUntil_11 rfl ?_
    refine r_iconst (v := (0)) eX9_goUntil_12 (by decide) ?_
    refine r_iload eX9_goUntil_13 rfl ?_
    refine r_lconst (v := 0) eX9_goUntil_15 rfl ?_
    refine t_virtV (As := [_, _, _, _]) (rest := []) (d' := d + 2 + 1) (ci := 7) eX9_goUntil_16 k_9_107 rfl rfl rfl (by omega) (Nat.le_of_ble_eq_true rfl) (Nat.le_of_ble_eq_true rfl) (fun _ q => s_X7_begin q) q (fun h16 q => ?_)
    refine r_iconst (v := (0)) eX9_goUntil_19 (by decide) ?_
    refine r_istore (lv' := [_, _, _, _, _, _, _, _, _, _, _]) eX9_goUntil_20 (Nat.le_of_ble_eq_true rfl) rfl ?_
    exact sL_X9_goUntil_22  _ _ _ _ _ _ q
  exact t_rtV eX9_goUntil_6 rfl q
theorem s_X9_placesWith {E : Ev} {d : Nat} {a0 : Nat} {x1 : Int32} {h : Hp} {Φ : Ou → Hp → Prop} (q : OK (F_X9_placesWith E a0 x1 h) Φ) : CE E mX9_placesWith (d + 0) [.ref a0, .int x1] h 0 0 Φ := by
  show WE E mX9_placesWith (d + 0) 0 [some (.ref a0), some (.int x1)] [] h 0 0 Φ
  refine r_aload_n eX9_placesWith_0 rfl ?_
  refine t_gfR eX9_placesWith_1 f_9_15 q (fun v1 q => ?_)
  refine r_aload_n eX9_placesWith_4 rfl ?_
  refine t_gfI eX9_placesWith_5 f_9_65 q (fun v5 q => ?_)
  refine r_bipush (v := (12)) eX9_placesWith_8 (by decide) ?_
  refine r_imul eX9_placesWith_10 ?_
  refine r_iload_n eX9_placesWith_11 rfl ?_
  refine r_iadd eX9_placesWith_12 ?_
  refine t_gaL eX9_placesWith_13 q (fun v13 q => ?_)
  exact t_rtL eX9_placesWith_14 rfl q
theorem sL_X10_placesWith_5 {E : Ev} {d kc ks : Nat} {Φ : Ou → Hp → Prop} {y0 : Nat} {y1 : Int32}  : ∀ (g : Nat) (y2 : Int64) (y4 : Int32) (h : Hp), OK (L_X10_placesWith_5 E y0 y1 g y2 y4 h) Φ → WE E mX10_placesWith (d + 1) 5 [some (.ref y0), some (.int y1), some (.long y2), none, some (.int y4)] [] h kc ks Φ := by
  intro g
  induction g with
  | zero => intro y2 y4 h q; exact q.elim
  | succ g ih =>
    intro y2 y4 h q
    refine r_iload eX10_placesWith_5 rfl ?_
    refine r_bipush (v := (12)) eX10_placesWith_7 (by decide) ?_
    refine t_icmp_ge eX10_placesWith_9 (t := 38) (by decide) q (fun q => ?_) (fun q => ?_)
    · refine r_lload_n eX10_placesWith_38 rfl ?_
      exact t_rtL eX10_placesWith_39 rfl q
    refine r_iload_n eX10_placesWith_12 rfl ?_
    refine r_i2l eX10_placesWith_13 ?_
    refine r_iload eX10_placesWith_14 rfl ?_
    refine t_statI (As := [_, _]) (rest := []) (d' := d + 0 + 0) eX10_placesWith_16 k_10_104 rfl (by omega) (Nat.le_of_ble_eq_true rfl) (Nat.le_of_ble_eq_true rfl) (fun _ q => s_X11_isIn q) q (fun v16 h16 q => ?_)
    refine t_if_eq eX10_placesWith_19 (t := 32) (by decide) q (fun q => ?_) (fun q => ?_)
    · refine r_iinc (v := (1)) (lv' := [_, _, _, _, _]) eX10_placesWith_32 rfl (by decide) rfl ?_
      refine r_goto (t := 5) eX10_placesWith_35 (by decide) ?_
      exact ih _ _ _ q
    refine r_lload_n eX10_placesWith_22 rfl ?_
    refine r_aload_n eX10_placesWith_23 rfl ?_
    refine t_gfR eX10_placesWith_24 f_10_32 q (fun v24 q => ?_)
    refine r_iload eX10_placesWith_27 rfl ?_
    refine t_gaL eX10_placesWith_29 q (fun v29 q => ?_)
    refine r_lor eX10_placesWith_30 ?_
    refine r_lstore_n (lv' := [_, _, _, _, _]) eX10_placesWith_31 (Nat.le_of_ble_eq_true rfl) rfl ?_
    refine r_iinc (v := (1)) (lv' := [_, _, _, _, _]) eX10_placesWith_32 rfl (by decide) rfl ?_
    refine r_goto (t := 5) eX10_placesWith_35 (by decide) ?_
    exact ih _ _ _ q
theorem s_X10_placesWith {E : Ev} {d : Nat} {a0 : Nat} {x1 : Int32} {h : Hp} {Φ : Ou → Hp → Prop} (q : OK (F_X10_placesWith E a0 x1 h) Φ) : CE E mX10_placesWith (d + 1) [.ref a0, .int x1] h 0 0 Φ := by
  show WE E mX10_placesWith (d + 1) 0 [some (.ref a0), some (.int x1), none, none, none] [] h 0 0 Φ
  refine r_lconst (v := 0) eX10_placesWith_0 rfl ?_
  refine r_lstore_n (lv' := [_, _, _, _, _]) eX10_placesWith_1 (Nat.le_of_ble_eq_true rfl) rfl ?_
  refine r_iconst (v := (0)) eX10_placesWith_2 (by decide) ?_
  refine r_istore (lv' := [_, _, _, _, _]) eX10_placesWith_3 (Nat.le_of_ble_eq_true rfl) rfl ?_
  exact sL_X10_placesWith_5  _ _ _ _ q
theorem sL_X10_seenPlaces_5 {E : Ev} {d kc ks : Nat} {Φ : Ou → Hp → Prop} {y0 : Nat} {y1 : Int32} {K38 : Int64 → Hp → Rs} (hK38 : ∀ (w2 : Int64) (w4 : Int32) (h : Hp), OK (K38 w2 h) Φ → WE E mX10_seenPlaces (d + 2) 38 [some (.ref y0), some (.int y1), some (.long w2), none, some (.int w4), none, none] [] h kc ks Φ) : ∀ (g : Nat) (y2 : Int64) (y4 : Int32) (h : Hp), OK (L_X10_seenPlaces_5 E K38 y0 y1 g y2 y4 h) Φ → WE E mX10_seenPlaces (d + 2) 5 [some (.ref y0), some (.int y1), some (.long y2), none, some (.int y4), none, none] [] h kc ks Φ := by
  intro g
  induction g with
  | zero => intro y2 y4 h q; exact q.elim
  | succ g ih =>
    intro y2 y4 h q
    refine r_iload eX10_seenPlaces_5 rfl ?_
    refine r_bipush (v := (12)) eX10_seenPlaces_7 (by decide) ?_
    refine t_icmp_ge eX10_seenPlaces_9 (t := 38) (by decide) q (fun q => ?_) (fun q => ?_)
    · exact hK38 _ _ _ q
    refine r_iload_n eX10_seenPlaces_12 rfl ?_
    refine r_i2l eX10_seenPlaces_13 ?_
    refine r_iload eX10_seenPlaces_14 rfl ?_
    refine t_statI (As := [_, _]) (rest := []) (d' := d + 1 + 0) eX10_seenPlaces_16 k_10_104 rfl (by omega) (Nat.le_of_ble_eq_true rfl) (Nat.le_of_ble_eq_true rfl) (fun _ q => s_X11_isIn q) q (fun v16 h16 q => ?_)
    refine t_if_eq eX10_seenPlaces_19 (t := 32) (by decide) q (fun q => ?_) (fun q => ?_)
    · refine r_iinc (v := (1)) (lv' := [_, _, _, _, _, _, _]) eX10_seenPlaces_32 rfl (by decide) rfl ?_
      refine r_goto (t := 5) eX10_seenPlaces_35 (by decide) ?_
      exact ih _ _ _ q
    refine r_lload_n eX10_seenPlaces_22 rfl ?_
    refine r_aload_n eX10_seenPlaces_23 rfl ?_
    refine t_gfR eX10_seenPlaces_24 f_10_35 q (fun v24 q => ?_)
    refine r_iload eX10_seenPlaces_27 rfl ?_
    refine t_gaL eX10_seenPlaces_29 q (fun v29 q => ?_)
    refine r_lor eX10_seenPlaces_30 ?_
    refine r_lstore_n (lv' := [_, _, _, _, _, _, _]) eX10_seenPlaces_31 (Nat.le_of_ble_eq_true rfl) rfl ?_
    refine r_iinc (v := (1)) (lv' := [_, _, _, _, _, _, _]) eX10_seenPlaces_32 rfl (by decide) rfl ?_
    refine r_goto (t := 5) eX10_seenPlaces_35 (by decide) ?_
    exact ih _ _ _ q
theorem sL_X10_seenPlaces_48 {E : Ev} {d kc ks : Nat} {Φ : Ou → Hp → Prop} {y0 : Nat} {y1 : Int32} {y2 : Int64}  : ∀ (g : Nat) (y4 : Int64) (y6 : Int32) (h : Hp), OK (L_X10_seenPlaces_48 E y0 y2 g y4 y6 h) Φ → WE E mX10_seenPlaces (d + 2) 48 [some (.ref y0), some (.int y1), some (.long y2), none, some (.long y4), none, some (.int y6)] [] h kc ks Φ := by
  intro g
  induction g with
  | zero => intro y4 y6 h q; exact q.elim
  | succ g ih =>
    intro y4 y6 h q
    refine r_iload eX10_seenPlaces_48 rfl ?_
    refine r_aload_n eX10_seenPlaces_50 rfl ?_
    refine t_gfR eX10_seenPlaces_51 f_10_45 q (fun v51 q => ?_)
    refine t_gfI eX10_seenPlaces_54 f_10_131 q (fun v54 q => ?_)
    refine t_icmp_ge eX10_seenPlaces_57 (t := 89) (by decide) q (fun q => ?_) (fun q => ?_)
    · refine r_lload eX10_seenPlaces_89 rfl ?_
      exact t_rtL eX10_seenPlaces_91 rfl q
    refine r_aload_n eX10_seenPlaces_60 rfl ?_
    refine t_gfR eX10_seenPlaces_61 f_10_29 q (fun v61 q => ?_)
    refine r_iload eX10_seenPlaces_64 rfl ?_
    refine t_gaL eX10_seenPlaces_66 q (fun v66 q => ?_)
    refine r_lload_n eX10_seenPlaces_67 rfl ?_
    refine r_land eX10_seenPlaces_68 ?_
    refine r_lconst (v := 0) eX10_seenPlaces_69 rfl ?_
    refine t_lc_eq eX10_seenPlaces_70 eX10_seenPlaces_71 (t := 83) (by decide) q (fun q => ?_) (fun q => ?_)
    · refine r_iinc (v := (1)) (lv' := [_, _, _, _, _, _, _]) eX10_seenPlaces_83 rfl (by decide) rfl ?_
      refine r_goto (t := 48) eX10_seenPlaces_86 (by decide) ?_
      exact ih _ _ _ q
    refine r_lload eX10_seenPlaces_74 rfl ?_
    refine r_lconst (v := 1) eX10_seenPlaces_76 rfl ?_
    refine r_iload eX10_seenPlaces_77 rfl ?_
    refine r_lshl eX10_seenPlaces_79 ?_
    refine r_lor eX10_seenPlaces_80 ?_
    replace q := OK_lt q
    refine r_lstore (lv' := [_, _, _, _, _, _, _]) eX10_seenPlaces_81 (Nat.le_of_ble_eq_true rfl) rfl ?_
    refine r_iinc (v := (1)) (lv' := [_, _, _, _, _, _, _]) eX10_seenPlaces_83 rfl (by decide) rfl ?_
    refine r_goto (t := 48) eX10_seenPlaces_86 (by decide) ?_
    exact ih _ _ _ q
theorem s_X10_seenPlaces {E : Ev} {d : Nat} {a0 : Nat} {x1 : Int32} {h : Hp} {Φ : Ou → Hp → Prop} (q : OK (F_X10_seenPlaces E a0 x1 h) Φ) : CE E mX10_seenPlaces (d + 2) [.ref a0, .int x1] h 0 0 Φ := by
  show WE E mX10_seenPlaces (d + 2) 0 [some (.ref a0), some (.int x1), none, none, none, none, none] [] h 0 0 Φ
  refine r_lconst (v := 0) eX10_seenPlaces_0 rfl ?_
  refine r_lstore_n (lv' := [_, _, _, _, _, _, _]) eX10_seenPlaces_1 (Nat.le_of_ble_eq_true rfl) rfl ?_
  refine r_iconst (v := (0)) eX10_seenPlaces_2 (by decide) ?_
  refine r_istore (lv' := [_, _, _, _, _, _, _]) eX10_seenPlaces_3 (Nat.le_of_ble_eq_true rfl) rfl ?_
  refine sL_X10_seenPlaces_5 (fun w1 w2 h3 q => ?_) _ _ _ _ q
  refine r_aload_n eX10_seenPlaces_38 rfl ?_
  refine r_iload_n eX10_seenPlaces_39 rfl ?_
  refine t_virtL (As := [_]) (rest := []) (d' := d + 0 + 1) (ci := 10) eX10_seenPlaces_40 k_10_127 rfl rfl rfl (by omega) (Nat.le_of_ble_eq_true rfl) (Nat.le_of_ble_eq_true rfl) (fun _ q => s_X10_placesWith q) q (fun v40 h40 q => ?_)
  refine r_lstore (lv' := [_, _, _, _, _, _, _]) eX10_seenPlaces_43 (Nat.le_of_ble_eq_true rfl) rfl ?_
  refine r_iconst (v := (0)) eX10_seenPlaces_45 (by decide) ?_
  refine r_istore (lv' := [_, _, _, _, _, _, _]) eX10_seenPlaces_46 (Nat.le_of_ble_eq_true rfl) rfl ?_
  exact sL_X10_seenPlaces_48  _ _ _ _ q
theorem s_X9_seenPlaces {E : Ev} {d : Nat} {a0 : Nat} {x1 : Int32} {h : Hp} {Φ : Ou → Hp → Prop} (q : OK (F_X9_seenPlaces E a0 x1 h) Φ) : CE E mX9_seenPlaces (d + 3) [.ref a0, .int x1] h 0 0 Φ := by
  show WE E mX9_seenPlaces (d + 3) 0 [some (.ref a0), some (.int x1)] [] h 0 0 Φ
  refine r_aload_n eX9_seenPlaces_0 rfl ?_
  refine t_gfR eX9_seenPlaces_1 f_9_32 q (fun v1 q => ?_)
  refine r_aload_n eX9_seenPlaces_4 rfl ?_
  refine t_gfR eX9_seenPlaces_5 f_9_9 q (fun v5 q => ?_)
  refine r_aload_n eX9_seenPlaces_8 rfl ?_
  refine t_gfI eX9_seenPlaces_9 f_9_65 q (fun v9 q => ?_)
  refine r_bipush (v := (12)) eX9_seenPlaces_12 (by decide) ?_
  refine r_imul eX9_seenPlaces_14 ?_
  refine r_iload_n eX9_seenPlaces_15 rfl ?_
  refine r_iadd eX9_seenPlaces_16 ?_
  refine t_gaI eX9_seenPlaces_17 q (fun v17 q => ?_)
  refine t_virtL (As := [_]) (rest := []) (d' := d + 0 + 2) (ci := 10) eX9_seenPlaces_18 k_9_72 rfl rfl rfl (by omega) (Nat.le_of_ble_eq_true rfl) (Nat.le_of_ble_eq_true rfl) (fun _ q => s_X10_seenPlaces q) q (fun v18 h18 q => ?_)
  exact t_rtL eX9_seenPlaces_21 rfl q
theorem sJ_X9_sideOf_10 {E : Ev} {d kc ks : Nat} {Φ : Ou → Hp → Prop} {y0 : Nat} {y1 : Int32} {y2 : Int32} {t0 : Int32} {h : Hp}  (q : OK (J_X9_sideOf_10 E y0 t0 h) Φ) : WE E mX9_sideOf (d + 0) 10 [some (.ref y0), some (.int y1), some (.int y2)] [.int t0] h kc ks Φ := by
  refine r_aload_n eX9_sideOf_10 rfl ?_
  refine t_gfR eX9_sideOf_11 f_9_36 q (fun v11 q => ?_)
  refine t_gfR eX9_sideOf_14 f_9_115 q (fun v14 q => ?_)
  refine r_aload_n eX9_sideOf_17 rfl ?_
  refine t_gfI eX9_sideOf_18 f_9_65 q (fun v18 q => ?_)
  refine t_gaZ eX9_sideOf_21 q (fun v21 q => ?_)
  refine t_icmp_ne eX9_sideOf_22 (t := 29) (by decide) q (fun q => ?_) (fun q => ?_)
  · refine r_iconst (v := (0)) eX9_sideOf_29 (by decide) ?_
    exact t_rtI eX9_sideOf_30 rfl q
  refine r_iconst (v := (1)) eX9_sideOf_25 (by decide) ?_
  refine r_goto (t := 30) eX9_sideOf_26 (by decide) ?_
  exact t_rtI eX9_sideOf_30 rfl q
theorem s_X9_sideOf {E : Ev} {d : Nat} {a0 : Nat} {x1 : Int32} {x2 : Int32} {h : Hp} {Φ : Ou → Hp → Prop} (q : OK (F_X9_sideOf E a0 x1 x2 h) Φ) : CE E mX9_sideOf (d + 0) [.ref a0, .int x1, .int x2] h 0 0 Φ := by
  show WE E mX9_sideOf (d + 0) 0 [some (.ref a0), some (.int x1), some (.int x2)] [] h 0 0 Φ
  refine r_iload_n eX9_sideOf_0 rfl ?_
  refine r_iload_n eX9_sideOf_1 rfl ?_
  refine t_icmp_ne eX9_sideOf_2 (t := 9) (by decide) q (fun q => ?_) (fun q => ?_)
  · refine r_iconst (v := (0)) eX9_sideOf_9 (by decide) ?_
    exact sJ_X9_sideOf_10  q
  refine r_iconst (v := (1)) eX9_sideOf_5 (by decide) ?_
  refine r_goto (t := 10) eX9_sideOf_6 (by decide) ?_
  exact sJ_X9_sideOf_10  q
theorem sL_X9_stayAheadOf_55 {E : Ev} {d kc ks : Nat} {Φ : Ou → Hp → Prop} {y0 : Nat} {y1 : Int64} {y3 : Nat} {y4 : Int32} {y5 : Nat} {y6 : Int32} {y8 : Int32} {K105 : Int32 → Hp → Rs} (hK105 : ∀ (w7 : Int32) (w9 : Int32) (h : Hp), OK (K105 w7 h) Φ → WE E mX9_stayAheadOf (d + 4) 105 [some (.ref y0), some (.long y1), none, some (.ref y3), some (.int y4), some (.ref y5), some (.int y6), some (.int w7), some (.int y8), some (.int w9)] [] h kc ks Φ) : ∀ (g : Nat) (y7 : Int32) (y9 : Int32) (h : Hp), OK (L_X9_stayAheadOf_55 E K105 y0 y1 g y7 y9 h) Φ → WE E mX9_stayAheadOf (d + 4) 55 [some (.ref y0), some (.long y1), none, some (.ref y3), some (.int y4), some (.ref y5), some (.int y6), some (.int y7), some (.int y8), some (.int y9)] [] h kc ks Φ := by
  intro g
  induction g with
  | zero => intro y7 y9 h q; exact q.elim
  | succ g ih =>
    intro y7 y9 h q
    refine r_iload eX9_stayAheadOf_55 rfl ?_
    refine r_aload_n eX9_stayAheadOf_57 rfl ?_
    refine t_gfR eX9_stayAheadOf_58 f_9_49 q (fun v58 q => ?_)
    refine t_gfI eX9_stayAheadOf_61 f_9_126 q (fun v61 q => ?_)
    refine t_icmp_ge eX9_stayAheadOf_64 (t := 105) (by decide) q (fun q => ?_) (fun q => ?_)
    · exact hK105 _ _ _ q
    refine r_iload eX9_stayAheadOf_67 rfl ?_
    refine r_lload_n eX9_stayAheadOf_69 rfl ?_
    refine r_aload_n eX9_stayAheadOf_70 rfl ?_
    refine t_gfR eX9_stayAheadOf_71 f_9_32 q (fun v71 q => ?_)
    refine t_gfR eX9_stayAheadOf_74 f_9_136 q (fun v74 q => ?_)
    refine t_gfR eX9_stayAheadOf_77 f_9_140 q (fun v77 q => ?_)
    refine r_iconst (v := (2)) eX9_stayAheadOf_80 (by decide) ?_
    refine r_aload_n eX9_stayAheadOf_81 rfl ?_
    refine t_gfR eX9_stayAheadOf_82 f_9_49 q (fun v82 q => ?_)
    refine t_gfR eX9_stayAheadOf_85 f_9_129 q (fun v85 q => ?_)
    refine r_iload eX9_stayAheadOf_88 rfl ?_
    refine t_gaI eX9_stayAheadOf_90 q (fun v90 q => ?_)
    refine r_imul eX9_stayAheadOf_91 ?_
    refine t_gaI eX9_stayAheadOf_92 q (fun v92 q => ?_)
    refine t_statI (As := [_, _]) (rest := [_]) (d' := d + 3 + 0) eX9_stayAheadOf_93 k_9_145 rfl (by omega) (Nat.le_of_ble_eq_true rfl) (Nat.le_of_ble_eq_true rfl) (fun _ q => s_X11_isIn q) q (fun v93 h93 q => ?_)
    refine r_ior eX9_stayAheadOf_96 ?_
    refine r_istore (lv' := [_, _, _, _, _, _, _, _, _, _]) eX9_stayAheadOf_97 (Nat.le_of_ble_eq_true rfl) rfl ?_
    refine r_iinc (v := (1)) (lv' := [_, _, _, _, _, _, _, _, _, _]) eX9_stayAheadOf_99 rfl (by decide) rfl ?_
    refine r_goto (t := 55) eX9_stayAheadOf_102 (by decide) ?_
    exact ih _ _ _ q
theorem sL_X9_stayAheadOf_31 {E : Ev} {d kc ks : Nat} {Φ : Ou → Hp → Prop} {y0 : Nat} {y1 : Int64} {y3 : Nat} {y4 : Int32} {y5 : Nat} {y6 : Int32} {K111 : Int32 → Hp → Rs} (hK111 : ∀ (w7 : Int32) (w8 : Int32) (w9 : Option Value) (h : Hp), OK (K111 w7 h) Φ → WE E mX9_stayAheadOf (d + 4) 111 [some (.ref y0), some (.long y1), none, some (.ref y3), some (.int y4), some (.ref y5), some (.int y6), some (.int w7), some (.int w8), w9] [] h kc ks Φ) : ∀ (g : Nat) (y7 : Int32) (y8 : Int32) (y9 : Option Value) (h : Hp), OK (L_X9_stayAheadOf_31 E K111 y0 y1 g y7 y8 h) Φ → WE E mX9_stayAheadOf (d + 4) 31 [some (.ref y0), some (.long y1), none, some (.ref y3), some (.int y4), some (.ref y5), some (.int y6), some (.int y7), some (.int y8), y9] [] h kc ks Φ := by
  intro g
  induction g with
  | zero => intro y7 y8 y9 h q; exact q.elim
  | succ g ih =>
    intro y7 y8 y9 h q
    refine r_iload eX9_stayAheadOf_31 rfl ?_
    refine r_iconst (v := (3)) eX9_stayAheadOf_33 (by decide) ?_
    refine t_icmp_ge eX9_stayAheadOf_34 (t := 111) (by decide) q (fun q => ?_) (fun q => ?_)
    · exact hK111 _ _ _ _ q
    refine r_iload eX9_stayAheadOf_37 rfl ?_
    refine t_if_ne eX9_stayAheadOf_39 (t := 111) (by decide) q (fun q => ?_) (fun q => ?_)
    · exact hK111 _ _ _ _ q
    refine r_aload_n eX9_stayAheadOf_42 rfl ?_
    refine t_gfR eX9_stayAheadOf_43 f_9_49 q (fun v43 q => ?_)
    refine t_virtI (As := []) (rest := []) (d' := d + 0 + 3) (ci := 7) eX9_stayAheadOf_46 k_9_122 rfl rfl rfl (by omega) (Nat.le_of_ble_eq_true rfl) (Nat.le_of_ble_eq_true rfl) (fun _ q => s_X7_go q) q (fun v46 h46 q => ?_)
    refine t_if_eq eX9_stayAheadOf_49 (t := 111) (by decide) q (fun q => ?_) (fun q => ?_)
    · exact hK111 _ _ _ _ q
    refine r_iconst (v := (0)) eX9_stayAheadOf_52 (by decide) ?_
    refine r_istore (lv' := [_, _, _, _, _, _, _, _, _, _]) eX9_stayAheadOf_53 (Nat.le_of_ble_eq_true rfl) rfl ?_
    refine sL_X9_stayAheadOf_55 (fun w1 w2 h3 q => ?_) _ _ _ _ q
    refine r_iinc (v := (1)) (lv' := [_, _, _, _, _, _, _, _, _, _]) eX9_stayAheadOf_105 rfl (by decide) rfl ?_
    refine r_goto (t := 31) eX9_stayAheadOf_108 (by decide) ?_
    exact ih _ _ _ _ q
theorem sJ_X9_stayAheadOf_111 {E : Ev} {d kc ks : Nat} {Φ : Ou → Hp → Prop} {y0 : Nat} {y1 : Int64} {y3 : Nat} {y4 : Int32} {y5 : Nat} {y6 : Int32} {y7 : Int32} {y8 : Int32} {y9 : Option Value} {h : Hp} {K3 : Int32 → Hp → Rs} (hK3 : ∀ (w6 : Int32) (w7 : Option Value) (w8 : Option Value) (w9 : Option Value) (h : Hp), OK (K3 w6 h) Φ → WE E mX9_stayAheadOf (d + 4) 3 [some (.ref y0), some (.long y1), none, some (.ref y3), some (.int y4), some (.ref y5), some (.int w6), w7, w8, w9] [] h kc ks Φ) (q : OK (J_X9_stayAheadOf_111 E K3 y0 y1 y3 y4 y5 y6 y7 h) Φ) : WE E mX9_stayAheadOf (d + 4) 111 [some (.ref y0), some (.long y1), none, some (.ref y3), some (.int y4), some (.ref y5), some (.int y6), some (.int y7), some (.int y8), y9] [] h kc ks Φ := by
  refine r_iload eX9_stayAheadOf_111 rfl ?_
  refine t_if_eq eX9_stayAheadOf_113 (t := 125) (by decide) q (fun q => ?_) (fun q => ?_)
  · refine r_iinc (v := (1)) (lv' := [_, _, _, _, _, _, _, _, _, _]) eX9_stayAheadOf_125 rfl (by decide) rfl ?_
    refine r_goto (t := 3) eX9_stayAheadOf_128 (by decide) ?_
    exact hK3 _ _ _ _ _ q
  refine r_aload eX9_stayAheadOf_116 rfl ?_
  refine r_aload_n eX9_stayAheadOf_118 rfl ?_
  refine r_iload eX9_stayAheadOf_119 rfl ?_
  refine t_gaI eX9_stayAheadOf_121 q (fun v121 q => ?_)
  refine t_virtV (As := [_]) (rest := []) (d' := d + 3 + 0) (ci := 6) eX9_stayAheadOf_122 k_9_132 rfl rfl rfl (by omega) (Nat.le_of_ble_eq_true rfl) (Nat.le_of_ble_eq_true rfl) (fun _ q => s_X6_add q) q (fun h122 q => ?_)
  refine r_iinc (v := (1)) (lv' := [_, _, _, _, _, _, _, _, _, _]) eX9_stayAheadOf_125 rfl (by decide) rfl ?_
  refine r_goto (t := 3) eX9_stayAheadOf_128 (by decide) ?_
  exact hK3 _ _ _ _ _ q
theorem sL_X9_stayAheadOf_3 {E : Ev} {d kc ks : Nat} {Φ : Ou → Hp → Prop} {y0 : Nat} {y1 : Int64} {y3 : Nat} {y4 : Int32} {y5 : Nat}  : ∀ (g : Nat) (y6 : Int32) (y7 : Option Value) (y8 : Option Value) (y9 : Option Value) (h : Hp), OK (L_X9_stayAheadOf_3 E y0 y1 y3 y4 y5 g y6 h) Φ → WE E mX9_stayAheadOf (d + 4) 3 [some (.ref y0), some (.long y1), none, some (.ref y3), some (.int y4), some (.ref y5), some (.int y6), y7, y8, y9] [] h kc ks Φ := by
  intro g
  induction g with
  | zero => intro y6 y7 y8 y9 h q; exact q.elim
  | succ g ih =>
    intro y6 y7 y8 y9 h q
    refine r_iload eX9_stayAheadOf_3 rfl ?_
    refine r_iload eX9_stayAheadOf_5 rfl ?_
    refine t_icmp_ge eX9_stayAheadOf_7 (t := 131) (by decide) q (fun q => ?_) (fun q => ?_)
    · exact t_rtV eX9_stayAheadOf_131 rfl q
    refine r_iconst (v := (0)) eX9_stayAheadOf_10 (by decide) ?_
    refine r_istore (lv' := [_, _, _, _, _, _, _, _, _, _]) eX9_stayAheadOf_11 (Nat.le_of_ble_eq_true rfl) rfl ?_
    refine r_aload_n eX9_stayAheadOf_13 rfl ?_
    refine t_gfR eX9_stayAheadOf_14 f_9_49 q (fun v14 q => ?_)
    refine r_aload_n eX9_stayAheadOf_17 rfl ?_
    refine r_iload eX9_stayAheadOf_18 rfl ?_
    refine r_iload eX9_stayAheadOf_20 rfl ?_
    refine r_iconst (v := (1)) eX9_stayAheadOf_22 (by decide) ?_
    refine r_iadd eX9_stayAheadOf_23 ?_
    refine r_lconst (v := 0) eX9_stayAheadOf_24 rfl ?_
    refine t_virtV (As := [_, _, _, _]) (rest := []) (d' := d + 2 + 1) (ci := 7) eX9_stayAheadOf_25 k_9_107 rfl rfl rfl (by omega) (Nat.le_of_ble_eq_true rfl) (Nat.le_of_ble_eq_true rfl) (fun _ q => s_X7_begin q) q (fun h25 q => ?_)
    refine r_iconst (v := (0)) eX9_stayAheadOf_28 (by decide) ?_
    refine r_istore (lv' := [_, _, _, _, _, _, _, _, _, _]) eX9_stayAheadOf_29 (Nat.le_of_ble_eq_true rfl) rfl ?_
    refine sL_X9_stayAheadOf_31 (fun w1 w2 w3 h4 q => ?_) _ _ _ _ _ q
    refine sJ_X9_stayAheadOf_111 (fun w5 w6 w7 w8 h9 q => ?_) q
    exact ih _ _ _ _ _ q
theorem s_X9_stayAheadOf {E : Ev} {d : Nat} {a0 : Nat} {x1 : Int64} {a3 : Nat} {x4 : Int32} {a5 : Nat} {h : Hp} {Φ : Ou → Hp → Prop} (q : OK (F_X9_stayAheadOf E a0 x1 a3 x4 a5 h) Φ) : CE E mX9_stayAheadOf (d + 4) [.ref a0, .long x1, .ref a3, .int x4, .ref a5] h 0 0 Φ := by
  show WE E mX9_stayAheadOf (d + 4) 0 [some (.ref a0), some (.long x1), none, some (.ref a3), some (.int x4), some (.ref a5), none, none, none, none] [] h 0 0 Φ
  refine r_iconst (v := (0)) eX9_stayAheadOf_0 (by decide) ?_
  refine r_istore (lv' := [_, _, _, _, _, _, _, _, _, _]) eX9_stayAheadOf_1 (Nat.le_of_ble_eq_true rfl) rfl ?_
  exact sL_X9_stayAheadOf_3  _ _ _ _ _ _ q
theorem sL_X9_staySeeing_3 {E : Ev} {d kc ks : Nat} {Φ : Ou → Hp → Prop} {y0 : Nat} {y1 : Int64} {y3 : Nat} {y4 : Int32} {y5 : Nat}  : ∀ (g : Nat) (y6 : Int32) (h : Hp), OK (L_X9_staySeeing_3 E y0 y1 y3 y4 y5 g y6 h) Φ → WE E mX9_staySeeing (d + 1) 3 [some (.ref y0), some (.long y1), none, some (.ref y3), some (.int y4), some (.ref y5), some (.int y6)] [] h kc ks Φ := by
  intro g
  induction g with
  | zero => intro y6 h q; exact q.elim
  | succ g ih =>
    intro y6 h q
    refine r_iload eX9_staySeeing_3 rfl ?_
    refine r_iload eX9_staySeeing_5 rfl ?_
    refine t_icmp_ge eX9_staySeeing_7 (t := 47) (by decide) q (fun q => ?_) (fun q => ?_)
    · exact t_rtV eX9_staySeeing_47 rfl q
    refine r_lload_n eX9_staySeeing_10 rfl ?_
    refine r_aload_n eX9_staySeeing_11 rfl ?_
    refine t_gfR eX9_staySeeing_12 f_9_32 q (fun v12 q => ?_)
    refine t_gfR eX9_staySeeing_15 f_9_136 q (fun v15 q => ?_)
    refine t_gfR eX9_staySeeing_18 f_9_140 q (fun v18 q => ?_)
    refine r_aload_n eX9_staySeeing_21 rfl ?_
    refine r_iload eX9_staySeeing_22 rfl ?_
    refine t_gaI eX9_staySeeing_24 q (fun v24 q => ?_)
    refine t_gaI eX9_staySeeing_25 q (fun v25 q => ?_)
    refine t_statI (As := [_, _]) (rest := []) (d' := d + 0 + 0) eX9_staySeeing_26 k_9_145 rfl (by omega) (Nat.le_of_ble_eq_true rfl) (Nat.le_of_ble_eq_true rfl) (fun _ q => s_X11_isIn q) q (fun v26 h26 q => ?_)
    refine t_if_eq eX9_staySeeing_29 (t := 41) (by decide) q (fun q => ?_) (fun q => ?_)
    · refine r_iinc (v := (1)) (lv' := [_, _, _, _, _, _, _]) eX9_staySeeing_41 rfl (by decide) rfl ?_
      refine r_goto (t := 3) eX9_staySeeing_44 (by decide) ?_
      exact ih _ _ q
    refine r_aload eX9_staySeeing_32 rfl ?_
    refine r_aload_n eX9_staySeeing_34 rfl ?_
    refine r_iload eX9_staySeeing_35 rfl ?_
    refine t_gaI eX9_staySeeing_37 q (fun v37 q => ?_)
    refine t_virtV (As := [_]) (rest := []) (d' := d + 0 + 0) (ci := 6) eX9_staySeeing_38 k_9_132 rfl rfl rfl (by omega) (Nat.le_of_ble_eq_true rfl) (Nat.le_of_ble_eq_true rfl) (fun _ q => s_X6_add q) q (fun h38 q => ?_)
    refine r_iinc (v := (1)) (lv' := [_, _, _, _, _, _, _]) eX9_staySeeing_41 rfl (by decide) rfl ?_
    refine r_goto (t := 3) eX9_staySeeing_44 (by decide) ?_
    exact ih _ _ q
theorem s_X9_staySeeing {E : Ev} {d : Nat} {a0 : Nat} {x1 : Int64} {a3 : Nat} {x4 : Int32} {a5 : Nat} {h : Hp} {Φ : Ou → Hp → Prop} (q : OK (F_X9_staySeeing E a0 x1 a3 x4 a5 h) Φ) : CE E mX9_staySeeing (d + 1) [.ref a0, .long x1, .ref a3, .int x4, .ref a5] h 0 0 Φ := by
  show WE E mX9_staySeeing (d + 1) 0 [some (.ref a0), some (.long x1), none, some (.ref a3), some (.int x4), some (.ref a5), none] [] h 0 0 Φ
  refine r_iconst (v := (0)) eX9_staySeeing_0 (by decide) ?_
  refine r_istore (lv' := [_, _, _, _, _, _, _]) eX9_staySeeing_1 (Nat.le_of_ble_eq_true rfl) rfl ?_
  exact sL_X9_staySeeing_3  _ _ _ q
theorem sL_X9_turn_3 {E : Ev} {d kc ks : Nat} {Φ : Ou → Hp → Prop} {y0 : Nat} {y1 : Int32} {y2 : Nat} {y3 : Int32} {y4 : Nat}  : ∀ (g : Nat) (y5 : Int32) (y6 : Option Value) (h : Hp), OK (L_X9_turn_3 E y0 y1 y2 y3 y4 g y5 h) Φ → WE E mX9_turn (d + 3) 3 [some (.ref y0), some (.int y1), some (.ref y2), some (.int y3), some (.ref y4), some (.int y5), y6] [] h kc ks Φ := by
  intro g
  induction g with
  | zero => intro y5 y6 h q; exact q.elim
  | succ g ih =>
    intro y5 y6 h q
    refine r_iload eX9_turn_3 rfl ?_
    refine r_iload_n eX9_turn_5 rfl ?_
    refine t_icmp_ge eX9_turn_6 (t := 59) (by decide) q (fun q => ?_) (fun q => ?_)
    · exact t_rtV eX9_turn_59 rfl q
    refine r_aload_n eX9_turn_9 rfl ?_
    refine t_gfR eX9_turn_10 f_9_32 q (fun v10 q => ?_)
    refine r_aload_n eX9_turn_13 rfl ?_
    refine r_iload eX9_turn_14 rfl ?_
    refine t_gaI eX9_turn_16 q (fun v16 q => ?_)
    refine t_virtI (As := [_]) (rest := []) (d' := d + 0 + 2) (ci := 10) eX9_turn_17 k_9_152 rfl rfl rfl (by omega) (Nat.le_of_ble_eq_true rfl) (Nat.le_of_ble_eq_true rfl) (fun _ q => s_X10_look q) q (fun v17 h17 q => ?_)
    refine r_iconst (v := (2)) eX9_turn_20 (by decide) ?_
    refine r_iload_n eX9_turn_21 rfl ?_
    refine r_imul eX9_turn_22 ?_
    refine r_iadd eX9_turn_23 ?_
    replace q := OK_lt q
    refine r_istore (lv' := [_, _, _, _, _, _, _]) eX9_turn_24 (Nat.le_of_ble_eq_true rfl) rfl ?_
    refine r_aload eX9_turn_26 rfl ?_
    refine r_aload_n eX9_turn_28 rfl ?_
    refine t_gfR eX9_turn_29 f_9_32 q (fun v29 q => ?_)
    refine t_gfR eX9_turn_32 f_9_156 q (fun v32 q => ?_)
    refine r_iload eX9_turn_35 rfl ?_
    refine t_gaL eX9_turn_37 q (fun v37 q => ?_)
    refine r_aload_n eX9_turn_38 rfl ?_
    refine t_gfR eX9_turn_39 f_9_32 q (fun v39 q => ?_)
    refine t_gfR eX9_turn_42 f_9_156 q (fun v42 q => ?_)
    refine r_iload eX9_turn_45 rfl ?_
    refine r_iconst (v := (1)) eX9_turn_47 (by decide) ?_
    refine r_iadd eX9_turn_48 ?_
    refine t_gaL eX9_turn_49 q (fun v49 q => ?_)
    refine t_virtV (As := [_, _]) (rest := []) (d' := d + 2 + 0) (ci := 6) eX9_turn_50 k_9_159 rfl rfl rfl (by omega) (Nat.le_of_ble_eq_true rfl) (Nat.le_of_ble_eq_true rfl) (fun _ q => s_X6_addArrows q) q (fun h50 q => ?_)
    refine r_iinc (v := (1)) (lv' := [_, _, _, _, _, _, _]) eX9_turn_53 rfl (by decide) rfl ?_
    refine r_goto (t := 3) eX9_turn_56 (by decide) ?_
    exact ih _ _ _ q
theorem s_X9_turn {E : Ev} {d : Nat} {a0 : Nat} {x1 : Int32} {a2 : Nat} {x3 : Int32} {a4 : Nat} {h : Hp} {Φ : Ou → Hp → Prop} (q : OK (F_X9_turn E a0 x1 a2 x3 a4 h) Φ) : CE E mX9_turn (d + 3) [.ref a0, .int x1, .ref a2, .int x3, .ref a4] h 0 0 Φ := by
  show WE E mX9_turn (d + 3) 0 [some (.ref a0), some (.int x1), some (.ref a2), some (.int x3), some (.ref a4), none, none] [] h 0 0 Φ
  refine r_iconst (v := (0)) eX9_turn_0 (by decide) ?_
  refine r_istore (lv' := [_, _, _, _, _, _, _]) eX9_turn_1 (Nat.le_of_ble_eq_true rfl) rfl ?_
  exact sL_X9_turn_3  _ _ _ _ q
theorem sJ_X9_turnAt_239 {E : Ev} {d kc ks : Nat} {Φ : Ou → Hp → Prop} {y0 : Nat} {y1 : Int32} {y2 : Int32} {y3 : Int64} {y5 : Nat} {y6 : Int32} {y7 : Int64} {y9 : Int64} {y11 : Int32} {y12 : Int32} {y13 : Int32} {y14 : Int32} {y15 : Int64} {y17 : Int64} {y19 : Int64} {h : Hp} {K99 : Int32 → Hp → Rs} (hK99 : ∀ (w12 : Int32) (w13 : Option Value) (w14 : Option Value) (w15 : Option Value) (w16 : Option Value) (w17 : Option Value) (w18 : Option Value) (w19 : Option Value) (w20 : Option Value) (h : Hp), OK (K99 w12 h) Φ → WE E mX9_turnAt (d + 4) 99 [some (.ref y0), some (.int y1), some (.int y2), some (.long y3), none, some (.ref y5), some (.int y6), some (.long y7), none, some (.long y9), none, some (.int y11), some (.int w12), w13, w14, w15, w16, w17, w18, w19, w20] [] h kc ks Φ) (q : OK (J_X9_turnAt_239 E K99 y0 y1 y2 y3 y5 y7 y9 y12 y13 y19 h) Φ) : WE E mX9_turnAt (d + 4) 239 [some (.ref y0), some (.int y1), some (.int y2), some (.long y3), none, some (.ref y5), some (.int y6), some (.long y7), none, some (.long y9), none, some (.int y11), some (.int y12), some (.int y13), some (.int y14), some (.long y15), none, some (.long y17), none, some (.long y19), none] [] h kc ks Φ := by
  refine r_aload_n eX9_turnAt_239 rfl ?_
  refine t_gfR eX9_turnAt_240 f_9_49 q (fun v240 q => ?_)
  refine t_gfR eX9_turnAt_243 f_9_149 q (fun v243 q => ?_)
  refine r_iload eX9_turnAt_246 rfl ?_
  refine r_lload eX9_turnAt_248 rfl ?_
  refine r_lconst (v := 1) eX9_turnAt_250 rfl ?_
  refine r_iload_n eX9_turnAt_251 rfl ?_
  refine r_lshl eX9_turnAt_252 ?_
  refine r_ldc2 eX9_turnAt_253 g_9_95 ?_
  refine r_lxor eX9_turnAt_256 ?_
  refine r_land eX9_turnAt_257 ?_
  refine t_paL eX9_turnAt_258 q (fun h258 q => ?_)
  refine r_iinc (v := (1)) (lv' := [_, _, _, _, _, _, _, _, _, _, _, _, _, _, _, _, _, _, _, _, _]) eX9_turnAt_259 rfl (by decide) rfl ?_
  refine r_goto (t := 99) eX9_turnAt_262 (by decide) ?_
  exact hK99 _ _ _ _ _ _ _ _ _ _ q
theorem sL_X9_turnAt_99 {E : Ev} {d kc ks : Nat} {Φ : Ou → Hp → Prop} {y0 : Nat} {y1 : Int32} {y2 : Int32} {y3 : Int64} {y5 : Nat} {y6 : Int32} {y7 : Int64} {y9 : Int64} {y11 : Int32} {K265 : Hp → Rs} (hK265 : ∀ (w12 : Int32) (w13 : Option Value) (w14 : Option Value) (w15 : Option Value) (w16 : Option Value) (w17 : Option Value) (w18 : Option Value) (w19 : Option Value) (w20 : Option Value) (h : Hp), OK (K265 h) Φ → WE E mX9_turnAt (d + 4) 265 [some (.ref y0), some (.int y1), some (.int y2), some (.long y3), none, some (.ref y5), some (.int y6), some (.long y7), none, some (.long y9), none, some (.int y11), some (.int w12), w13, w14, w15, w16, w17, w18, w19, w20] [] h kc ks Φ) : ∀ (g : Nat) (y12 : Int32) (y13 : Option Value) (y14 : Option Value) (y15 : Option Value) (y16 : Option Value) (y17 : Option Value) (y18 : Option Value) (y19 : Option Value) (y20 : Option Value) (h : Hp), OK (L_X9_turnAt_99 E K265 y0 y1 y2 y3 y5 y7 y9 g y12 h) Φ → WE E mX9_turnAt (d + 4) 99 [some (.ref y0), some (.int y1), some (.int y2), some (.long y3), none, some (.ref y5), some (.int y6), some (.long y7), none, some (.long y9), none, some (.int y11), some (.int y12), y13, y14, y15, y16, y17, y18, y19, y20] [] h kc ks Φ := by
  intro g
  induction g with
  | zero => intro y12 y13 y14 y15 y16 y17 y18 y19 y20 h q; exact q.elim
  | succ g ih =>
    intro y12 y13 y14 y15 y16 y17 y18 y19 y20 h q
    refine r_iload eX9_turnAt_99 rfl ?_
    refine r_aload_n eX9_turnAt_101 rfl ?_
    refine t_gfR eX9_turnAt_102 f_9_49 q (fun v102 q => ?_)
    refine t_gfI eX9_turnAt_105 f_9_126 q (fun v105 q => ?_)
    refine t_icmp_ge eX9_turnAt_108 (t := 265) (by decide) q (fun q => ?_) (fun q => ?_)
    · exact hK265 _ _ _ _ _ _ _ _ _ _ q
    refine r_aload_n eX9_turnAt_111 rfl ?_
    refine t_gfR eX9_turnAt_112 f_9_49 q (fun v112 q => ?_)
    refine t_gfR eX9_turnAt_115 f_9_129 q (fun v115 q => ?_)
    refine r_iload eX9_turnAt_118 rfl ?_
    refine t_gaI eX9_turnAt_120 q (fun v120 q => ?_)
    refine r_istore (lv' := [_, _, _, _, _, _, _, _, _, _, _, _, _, _, _, _, _, _, _, _, _]) eX9_turnAt_121 (Nat.le_of_ble_eq_true rfl) rfl ?_
    refine r_aload_n eX9_turnAt_123 rfl ?_
    refine t_gfR eX9_turnAt_124 f_9_32 q (fun v124 q => ?_)
    refine r_iconst (v := (2)) eX9_turnAt_127 (by decide) ?_
    refine r_iload eX9_turnAt_128 rfl ?_
    refine r_imul eX9_turnAt_130 ?_
    refine t_virtI (As := [_]) (rest := []) (d' := d + 1 + 2) (ci := 10) eX9_turnAt_131 k_9_152 rfl rfl rfl (by omega) (Nat.le_of_ble_eq_true rfl) (Nat.le_of_ble_eq_true rfl) (fun _ q => s_X10_look q) q (fun v131 h131 q => ?_)
    refine r_iconst (v := (2)) eX9_turnAt_134 (by decide) ?_
    refine r_iload_n eX9_turnAt_135 rfl ?_
    refine r_imul eX9_turnAt_136 ?_
    refine r_iadd eX9_turnAt_137 ?_
    replace q := OK_lt q
    refine r_istore (lv' := [_, _, _, _, _, _, _, _, _, _, _, _, _, _, _, _, _, _, _, _, _]) eX9_turnAt_138 (Nat.le_of_ble_eq_true rfl) rfl ?_
    refine r_aload_n eX9_turnAt_140 rfl ?_
    refine t_gfR eX9_turnAt_141 f_9_32 q (fun v141 q => ?_)
    refine t_gfR eX9_turnAt_144 f_9_156 q (fun v144 q => ?_)
    refine r_iload eX9_turnAt_147 rfl ?_
    refine t_gaL eX9_turnAt_149 q (fun v149 q => ?_)
    refine r_lload eX9_turnAt_150 rfl ?_
    refine r_land eX9_turnAt_152 ?_
    refine r_lstore (lv' := [_, _, _, _, _, _, _, _, _, _, _, _, _, _, _, _, _, _, _, _, _]) eX9_turnAt_153 (Nat.le_of_ble_eq_true rfl) rfl ?_
    refine r_aload_n eX9_turnAt_155 rfl ?_
    refine t_gfR eX9_turnAt_156 f_9_32 q (fun v156 q => ?_)
    refine t_gfR eX9_turnAt_159 f_9_156 q (fun v159 q => ?_)
    refine r_iload eX9_turnAt_162 rfl ?_
    refine r_iconst (v := (1)) eX9_turnAt_164 (by decide) ?_
    refine r_iadd eX9_turnAt_165 ?_
    refine t_gaL eX9_turnAt_166 q (fun v166 q => ?_)
    refine r_lload eX9_turnAt_167 rfl ?_
    refine r_land eX9_turnAt_169 ?_
    refine r_lstore (lv' := [_, _, _, _, _, _, _, _, _, _, _, _, _, _, _, _, _, _, _, _, _]) eX9_turnAt_170 (Nat.le_of_ble_eq_true rfl) rfl ?_
    refine r_lload eX9_turnAt_172 rfl ?_
    refine r_lload eX9_turnAt_174 rfl ?_
    refine r_lor eX9_turnAt_176 ?_
    refine r_lconst (v := 0) eX9_turnAt_177 rfl ?_
    refine t_lc_eq eX9_turnAt_178 eX9_turnAt_179 (t := 259) (by decide) q (fun q => ?_) (fun q => ?_)
    · refine r_iinc (v := (1)) (lv' := [_, _, _, _, _, _, _, _, _, _, _, _, _, _, _, _, _, _, _, _, _]) eX9_turnAt_259 rfl (by decide) rfl ?_
      refine r_goto (t := 99) eX9_turnAt_262 (by decide) ?_
      exact ih _ _ _ _ _ _ _ _ _ _ q
    refine r_lload_n eX9_turnAt_182 rfl ?_
    refine r_aload_n eX9_turnAt_183 rfl ?_
    refine t_gfR eX9_turnAt_184 f_9_32 q (fun v184 q => ?_)
    refine t_gfR eX9_turnAt_187 f_9_136 q (fun v187 q => ?_)
    refine t_gfR eX9_turnAt_190 f_9_140 q (fun v190 q => ?_)
    refine r_iconst (v := (2)) eX9_turnAt_193 (by decide) ?_
    refine r_iload eX9_turnAt_194 rfl ?_
    refine r_imul eX9_turnAt_196 ?_
    refine t_gaI eX9_turnAt_197 q (fun v197 q => ?_)
    refine t_statI (As := [_, _]) (rest := []) (d' := d + 3 + 0) eX9_turnAt_198 k_9_145 rfl (by omega) (Nat.le_of_ble_eq_true rfl) (Nat.le_of_ble_eq_true rfl) (fun _ q => s_X11_isIn q) q (fun v198 h198 q => ?_)
    refine t_if_eq eX9_turnAt_201 (t := 207) (by decide) q (fun q => ?_) (fun q => ?_)
    · refine r_aload_n eX9_turnAt_207 rfl ?_
      refine t_gfR eX9_turnAt_208 f_9_49 q (fun v208 q => ?_)
      refine t_gfR eX9_turnAt_211 f_9_149 q (fun v211 q => ?_)
      refine r_iload eX9_turnAt_214 rfl ?_
      refine t_gaL eX9_turnAt_216 q (fun v216 q => ?_)
      refine r_iconst (v := (1)) eX9_turnAt_217 (by decide) ?_
      refine r_lshl eX9_turnAt_218 ?_
      replace q := OK_lt q
      refine r_lstore (lv' := [_, _, _, _, _, _, _, _, _, _, _, _, _, _, _, _, _, _, _, _, _]) eX9_turnAt_219 (Nat.le_of_ble_eq_true rfl) rfl ?_
      refine r_lload eX9_turnAt_221 rfl ?_
      refine r_iload_n eX9_turnAt_223 rfl ?_
      refine t_statI (As := [_, _]) (rest := []) (d' := d + 3 + 0) eX9_turnAt_224 k_9_145 rfl (by omega) (Nat.le_of_ble_eq_true rfl) (Nat.le_of_ble_eq_true rfl) (fun _ q => s_X11_isIn q) q (fun v224 h224 q => ?_)
      refine t_if_eq eX9_turnAt_227 (t := 239) (by decide) q (fun q => ?_) (fun q => ?_)
      · refine sJ_X9_turnAt_239 (fun w3 w4 w5 w6 w7 w8 w9 w10 w11 h12 q => ?_) q
        exact ih _ _ _ _ _ _ _ _ _ _ q
      refine r_aload eX9_turnAt_230 rfl ?_
      refine r_lload eX9_turnAt_232 rfl ?_
      refine r_lload eX9_turnAt_234 rfl ?_
      refine t_virtV (As := [_, _]) (rest := []) (d' := d + 3 + 0) (ci := 6) eX9_turnAt_236 k_9_159 rfl rfl rfl (by omega) (Nat.le_of_ble_eq_true rfl) (Nat.le_of_ble_eq_true rfl) (fun _ q => s_X6_addArrows q) q (fun h236 q => ?_)
      refine sJ_X9_turnAt_239 (fun w13 w14 w15 w16 w17 w18 w19 w20 w21 h22 q => ?_) q
      exact ih _ _ _ _ _ _ _ _ _ _ q
    refine r_goto (t := 259) eX9_turnAt_204 (by decide) ?_
    refine r_iinc (v := (1)) (lv' := [_, _, _, _, _, _, _, _, _, _, _, _, _, _, _, _, _, _, _, _, _]) eX9_turnAt_259 rfl (by decide) rfl ?_
    refine r_goto (t := 99) eX9_turnAt_262 (by decide) ?_
    exact ih _ _ _ _ _ _ _ _ _ _ q
theorem sL_X9_turnAt_69 {E : Ev} {d kc ks : Nat} {Φ : Ou → Hp → Prop} {y0 : Nat} {y1 : Int32} {y2 : Int32} {y3 : Int64} {y5 : Nat} {y6 : Int32} {y7 : Int64} {y9 : Int64}  : ∀ (g : Nat) (y11 : Int32) (y12 : Option Value) (y13 : Option Value) (y14 : Option Value) (y15 : Option Value) (y16 : Option Value) (y17 : Option Value) (y18 : Option Value) (y19 : Option Value) (y20 : Option Value) (h : Hp), OK (L_X9_turnAt_69 E y0 y1 y2 y3 y5 y7 y9 g y11 h) Φ → WE E mX9_turnAt (d + 4) 69 [some (.ref y0), some (.int y1), some (.int y2), some (.long y3), none, some (.ref y5), some (.int y6), some (.long y7), none, some (.long y9), none, some (.int y11), y12, y13, y14, y15, y16, y17, y18, y19, y20] [] h kc ks Φ := by
  intro g
  induction g with
  | zero => intro y11 y12 y13 y14 y15 y16 y17 y18 y19 y20 h q; exact q.elim
  | succ g ih =>
    intro y11 y12 y13 y14 y15 y16 y17 y18 y19 y20 h q
    refine r_iload eX9_turnAt_69 rfl ?_
    refine r_aload_n eX9_turnAt_71 rfl ?_
    refine t_gfR eX9_turnAt_72 f_9_36 q (fun v72 q => ?_)
    refine t_gfR eX9_turnAt_75 f_9_119 q (fun v75 q => ?_)
    refine r_aload_n eX9_turnAt_78 rfl ?_
    refine t_gfI eX9_turnAt_79 f_9_65 q (fun v79 q => ?_)
    refine t_gaI eX9_turnAt_82 q (fun v82 q => ?_)
    refine t_icmp_ge eX9_turnAt_83 (t := 271) (by decide) q (fun q => ?_) (fun q => ?_)
    · exact t_rtV eX9_turnAt_271 rfl q
    refine r_aload_n eX9_turnAt_86 rfl ?_
    refine t_gfR eX9_turnAt_87 f_9_49 q (fun v87 q => ?_)
    refine t_virtI (As := []) (rest := []) (d' := d + 0 + 3) (ci := 7) eX9_turnAt_90 k_9_122 rfl rfl rfl (by omega) (Nat.le_of_ble_eq_true rfl) (Nat.le_of_ble_eq_true rfl) (fun _ q => s_X7_go q) q (fun v90 h90 q => ?_)
    refine t_if_eq eX9_turnAt_93 (t := 271) (by decide) q (fun q => ?_) (fun q => ?_)
    · exact t_rtV eX9_turnAt_271 rfl q
    refine r_iconst (v := (0)) eX9_turnAt_96 (by decide) ?_
    refine r_istore (lv' := [_, _, _, _, _, _, _, _, _, _, _, _, _, _, _, _, _, _, _, _, _]) eX9_turnAt_97 (Nat.le_of_ble_eq_true rfl) rfl ?_
    refine sL_X9_turnAt_99 (fun w1 w2 w3 w4 w5 w6 w7 w8 w9 h10 q => ?_) _ _ _ _ _ _ _ _ _ _ _ q
    refine r_iinc (v := (1)) (lv' := [_, _, _, _, _, _, _, _, _, _, _, _, _, _, _, _, _, _, _, _, _]) eX9_turnAt_265 rfl (by decide) rfl ?_
    refine r_goto (t := 69) eX9_turnAt_268 (by decide) ?_
    exact ih _ _ _ _ _ _ _ _ _ _ _ q
theorem sJ_X9_turnAt_38 {E : Ev} {d kc ks : Nat} {Φ : Ou → Hp → Prop} {y0 : Nat} {y1 : Int32} {y2 : Int32} {y3 : Int64} {y5 : Nat} {y6 : Int32} {t0 : Int64} {h : Hp}  (q : OK (J_X9_turnAt_38 E y0 y1 y2 y3 y5 y6 t0 h) Φ) : WE E mX9_turnAt (d + 4) 38 [some (.ref y0), some (.int y1), some (.int y2), some (.long y3), none, some (.ref y5), some (.int y6), none, none, none, none, none, none, none, none, none, none, none, none, none, none] [.long t0] h kc ks Φ := by
  refine r_lstore (lv' := [_, _, _, _, _, _, _, _, _, _, _, _, _, _, _, _, _, _, _, _, _]) eX9_turnAt_38 (Nat.le_of_ble_eq_true rfl) rfl ?_
  refine r_iload eX9_turnAt_40 rfl ?_
  refine t_if_eq eX9_turnAt_42 (t := 51) (by decide) q (fun q => ?_) (fun q => ?_)
  · refine r_aload_n eX9_turnAt_51 rfl ?_
    refine t_gfR eX9_turnAt_52 f_9_32 q (fun v52 q => ?_)
    refine t_gfR eX9_turnAt_55 f_9_170 q (fun v55 q => ?_)
    refine r_iconst (v := (1)) eX9_turnAt_58 (by decide) ?_
    refine t_gaL eX9_turnAt_59 q (fun v59 q => ?_)
    refine r_ldc2 eX9_turnAt_60 g_9_95 ?_
    refine r_lxor eX9_turnAt_63 ?_
    refine r_lstore (lv' := [_, _, _, _, _, _, _, _, _, _, _, _, _, _, _, _, _, _, _, _, _]) eX9_turnAt_64 (Nat.le_of_ble_eq_true rfl) rfl ?_
    refine r_iconst (v := (0)) eX9_turnAt_66 (by decide) ?_
    refine r_istore (lv' := [_, _, _, _, _, _, _, _, _, _, _, _, _, _, _, _, _, _, _, _, _]) eX9_turnAt_67 (Nat.le_of_ble_eq_true rfl) rfl ?_
    exact sL_X9_turnAt_69  _ _ _ _ _ _ _ _ _ _ _ _ q
  refine r_ldc2 eX9_turnAt_45 g_9_95 ?_
  refine r_goto (t := 64) eX9_turnAt_48 (by decide) ?_
  refine r_lstore (lv' := [_, _, _, _, _, _, _, _, _, _, _, _, _, _, _, _, _, _, _, _, _]) eX9_turnAt_64 (Nat.le_of_ble_eq_true rfl) rfl ?_
  refine r_iconst (v := (0)) eX9_turnAt_66 (by decide) ?_
  refine r_istore (lv' := [_, _, _, _, _, _, _, _, _, _, _, _, _, _, _, _, _, _, _, _, _]) eX9_turnAt_67 (Nat.le_of_ble_eq_true rfl) rfl ?_
  exact sL_X9_turnAt_69  _ _ _ _ _ _ _ _ _ _ _ _ q
theorem s_X9_turnAt {E : Ev} {d : Nat} {a0 : Nat} {x1 : Int32} {x2 : Int32} {x3 : Int64} {a5 : Nat} {h : Hp} {Φ : Ou → Hp → Prop} (q : OK (F_X9_turnAt E a0 x1 x2 x3 a5 h) Φ) : CE E mX9_turnAt (d + 4) [.ref a0, .int x1, .int x2, .long x3, .ref a5] h 0 0 Φ := by
  show WE E mX9_turnAt (d + 4) 0 [some (.ref a0), some (.int x1), some (.int x2), some (.long x3), none, some (.ref a5), none, none, none, none, none, none, none, none, none, none, none, none, none, none, none] [] h 0 0 Φ
  refine r_aload_n eX9_turnAt_0 rfl ?_
  refine t_gfR eX9_turnAt_1 f_9_36 q (fun v1 q => ?_)
  refine t_gfR eX9_turnAt_4 f_9_167 q (fun v4 q => ?_)
  refine r_aload_n eX9_turnAt_7 rfl ?_
  refine t_gfI eX9_turnAt_8 f_9_65 q (fun v8 q => ?_)
  refine t_gaZ eX9_turnAt_11 q (fun v11 q => ?_)
  refine r_istore (lv' := [_, _, _, _, _, _, _, _, _, _, _, _, _, _, _, _, _, _, _, _, _]) eX9_turnAt_12 (Nat.le_of_ble_eq_true rfl) rfl ?_
  refine r_iload eX9_turnAt_14 rfl ?_
  refine t_if_eq eX9_turnAt_16 (t := 25) (by decide) q (fun q => ?_) (fun q => ?_)
  · refine r_aload_n eX9_turnAt_25 rfl ?_
    refine t_gfR eX9_turnAt_26 f_9_32 q (fun v26 q => ?_)
    refine t_gfR eX9_turnAt_29 f_9_170 q (fun v29 q => ?_)
    refine r_iconst (v := (0)) eX9_turnAt_32 (by decide) ?_
    refine t_gaL eX9_turnAt_33 q (fun v33 q => ?_)
    refine r_ldc2 eX9_turnAt_34 g_9_95 ?_
    refine r_lxor eX9_turnAt_37 ?_
    exact sJ_X9_turnAt_38  q
  refine r_ldc2 eX9_turnAt_19 g_9_95 ?_
  refine r_goto (t := 38) eX9_turnAt_22 (by decide) ?_
  exact sJ_X9_turnAt_38  q
