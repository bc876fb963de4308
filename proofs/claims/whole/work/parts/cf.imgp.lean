def tb_L_image : List (Nat × Instr × Nat) := [(0, .aload_n 0, 1), (1, .iload_n 1, 1), (2, .invokevirtual 124, 3), (5, .goto 6, 3), (8, .astore_n 2, 1), (9, .iconst 1, 1), (10, .ireturn, 1), (11, .iconst 0, 1), (12, .ireturn, 1)]
theorem al_L_image : dcT (mb mL_image) tb_L_image = true := by decide +kernel
theorem eL_image_0 : dc mL_image 0 (.aload_n 0) 1 1 := ⟨dcA al_L_image 0 rfl, rfl⟩
theorem eL_image_1 : dc mL_image 1 (.iload_n 1) 1 2 := ⟨dcA al_L_image 1 rfl, rfl⟩
theorem eL_image_2 : dc mL_image 2 (.invokevirtual 124) 3 5 := ⟨dcA al_L_image 2 rfl, rfl⟩
theorem eL_image_5 : dc mL_image 5 (.goto 6) 3 8 := ⟨dcA al_L_image 3 rfl, rfl⟩
theorem eL_image_8 : dc mL_image 8 (.astore_n 2) 1 9 := ⟨dcA al_L_image 4 rfl, rfl⟩
theorem eL_image_9 : dc mL_image 9 (.iconst 1) 1 10 := ⟨dcA al_L_image 5 rfl, rfl⟩
theorem eL_image_10 : dc mL_image 10 (.ireturn) 1 11 := ⟨dcA al_L_image 6 rfl, rfl⟩
theorem eL_image_11 : dc mL_image 11 (.iconst 0) 1 12 := ⟨dcA al_L_image 7 rfl, rfl⟩
theorem eL_image_12 : dc mL_image 12 (.ireturn) 1 13 := ⟨dcA al_L_image 8 rfl, rfl⟩
def tb_X11_image : List (Nat × Instr × Nat) := [(0, .aload_n 0, 1), (1, .iload_n 1, 1), (2, .invokevirtual 411, 3), (5, .aload_n 0, 1), (6, .getfield 77, 3), (9, .iload_n 1, 1), (10, .aaload, 1), (11, .ifnull 21, 3), (14, .aload_n 0, 1), (15, .getfield 81, 3), (18, .iload_n 1, 1), (19, .aaload, 1), (20, .ifnull 12, 3), (23, .aload_n 0, 1), (24, .getfield 85, 3), (27, .iload_n 1, 1), (28, .aaload, 1), (29, .ifnonnull 42, 3), (32, .aload_n 0, 1), (33, .getfield 77, 3), (36, .iload_n 1, 1), (37, .new 9, 3), (40, .dup, 1), (41, .invokespecial 11, 3), (44, .aastore, 1), (45, .aload_n 0, 1), (46, .getfield 81, 3), (49, .iload_n 1, 1), (50, .new 16, 3), (53, .dup, 1), (54, .invokespecial 18, 3), (57, .aastore, 1), (58, .aload_n 0, 1), (59, .getfield 85, 3), (62, .iload_n 1, 1), (63, .new 23, 3), (66, .dup, 1), (67, .invokespecial 25, 3), (70, .aastore, 1), (71, .aload_n 0, 1), (72, .getfield 77, 3), (75, .iload_n 1, 1), (76, .aaload, 1), (77, .aload_n 0, 1), (78, .getfield 12, 3), (81, .invokevirtual 414, 3), (84, .aload_n 0, 1), (85, .getfield 81, 3), (88, .iload_n 1, 1), (89, .aaload, 1), (90, .aload_n 0, 1), (91, .getfield 19, 3), (94, .invokevirtual 417, 3), (97, .aload_n 0, 1), (98, .getfield 85, 3), (101, .iload_n 1, 1), (102, .aaload, 1), (103, .aload_n 0, 1), (104, .getfield 26, 3), (107, .invokevirtual 420, 3), (110, .return_, 1)]
theorem al_X11_image : dcT (mb mX11_image) tb_X11_image = true := by decide +kernel
theorem eX11_image_0 : dc mX11_image 0 (.aload_n 0) 1 1 := ⟨dcA al_X11_image 0 rfl, rfl⟩
theorem eX11_image_1 : dc mX11_image 1 (.iload_n 1) 1 2 := ⟨dcA al_X11_image 1 rfl, rfl⟩
theorem eX11_image_2 : dc mX11_image 2 (.invokevirtual 411) 3 5 := ⟨dcA al_X11_image 2 rfl, rfl⟩
theorem eX11_image_5 : dc mX11_image 5 (.aload_n 0) 1 6 := ⟨dcA al_X11_image 3 rfl, rfl⟩
theorem eX11_image_6 : dc mX11_image 6 (.getfield 77) 3 9 := ⟨dcA al_X11_image 4 rfl, rfl⟩
theorem eX11_image_9 : dc mX11_image 9 (.iload_n 1) 1 10 := ⟨dcA al_X11_image 5 rfl, rfl⟩
theorem eX11_image_10 : dc mX11_image 10 (.aaload) 1 11 := ⟨dcA al_X11_image 6 rfl, rfl⟩
theorem eX11_image_11 : dc mX11_image 11 (.ifnull 21) 3 14 := ⟨dcA al_X11_image 7 rfl, rfl⟩
theorem eX11_image_14 : dc mX11_image 14 (.aload_n 0) 1 15 := ⟨dcA al_X11_image 8 rfl, rfl⟩
theorem eX11_image_15 : dc mX11_image 15 (.getfield 81) 3 18 := ⟨dcA al_X11_image 9 rfl, rfl⟩
theorem eX11_image_18 : dc mX11_image 18 (.iload_n 1) 1 19 := ⟨dcA al_X11_image 10 rfl, rfl⟩
theorem eX11_image_19 : dc mX11_image 19 (.aaload) 1 20 := ⟨dcA al_X11_image 11 rfl, rfl⟩
theorem eX11_image_20 : dc mX11_image 20 (.ifnull 12) 3 23 := ⟨dcA al_X11_image 12 rfl, rfl⟩
theorem eX11_image_23 : dc mX11_image 23 (.aload_n 0) 1 24 := ⟨dcA al_X11_image 13 rfl, rfl⟩
theorem eX11_image_24 : dc mX11_image 24 (.getfield 85) 3 27 := ⟨dcA al_X11_image 14 rfl, rfl⟩
theorem eX11_image_27 : dc mX11_image 27 (.iload_n 1) 1 28 := ⟨dcA al_X11_image 15 rfl, rfl⟩
theorem eX11_image_28 : dc mX11_image 28 (.aaload) 1 29 := ⟨dcA al_X11_image 16 rfl, rfl⟩
theorem eX11_image_29 : dc mX11_image 29 (.ifnonnull 42) 3 32 := ⟨dcA al_X11_image 17 rfl, rfl⟩
theorem eX11_image_32 : dc mX11_image 32 (.aload_n 0) 1 33 := ⟨dcA al_X11_image 18 rfl, rfl⟩
theorem eX11_image_33 : dc mX11_image 33 (.getfield 77) 3 36 := ⟨dcA al_X11_image 19 rfl, rfl⟩
theorem eX11_image_36 : dc mX11_image 36 (.iload_n 1) 1 37 := ⟨dcA al_X11_image 20 rfl, rfl⟩
theorem eX11_image_37 : dc mX11_image 37 (.new 9) 3 40 := ⟨dcA al_X11_image 21 rfl, rfl⟩
theorem eX11_image_40 : dc mX11_image 40 (.dup) 1 41 := ⟨dcA al_X11_image 22 rfl, rfl⟩
theorem eX11_image_41 : dc mX11_image 41 (.invokespecial 11) 3 44 := ⟨dcA al_X11_image 23 rfl, rfl⟩
theorem eX11_image_44 : dc mX11_image 44 (.aastore) 1 45 := ⟨dcA al_X11_image 24 rfl, rfl⟩
theorem eX11_image_45 : dc mX11_image 45 (.aload_n 0) 1 46 := ⟨dcA al_X11_image 25 rfl, rfl⟩
theorem eX11_image_46 : dc mX11_image 46 (.getfield 81) 3 49 := ⟨dcA al_X11_image 26 rfl, rfl⟩
theorem eX11_image_49 : dc mX11_image 49 (.iload_n 1) 1 50 := ⟨dcA al_X11_image 27 rfl, rfl⟩
theorem eX11_image_50 : dc mX11_image 50 (.new 16) 3 53 := ⟨dcA al_X11_image 28 rfl, rfl⟩
theorem eX11_image_53 : dc mX11_image 53 (.dup) 1 54 := ⟨dcA al_X11_image 29 rfl, rfl⟩
theorem eX11_image_54 : dc mX11_image 54 (.invokespecial 18) 3 57 := ⟨dcA al_X11_image 30 rfl, rfl⟩
theorem eX11_image_57 : dc mX11_image 57 (.aastore) 1 58 := ⟨dcA al_X11_image 31 rfl, rfl⟩
theorem eX11_image_58 : dc mX11_image 58 (.aload_n 0) 1 59 := ⟨dcA al_X11_image 32 rfl, rfl⟩
theorem eX11_image_59 : dc mX11_image 59 (.getfield 85) 3 62 := ⟨dcA al_X11_image 33 rfl, rfl⟩
theorem eX11_image_62 : dc mX11_image 62 (.iload_n 1) 1 63 := ⟨dcA al_X11_image 34 rfl, rfl⟩
theorem eX11_image_63 : dc mX11_image 63 (.new 23) 3 66 := ⟨dcA al_X11_image 35 rfl, rfl⟩
theorem eX11_image_66 : dc mX11_image 66 (.dup) 1 67 := ⟨dcA al_X11_image 36 rfl, rfl⟩
theorem eX11_image_67 : dc mX11_image 67 (.invokespecial 25) 3 70 := ⟨dcA al_X11_image 37 rfl, rfl⟩
theorem eX11_image_70 : dc mX11_image 70 (.aastore) 1 71 := ⟨dcA al_X11_image 38 rfl, rfl⟩
theorem eX11_image_71 : dc mX11_image 71 (.aload_n 0) 1 72 := ⟨dcA al_X11_image 39 rfl, rfl⟩
theorem eX11_image_72 : dc mX11_image 72 (.getfield 77) 3 75 := ⟨dcA al_X11_image 40 rfl, rfl⟩
theorem eX11_image_75 : dc mX11_image 75 (.iload_n 1) 1 76 := ⟨dcA al_X11_image 41 rfl, rfl⟩
theorem eX11_image_76 : dc mX11_image 76 (.aaload) 1 77 := ⟨dcA al_X11_image 42 rfl, rfl⟩
theorem eX11_image_77 : dc mX11_image 77 (.aload_n 0) 1 78 := ⟨dcA al_X11_image 43 rfl, rfl⟩
theorem eX11_image_78 : dc mX11_image 78 (.getfield 12) 3 81 := ⟨dcA al_X11_image 44 rfl, rfl⟩
theorem eX11_image_81 : dc mX11_image 81 (.invokevirtual 414) 3 84 := ⟨dcA al_X11_image 45 rfl, rfl⟩
theorem eX11_image_84 : dc mX11_image 84 (.aload_n 0) 1 85 := ⟨dcA al_X11_image 46 rfl, rfl⟩
theorem eX11_image_85 : dc mX11_image 85 (.getfield 81) 3 88 := ⟨dcA al_X11_image 47 rfl, rfl⟩
theorem eX11_image_88 : dc mX11_image 88 (.iload_n 1) 1 89 := ⟨dcA al_X11_image 48 rfl, rfl⟩
theorem eX11_image_89 : dc mX11_image 89 (.aaload) 1 90 := ⟨dcA al_X11_image 49 rfl, rfl⟩
theorem eX11_image_90 : dc mX11_image 90 (.aload_n 0) 1 91 := ⟨dcA al_X11_image 50 rfl, rfl⟩
theorem eX11_image_91 : dc mX11_image 91 (.getfield 19) 3 94 := ⟨dcA al_X11_image 51 rfl, rfl⟩
theorem eX11_image_94 : dc mX11_image 94 (.invokevirtual 417) 3 97 := ⟨dcA al_X11_image 52 rfl, rfl⟩
theorem eX11_image_97 : dc mX11_image 97 (.aload_n 0) 1 98 := ⟨dcA al_X11_image 53 rfl, rfl⟩
theorem eX11_image_98 : dc mX11_image 98 (.getfield 85) 3 101 := ⟨dcA al_X11_image 54 rfl, rfl⟩
theorem eX11_image_101 : dc mX11_image 101 (.iload_n 1) 1 102 := ⟨dcA al_X11_image 55 rfl, rfl⟩
theorem eX11_image_102 : dc mX11_image 102 (.aaload) 1 103 := ⟨dcA al_X11_image 56 rfl, rfl⟩
theorem eX11_image_103 : dc mX11_image 103 (.aload_n 0) 1 104 := ⟨dcA al_X11_image 57 rfl, rfl⟩
theorem eX11_image_104 : dc mX11_image 104 (.getfield 26) 3 107 := ⟨dcA al_X11_image 58 rfl, rfl⟩
theorem eX11_image_107 : dc mX11_image 107 (.invokevirtual 420) 3 110 := ⟨dcA al_X11_image 59 rfl, rfl⟩
theorem eX11_image_110 : dc mX11_image 110 (.return_) 1 111 := ⟨dcA al_X11_image 60 rfl, rfl⟩
theorem xh_L_image_2_8 : XHs mL_image 2 "java/util/NoSuchElementException" 8 ncsL := ⟨[], ⟨0, 5, 8, 19⟩, [], "java/util/NoSuchElementException", rfl, (fun z hz => by cases hz), by decide, by decide, cl_13_19, cs_NoSuchElementException, rfl⟩
def J_X11_image_71 (E : Ev)  (y0 : Nat) (y1 : Int32) (h : Hp) : Rs :=
  (gfR h y0 11 9).bind fun v72 =>
  (gaR E 5 h v72 y1).join.bind fun v76 =>
  (gfR h y0 11 0).bind fun v78 =>
  (isO h v76 3).bind fun _ => cV (F_X3_take E v76 v78 h) fun h81 =>
  (gfR h81 y0 11 10).bind fun v85 =>
  (gaR E 6 h81 v85 y1).join.bind fun v89 =>
  (gfR h81 y0 11 1).bind fun v91 =>
  (isO h81 v89 2).bind fun _ => cV (F_X2_take E v89 v91 h81) fun h94 =>
  (gfR h94 y0 11 11).bind fun v98 =>
  (gaR E 7 h94 v98 y1).join.bind fun v102 =>
  (gfR h94 y0 11 2).bind fun v104 =>
  (isO h94 v102 0).bind fun _ => cV (F_X0_take E v102 v104 h94) fun h107 =>
  rtV h107
theorem sJ_X11_image_71 {E : Ev} {d kc ks : Nat} {Φ : Ou → Hp → Prop} {y0 : Nat} {y1 : Int32} {h : Hp}  (q : OK (J_X11_image_71 E y0 y1 h) Φ) : WE E mX11_image (d + 1) 71 [some (.ref y0), some (.int y1)] [] h kc ks Φ := by
  refine r_aload_n eX11_image_71 rfl ?_
  refine t_gfR eX11_image_72 f_11_77 q (fun v72 q => ?_)
  refine r_iload_n eX11_image_75 rfl ?_
  refine t_gaR eX11_image_76 (by decide) q (fun v76 q => ?_)
  refine r_aload_n eX11_image_77 rfl ?_
  refine t_gfR eX11_image_78 f_11_12 q (fun v78 q => ?_)
  refine t_virtV (As := [_]) (rest := []) (d' := d + 0 + 0) (ci := 3) eX11_image_81 k_11_414 rfl rfl rfl (by omega) (Nat.le_of_ble_eq_true rfl) (Nat.le_of_ble_eq_true rfl) (fun _ q => s_X3_take q) q (fun h81 q => ?_)
  refine r_aload_n eX11_image_84 rfl ?_
  refine t_gfR eX11_image_85 f_11_81 q (fun v85 q => ?_)
  refine r_iload_n eX11_image_88 rfl ?_
  refine t_gaR eX11_image_89 (by decide) q (fun v89 q => ?_)
  refine r_aload_n eX11_image_90 rfl ?_
  refine t_gfR eX11_image_91 f_11_19 q (fun v91 q => ?_)
  refine t_virtV (As := [_]) (rest := []) (d' := d + 0 + 0) (ci := 2) eX11_image_94 k_11_417 rfl rfl rfl (by omega) (Nat.le_of_ble_eq_true rfl) (Nat.le_of_ble_eq_true rfl) (fun _ q => s_X2_take q) q (fun h94 q => ?_)
  refine r_aload_n eX11_image_97 rfl ?_
  refine t_gfR eX11_image_98 f_11_85 q (fun v98 q => ?_)
  refine r_iload_n eX11_image_101 rfl ?_
  refine t_gaR eX11_image_102 (by decide) q (fun v102 q => ?_)
  refine r_aload_n eX11_image_103 rfl ?_
  refine t_gfR eX11_image_104 f_11_26 q (fun v104 q => ?_)
  refine t_virtV (As := [_]) (rest := []) (d' := d + 0 + 0) (ci := 0) eX11_image_107 k_11_420 rfl rfl rfl (by omega) (Nat.le_of_ble_eq_true rfl) (Nat.le_of_ble_eq_true rfl) (fun _ q => s_X0_take q) q (fun h107 q => ?_)
  exact t_rtV eX11_image_110 rfl q
def J_X11_image_0 (E : Ev) (K32 : Nat → Int32 → Hp → Rs) (K71 : Nat → Int32 → Hp → Rs) (y0 : Nat) (y1 : Int32) (h : Hp) : Rs :=
  (isO h y0 11).bind fun _ => xV (F_X11_needImage E y0 y1 h) thr fun h2 =>
  (gfR h2 y0 11 9).bind fun v6 =>
  (gaR E 5 h2 v6 y1).bind fun z =>
  if z = none then
    K32 y0 y1 h2
  else
    (gfR h2 y0 11 10).bind fun v15 =>
    (gaR E 6 h2 v15 y1).bind fun z =>
    if z = none then
      K32 y0 y1 h2
    else
      (gfR h2 y0 11 11).bind fun v24 =>
      (gaR E 7 h2 v24 y1).bind fun z =>
      if z = none then
        K32 y0 y1 h2
      else
        K71 y0 y1 h2
theorem sJ_X11_image_0 {E : Ev} {d kc ks : Nat} {Φ : Ou → Hp → Prop} {y0 : Nat} {y1 : Int32} {h : Hp} {K32 : Nat → Int32 → Hp → Rs} {K71 : Nat → Int32 → Hp → Rs} (hc : 1 ≤ kc) (hs : 6 ≤ ks) (hK32 : ∀ (w0 : Nat) (w1 : Int32) (h : Hp) (kc' ks' : Nat), kc ≤ kc' + 1 → ks ≤ ks' + 6 → OK (K32 w0 w1 h) Φ → WE E mX11_image (d + 1) 32 [some (.ref w0), some (.int w1)] [] h kc' ks' Φ) (hK71 : ∀ (w0 : Nat) (w1 : Int32) (h : Hp) (kc' ks' : Nat), kc ≤ kc' + 1 → ks ≤ ks' + 6 → OK (K71 w0 w1 h) Φ → WE E mX11_image (d + 1) 71 [some (.ref w0), some (.int w1)] [] h kc' ks' Φ) (q : OK (J_X11_image_0 E K32 K71 y0 y1 h) Φ) : WE E mX11_image (d + 1) 0 [some (.ref y0), some (.int y1)] [] h kc ks Φ := by
  refine r_aload_n eX11_image_0 rfl ?_
  refine r_iload_n eX11_image_1 rfl ?_
  refine t_virtVx (As := [_]) (rest := []) (d' := d + 0 + 0) (ci := 11) (mc := 1) (ms := 6) eX11_image_2 k_11_411 l_11_411 rfl rfl rfl (by omega) (Nat.le_of_ble_eq_true rfl) (Nat.le_of_ble_eq_true rfl) (by omega) (by omega) (fun _ q => s_X11_needImage q) q (fun _ _ q => Or.inl ⟨rfl, q⟩) (fun h2 q => ?_)
  refine r_aload_n eX11_image_5 rfl ?_
  refine t_gfR eX11_image_6 f_11_77 q (fun v6 q => ?_)
  refine r_iload_n eX11_image_9 rfl ?_
  refine t_gaN eX11_image_10 eX11_image_11 (t1 := 32) (by decide) (by decide) q (fun q => ?_) (fun q => ?_)
  · exact hK32 _ _ _ _ _ (by omega) (by omega) q
  refine r_aload_n eX11_image_14 rfl ?_
  refine t_gfR eX11_image_15 f_11_81 q (fun v15 q => ?_)
  refine r_iload_n eX11_image_18 rfl ?_
  refine t_gaN eX11_image_19 eX11_image_20 (t1 := 32) (by decide) (by decide) q (fun q => ?_) (fun q => ?_)
  · exact hK32 _ _ _ _ _ (by omega) (by omega) q
  refine r_aload_n eX11_image_23 rfl ?_
  refine t_gfR eX11_image_24 f_11_85 q (fun v24 q => ?_)
  refine r_iload_n eX11_image_27 rfl ?_
  refine t_gaM eX11_image_28 eX11_image_29 (t1 := 71) (by decide) (by decide) q (fun q => ?_) (fun q => ?_)
  · exact hK32 _ _ _ _ _ (by omega) (by omega) q
  exact hK71 _ _ _ _ _ (by omega) (by omega) q
