-- 0 3 -> <java/lang/Object|<init>|()V>
theorem f_0_9 : FLg 0 9 0 1 := ⟨_, _, _, rfl, by decide, inX0, tblG_in (i := 176) (by decide +kernel) (by decide +kernel)⟩
theorem p_0_9 : FLp 0 9 0 1 true (tyX0 1) := ⟨_, _, _, tyX0, rfl, by decide, inX0, tblG_in (i := 176) (by decide +kernel) (by decide +kernel), tyX0_ok, nmX0, rfl, tyX0_ok 1 (by decide), fun _ => rfl⟩
theorem f_0_15 : FLg 0 15 0 2 := ⟨_, _, _, rfl, by decide, inX0, tblG_in (i := 179) (by decide +kernel) (by decide +kernel)⟩
theorem p_0_15 : FLp 0 15 0 2 true (tyX0 2) := ⟨_, _, _, tyX0, rfl, by decide, inX0, tblG_in (i := 179) (by decide +kernel) (by decide +kernel), tyX0_ok, nmX0, rfl, tyX0_ok 2 (by decide), fun _ => rfl⟩
theorem f_0_18 : FLg 0 18 0 3 := ⟨_, _, _, rfl, by decide, inX0, tblG_in (i := 180) (by decide +kernel) (by decide +kernel)⟩
theorem p_0_18 : FLp 0 18 0 3 true (tyX0 3) := ⟨_, _, _, tyX0, rfl, by decide, inX0, tblG_in (i := 180) (by decide +kernel) (by decide +kernel), tyX0_ok, nmX0, rfl, tyX0_ok 3 (by decide), fun _ => rfl⟩
theorem f_0_21 : FLg 0 21 0 4 := ⟨_, _, _, rfl, by decide, inX0, tblG_in (i := 184) (by decide +kernel) (by decide +kernel)⟩
theorem p_0_21 : FLp 0 21 0 4 true (tyX0 4) := ⟨_, _, _, tyX0, rfl, by decide, inX0, tblG_in (i := 184) (by decide +kernel) (by decide +kernel), tyX0_ok, nmX0, rfl, tyX0_ok 4 (by decide), fun _ => rfl⟩
theorem f_0_24 : FLg 0 24 0 6 := ⟨_, _, _, rfl, by decide, inX0, tblG_in (i := 189) (by decide +kernel) (by decide +kernel)⟩
theorem p_0_24 : FLp 0 24 0 6 true (tyX0 6) := ⟨_, _, _, tyX0, rfl, by decide, inX0, tblG_in (i := 189) (by decide +kernel) (by decide +kernel), tyX0_ok, nmX0, rfl, tyX0_ok 6 (by decide), fun _ => rfl⟩
theorem f_0_27 : FLg 0 27 0 7 := ⟨_, _, _, rfl, by decide, inX0, tblG_in (i := 191) (by decide +kernel) (by decide +kernel)⟩
theorem p_0_27 : FLp 0 27 0 7 true (tyX0 7) := ⟨_, _, _, tyX0, rfl, by decide, inX0, tblG_in (i := 191) (by decide +kernel) (by decide +kernel), tyX0_ok, nmX0, rfl, tyX0_ok 7 (by decide), fun _ => rfl⟩
theorem f_0_30 : FLg 0 30 0 8 := ⟨_, _, _, rfl, by decide, inX0, tblG_in (i := 193) (by decide +kernel) (by decide +kernel)⟩
theorem p_0_30 : FLp 0 30 0 8 true (tyX0 8) := ⟨_, _, _, tyX0, rfl, by decide, inX0, tblG_in (i := 193) (by decide +kernel) (by decide +kernel), tyX0_ok, nmX0, rfl, tyX0_ok 8 (by decide), fun _ => rfl⟩
theorem f_0_33 : FLg 0 33 0 9 := ⟨_, _, _, rfl, by decide, inX0, tblG_in (i := 195) (by decide +kernel) (by decide +kernel)⟩
theorem p_0_33 : FLp 0 33 0 9 true (tyX0 9) := ⟨_, _, _, tyX0, rfl, by decide, inX0, tblG_in (i := 195) (by decide +kernel) (by decide +kernel), tyX0_ok, nmX0, rfl, tyX0_ok 9 (by decide), fun _ => rfl⟩
theorem f_0_36 : FLg 0 36 0 10 := ⟨_, _, _, rfl, by decide, inX0, tblG_in (i := 197) (by decide +kernel) (by decide +kernel)⟩
theorem p_0_36 : FLp 0 36 0 10 true (tyX0 10) := ⟨_, _, _, tyX0, rfl, by decide, inX0, tblG_in (i := 197) (by decide +kernel) (by decide +kernel), tyX0_ok, nmX0, rfl, tyX0_ok 10 (by decide), fun _ => rfl⟩
theorem f_0_39 : FLg 0 39 0 0 := ⟨_, _, _, rfl, by decide, inX0, tblG_in (i := 174) (by decide +kernel) (by decide +kernel)⟩
theorem p_0_39 : FLp 0 39 0 0 false (tyX0 0) := ⟨_, _, _, tyX0, rfl, by decide, inX0, tblG_in (i := 174) (by decide +kernel) (by decide +kernel), tyX0_ok, nmX0, rfl, tyX0_ok 0 (by decide), fun q => by cases q⟩
-- 0 43 -> <java/lang/System|arraycopy|(Ljava/lang/Object;ILjava/lang/Object;II)V>
-- 0 49 -> <java/util/Arrays|fill|([IIII)V>
theorem f_0_55 : FLg 0 55 8 2 := ⟨_, _, _, rfl, by decide, inX8, tblG_in (i := 517) (by decide +kernel) (by decide +kernel)⟩
theorem f_0_60 : FLg 0 60 8 3 := ⟨_, _, _, rfl, by decide, inX8, tblG_in (i := 520) (by decide +kernel) (by decide +kernel)⟩
theorem k_0_64 : MLk 0 64 mX11_listedWord 0 1 := ⟨okX11_listedWord, Or.inr ⟨exL_in (i := 1720) (by decide +kernel) rfl, rfl⟩, Or.inl ⟨rfl, tblG_in (i := 1591) (by decide +kernel) (by decide +kernel)⟩⟩
theorem f_0_68 : FLg 0 68 0 5 := ⟨_, _, _, rfl, by decide, inX0, tblG_in (i := 187) (by decide +kernel) (by decide +kernel)⟩
theorem p_0_68 : FLp 0 68 0 5 false (tyX0 5) := ⟨_, _, _, tyX0, rfl, by decide, inX0, tblG_in (i := 187) (by decide +kernel) (by decide +kernel), tyX0_ok, nmX0, rfl, tyX0_ok 5 (by decide), fun q => by cases q⟩
-- 1 3 -> <java/lang/Object|<init>|()V>
theorem f_1_9 : FLg 1 9 1 3 := ⟨_, _, _, rfl, by decide, inX1, tblG_in (i := 416) (by decide +kernel) (by decide +kernel)⟩
theorem p_1_9 : FLp 1 9 1 3 true (tyX1 3) := ⟨_, _, _, tyX1, rfl, by decide, inX1, tblG_in (i := 416) (by decide +kernel) (by decide +kernel), tyX1_ok, nmX1, rfl, tyX1_ok 3 (by decide), fun _ => rfl⟩
theorem n_1_15 : CLn 1 15 6 [.null] := ⟨_, _, _, tyX6, rfl, inX6, tyX6_ok, tblG_in (i := 410) (by decide +kernel) (by decide +kernel), tblG_in (i := 283) (by decide +kernel) (by decide +kernel), iniG6, by decide +kernel, rfl⟩
theorem a_1_15 : Cond.classLink (cn 1) 15 "BurntOak$States" ∈ tblG ∧ Cond.arrayOver (.object "BurntOak$States") ∈ exL := ⟨tblG_in (i := 410) (by decide +kernel) (by decide +kernel), exL_in (i := 411) (by decide +kernel) rfl⟩
theorem f_1_17 : FLg 1 17 1 4 := ⟨_, _, _, rfl, by decide, inX1, tblG_in (i := 418) (by decide +kernel) (by decide +kernel)⟩
theorem p_1_17 : FLp 1 17 1 4 true (tyX1 4) := ⟨_, _, _, tyX1, rfl, by decide, inX1, tblG_in (i := 418) (by decide +kernel) (by decide +kernel), tyX1_ok, nmX1, rfl, tyX1_ok 4 (by decide), fun _ => rfl⟩
theorem f_1_21 : FLg 1 21 1 5 := ⟨_, _, _, rfl, by decide, inX1, tblG_in (i := 419) (by decide +kernel) (by decide +kernel)⟩
theorem p_1_21 : FLp 1 21 1 5 true (tyX1 5) := ⟨_, _, _, tyX1, rfl, by decide, inX1, tblG_in (i := 419) (by decide +kernel) (by decide +kernel), tyX1_ok, nmX1, rfl, tyX1_ok 5 (by decide), fun _ => rfl⟩
theorem f_1_24 : FLg 1 24 1 6 := ⟨_, _, _, rfl, by decide, inX1, tblG_in (i := 420) (by decide +kernel) (by decide +kernel)⟩
theorem p_1_24 : FLp 1 24 1 6 true (tyX1 6) := ⟨_, _, _, tyX1, rfl, by decide, inX1, tblG_in (i := 420) (by decide +kernel) (by decide +kernel), tyX1_ok, nmX1, rfl, tyX1_ok 6 (by decide), fun _ => rfl⟩
theorem f_1_27 : FLg 1 27 1 7 := ⟨_, _, _, rfl, by decide, inX1, tblG_in (i := 421) (by decide +kernel) (by decide +kernel)⟩
theorem p_1_27 : FLp 1 27 1 7 true (tyX1 7) := ⟨_, _, _, tyX1, rfl, by decide, inX1, tblG_in (i := 421) (by decide +kernel) (by decide +kernel), tyX1_ok, nmX1, rfl, tyX1_ok 7 (by decide), fun _ => rfl⟩
theorem k_1_30 : MLk 1 30 mX6_init 2 0 := ⟨okX6_init, Or.inr ⟨exL_in (i := 412) (by decide +kernel) rfl, rfl⟩, Or.inr (Or.inr ⟨rfl, rfl, tblG_in (i := 285) (by decide +kernel) (by decide +kernel), rfl, rfl⟩)⟩
theorem f_1_31 : FLg 1 31 1 8 := ⟨_, _, _, rfl, by decide, inX1, tblG_in (i := 422) (by decide +kernel) (by decide +kernel)⟩
theorem p_1_31 : FLp 1 31 1 8 true (tyX1 8) := ⟨_, _, _, tyX1, rfl, by decide, inX1, tblG_in (i := 422) (by decide +kernel) (by decide +kernel), tyX1_ok, nmX1, rfl, tyX1_ok 8 (by decide), fun _ => rfl⟩
theorem f_1_35 : FLg 1 35 1 9 := ⟨_, _, _, rfl, by decide, inX1, tblG_in (i := 423) (by decide +kernel) (by decide +kernel)⟩
theorem p_1_35 : FLp 1 35 1 9 true (tyX1 9) := ⟨_, _, _, tyX1, rfl, by decide, inX1, tblG_in (i := 423) (by decide +kernel) (by decide +kernel), tyX1_ok, nmX1, rfl, tyX1_ok 9 (by decide), fun _ => rfl⟩
theorem f_1_38 : FLg 1 38 1 10 := ⟨_, _, _, rfl, by decide, inX1, tblG_in (i := 424) (by decide +kernel) (by decide +kernel)⟩
theorem p_1_38 : FLp 1 38 1 10 true (tyX1 10) := ⟨_, _, _, tyX1, rfl, by decide, inX1, tblG_in (i := 424) (by decide +kernel) (by decide +kernel), tyX1_ok, nmX1, rfl, tyX1_ok 10 (by decide), fun _ => rfl⟩
theorem f_1_41 : FLg 1 41 1 0 := ⟨_, _, _, rfl, by decide, inX1, tblG_in (i := 413) (by decide +kernel) (by decide +kernel)⟩
theorem p_1_41 : FLp 1 41 1 0 true (tyX1 0) := ⟨_, _, _, tyX1, rfl, by decide, inX1, tblG_in (i := 413) (by decide +kernel) (by decide +kernel), tyX1_ok, nmX1, rfl, tyX1_ok 0 (by decide), fun _ => rfl⟩
theorem f_1_45 : FLg 1 45 1 1 := ⟨_, _, _, rfl, by decide, inX1, tblG_in (i := 414) (by decide +kernel) (by decide +kernel)⟩
theorem p_1_45 : FLp 1 45 1 1 false (tyX1 1) := ⟨_, _, _, tyX1, rfl, by decide, inX1, tblG_in (i := 414) (by decide +kernel) (by decide +kernel), tyX1_ok, nmX1, rfl, tyX1_ok 1 (by decide), fun q => by cases q⟩
theorem f_1_49 : FLg 1 49 1 2 := ⟨_, _, _, rfl, by decide, inX1, tblG_in (i := 415) (by decide +kernel) (by decide +kernel)⟩
theorem p_1_49 : FLp 1 49 1 2 false (tyX1 2) := ⟨_, _, _, tyX1, rfl, by decide, inX1, tblG_in (i := 415) (by decide +kernel) (by decide +kernel), tyX1_ok, nmX1, rfl, tyX1_ok 2 (by decide), fun q => by cases q⟩
theorem k_1_53 : MLk 1 53 mX11_isIn 0 2 := ⟨okX11_isIn, Or.inr ⟨exL_in (i := 1566) (by decide +kernel) rfl, rfl⟩, Or.inl ⟨rfl, tblG_in (i := 791) (by decide +kernel) (by decide +kernel)⟩⟩
theorem f_1_57 : FLg 1 57 9 0 := ⟨_, _, _, rfl, by decide, inX9, tblG_in (i := 337) (by decide +kernel) (by decide +kernel)⟩
theorem f_1_63 : FLg 1 63 10 0 := ⟨_, _, _, rfl, by decide, inX10, tblG_in (i := 229) (by decide +kernel) (by decide +kernel)⟩
theorem f_1_69 : FLg 1 69 3 3 := ⟨_, _, _, rfl, by decide, inX3, tblG_in (i := 53) (by decide +kernel) (by decide +kernel)⟩
-- 1 74 -> <java/util/Arrays|fill|([IIII)V>
theorem k_1_80 : MLk 1 80 mX6_clear 1 0 := ⟨okX6_clear, Or.inl (tblG_in (i := 1570) (by decide +kernel) (by decide +kernel)), Or.inr (Or.inl ⟨rfl, tblG_in (i := 1104) (by decide +kernel) (by decide +kernel), tblG_in (i := 1105) (by decide +kernel) (by decide +kernel), rfl⟩)⟩
theorem l_1_80 : Cond.methodLink (cn 1) 80 (my mX6_clear) ∈ tblG := tblG_in (i := 1570) (by decide +kernel) (by decide +kernel)
theorem k_1_83 : MLk 1 83 mX6_add 1 1 := ⟨okX6_add, Or.inl (tblG_in (i := 1571) (by decide +kernel) (by decide +kernel)), Or.inr (Or.inl ⟨rfl, tblG_in (i := 1349) (by decide +kernel) (by decide +kernel), tblG_in (i := 1350) (by decide +kernel) (by decide +kernel), rfl⟩)⟩
theorem l_1_83 : Cond.methodLink (cn 1) 83 (my mX6_add) ∈ tblG := tblG_in (i := 1571) (by decide +kernel) (by decide +kernel)
theorem g_1_87 : Cond.constant (cn 1) 87 (2147483647) ∈ tblG := tblG_in (i := 1576) (by decide +kernel) (by decide +kernel)
theorem k_1_88 : MLk 1 88 mX1_arriving 1 3 := ⟨okX1_arriving, Or.inl (tblG_in (i := 1577) (by decide +kernel) (by decide +kernel)), Or.inr (Or.inl ⟨rfl, tblG_in (i := 1579) (by decide +kernel) (by decide +kernel), tblG_sel (i := 46) (by decide +kernel) (by decide +kernel), rfl⟩)⟩
theorem l_1_88 : Cond.methodLink (cn 1) 88 (my mX1_arriving) ∈ tblG := tblG_in (i := 1577) (by decide +kernel) (by decide +kernel)
theorem k_1_92 : MLk 1 92 mX11_lowest 0 1 := ⟨okX11_lowest, Or.inr ⟨exL_in (i := 1589) (by decide +kernel) rfl, rfl⟩, Or.inl ⟨rfl, tblG_in (i := 1357) (by decide +kernel) (by decide +kernel)⟩⟩
theorem k_1_96 : MLk 1 96 mX1_allGoOn 1 2 := ⟨okX1_allGoOn, Or.inl (tblG_in (i := 1600) (by decide +kernel) (by decide +kernel)), Or.inr (Or.inl ⟨rfl, tblG_in (i := 1602) (by decide +kernel) (by decide +kernel), tblG_sel (i := 48) (by decide +kernel) (by decide +kernel), rfl⟩)⟩
theorem l_1_96 : Cond.methodLink (cn 1) 96 (my mX1_allGoOn) ∈ tblG := tblG_in (i := 1600) (by decide +kernel) (by decide +kernel)
theorem k_1_100 : MLk 1 100 mX1_search 1 2 := ⟨okX1_search, Or.inl (tblG_in (i := 1605) (by decide +kernel) (by decide +kernel)), Or.inr (Or.inl ⟨rfl, tblG_in (i := 1574) (by decide +kernel) (by decide +kernel), tblG_sel (i := 45) (by decide +kernel) (by decide +kernel), rfl⟩)⟩
theorem l_1_100 : Cond.methodLink (cn 1) 100 (my mX1_search) ∈ tblG := tblG_in (i := 1605) (by decide +kernel) (by decide +kernel)
theorem k_1_103 : MLk 1 103 mX6_list 1 1 := ⟨okX6_list, Or.inl (tblG_in (i := 1582) (by decide +kernel) (by decide +kernel)), Or.inr (Or.inl ⟨rfl, tblG_in (i := 1353) (by decide +kernel) (by decide +kernel), tblG_in (i := 1354) (by decide +kernel) (by decide +kernel), rfl⟩)⟩
theorem l_1_103 : Cond.methodLink (cn 1) 103 (my mX6_list) ∈ tblG := tblG_in (i := 1582) (by decide +kernel) (by decide +kernel)
theorem k_1_106 : MLk 1 106 mX9_become 1 1 := ⟨okX9_become, Or.inl (tblG_in (i := 1581) (by decide +kernel) (by decide +kernel)), Or.inr (Or.inl ⟨rfl, tblG_in (i := 1180) (by decide +kernel) (by decide +kernel), tblG_in (i := 1181) (by decide +kernel) (by decide +kernel), rfl⟩)⟩
theorem l_1_106 : Cond.methodLink (cn 1) 106 (my mX9_become) ∈ tblG := tblG_in (i := 1581) (by decide +kernel) (by decide +kernel)
theorem k_1_109 : MLk 1 109 mX11_listedWord 0 1 := ⟨okX11_listedWord, Or.inr ⟨exL_in (i := 1590) (by decide +kernel) rfl, rfl⟩, Or.inl ⟨rfl, tblG_in (i := 1591) (by decide +kernel) (by decide +kernel)⟩⟩
theorem k_1_113 : MLk 1 113 mX9_lead 1 4 := ⟨okX9_lead, Or.inl (tblG_in (i := 1594) (by decide +kernel) (by decide +kernel)), Or.inr (Or.inl ⟨rfl, tblG_in (i := 1363) (by decide +kernel) (by decide +kernel), tblG_in (i := 1364) (by decide +kernel) (by decide +kernel), rfl⟩)⟩
theorem l_1_113 : Cond.methodLink (cn 1) 113 (my mX9_lead) ∈ tblG := tblG_in (i := 1594) (by decide +kernel) (by decide +kernel)
theorem k_1_117 : MLk 1 117 mX6_isEmpty 1 0 := ⟨okX6_isEmpty, Or.inl (tblG_in (i := 1604) (by decide +kernel) (by decide +kernel)), Or.inr (Or.inl ⟨rfl, tblG_in (i := 1427) (by decide +kernel) (by decide +kernel), tblG_in (i := 1428) (by decide +kernel) (by decide +kernel), rfl⟩)⟩
theorem l_1_117 : Cond.methodLink (cn 1) 117 (my mX6_isEmpty) ∈ tblG := tblG_in (i := 1604) (by decide +kernel) (by decide +kernel)
-- 1 121 -> <java/lang/Integer|bitCount|(I)I>
theorem k_1_126 : MLk 1 126 mX1_judge 1 2 := ⟨okX1_judge, Or.inl (tblG_in (i := 1595) (by decide +kernel) (by decide +kernel)), Or.inr (Or.inl ⟨rfl, tblG_in (i := 1597) (by decide +kernel) (by decide +kernel), tblG_sel (i := 47) (by decide +kernel) (by decide +kernel), rfl⟩)⟩
theorem l_1_126 : Cond.methodLink (cn 1) 126 (my mX1_judge) ∈ tblG := tblG_in (i := 1595) (by decide +kernel) (by decide +kernel)
theorem k_1_130 : MLk 1 130 mX10_placesOf 1 1 := ⟨okX10_placesOf, Or.inl (tblG_in (i := 1599) (by decide +kernel) (by decide +kernel)), Or.inr (Or.inl ⟨rfl, tblG_in (i := 1450) (by decide +kernel) (by decide +kernel), tblG_in (i := 1451) (by decide +kernel) (by decide +kernel), rfl⟩)⟩
theorem l_1_130 : Cond.methodLink (cn 1) 130 (my mX10_placesOf) ∈ tblG := tblG_in (i := 1599) (by decide +kernel) (by decide +kernel)
-- 2 3 -> <java/lang/Object|<init>|()V>
theorem f_2_9 : FLg 2 9 2 1 := ⟨_, _, _, rfl, by decide, inX2, tblG_in (i := 138) (by decide +kernel) (by decide +kernel)⟩
theorem p_2_9 : FLp 2 9 2 1 true (tyX2 1) := ⟨_, _, _, tyX2, rfl, by decide, inX2, tblG_in (i := 138) (by decide +kernel) (by decide +kernel), tyX2_ok, nmX2, rfl, tyX2_ok 1 (by decide), fun _ => rfl⟩
theorem f_2_15 : FLg 2 15 2 3 := ⟨_, _, _, rfl, by decide, inX2, tblG_in (i := 142) (by decide +kernel) (by decide +kernel)⟩
theorem p_2_15 : FLp 2 15 2 3 true (tyX2 3) := ⟨_, _, _, tyX2, rfl, by decide, inX2, tblG_in (i := 142) (by decide +kernel) (by decide +kernel), tyX2_ok, nmX2, rfl, tyX2_ok 3 (by decide), fun _ => rfl⟩
theorem f_2_18 : FLg 2 18 2 4 := ⟨_, _, _, rfl, by decide, inX2, tblG_in (i := 143) (by decide +kernel) (by decide +kernel)⟩
theorem p_2_18 : FLp 2 18 2 4 true (tyX2 4) := ⟨_, _, _, tyX2, rfl, by decide, inX2, tblG_in (i := 143) (by decide +kernel) (by decide +kernel), tyX2_ok, nmX2, rfl, tyX2_ok 4 (by decide), fun _ => rfl⟩
theorem f_2_21 : FLg 2 21 2 5 := ⟨_, _, _, rfl, by decide, inX2, tblG_in (i := 145) (by decide +kernel) (by decide +kernel)⟩
theorem p_2_21 : FLp 2 21 2 5 true (tyX2 5) := ⟨_, _, _, tyX2, rfl, by decide, inX2, tblG_in (i := 145) (by decide +kernel) (by decide +kernel), tyX2_ok, nmX2, rfl, tyX2_ok 5 (by decide), fun _ => rfl⟩
theorem f_2_25 : FLg 2 25 2 6 := ⟨_, _, _, rfl, by decide, inX2, tblG_in (i := 147) (by decide +kernel) (by decide +kernel)⟩
theorem p_2_25 : FLp 2 25 2 6 true (tyX2 6) := ⟨_, _, _, tyX2, rfl, by decide, inX2, tblG_in (i := 147) (by decide +kernel) (by decide +kernel), tyX2_ok, nmX2, rfl, tyX2_ok 6 (by decide), fun _ => rfl⟩
theorem f_2_28 : FLg 2 28 2 7 := ⟨_, _, _, rfl, by decide, inX2, tblG_in (i := 149) (by decide +kernel) (by decide +kernel)⟩
theorem p_2_28 : FLp 2 28 2 7 true (tyX2 7) := ⟨_, _, _, tyX2, rfl, by decide, inX2, tblG_in (i := 149) (by decide +kernel) (by decide +kernel), tyX2_ok, nmX2, rfl, tyX2_ok 7 (by decide), fun _ => rfl⟩
theorem f_2_31 : FLg 2 31 2 0 := ⟨_, _, _, rfl, by decide, inX2, tblG_in (i := 136) (by decide +kernel) (by decide +kernel)⟩
theorem p_2_31 : FLp 2 31 2 0 false (tyX2 0) := ⟨_, _, _, tyX2, rfl, by decide, inX2, tblG_in (i := 136) (by decide +kernel) (by decide +kernel), tyX2_ok, nmX2, rfl, tyX2_ok 0 (by decide), fun q => by cases q⟩
theorem f_2_35 : FLg 2 35 2 2 := ⟨_, _, _, rfl, by decide, inX2, tblG_in (i := 140) (by decide +kernel) (by decide +kernel)⟩
theorem p_2_35 : FLp 2 35 2 2 false (tyX2 2) := ⟨_, _, _, tyX2, rfl, by decide, inX2, tblG_in (i := 140) (by decide +kernel) (by decide +kernel), tyX2_ok, nmX2, rfl, tyX2_ok 2 (by decide), fun q => by cases q⟩
theorem k_2_38 : MLk 2 38 mX2_kindsOf 1 2 := ⟨okX2_kindsOf, Or.inl (tblG_in (i := 1212) (by decide +kernel) (by decide +kernel)), Or.inr (Or.inl ⟨rfl, tblG_in (i := 1172) (by decide +kernel) (by decide +kernel), tblG_in (i := 1173) (by decide +kernel) (by decide +kernel), rfl⟩)⟩
theorem l_2_38 : Cond.methodLink (cn 2) 38 (my mX2_kindsOf) ∈ tblG := tblG_in (i := 1212) (by decide +kernel) (by decide +kernel)
theorem k_2_42 : MLk 2 42 mX11_isIn 0 2 := ⟨okX11_isIn, Or.inr ⟨exL_in (i := 1213) (by decide +kernel) rfl, rfl⟩, Or.inl ⟨rfl, tblG_in (i := 791) (by decide +kernel) (by decide +kernel)⟩⟩
-- 2 46 -> <java/lang/System|arraycopy|(Ljava/lang/Object;ILjava/lang/Object;II)V>
-- 3 3 -> <java/lang/Object|<init>|()V>
theorem f_3_9 : FLg 3 9 3 1 := ⟨_, _, _, rfl, by decide, inX3, tblG_in (i := 51) (by decide +kernel) (by decide +kernel)⟩
theorem p_3_9 : FLp 3 9 3 1 true (tyX3 1) := ⟨_, _, _, tyX3, rfl, by decide, inX3, tblG_in (i := 51) (by decide +kernel) (by decide +kernel), tyX3_ok, nmX3, rfl, tyX3_ok 1 (by decide), fun _ => rfl⟩
theorem f_3_15 : FLg 3 15 3 2 := ⟨_, _, _, rfl, by decide, inX3, tblG_in (i := 52) (by decide +kernel) (by decide +kernel)⟩
theorem p_3_15 : FLp 3 15 3 2 true (tyX3 2) := ⟨_, _, _, tyX3, rfl, by decide, inX3, tblG_in (i := 52) (by decide +kernel) (by decide +kernel), tyX3_ok, nmX3, rfl, tyX3_ok 2 (by decide), fun _ => rfl⟩
theorem f_3_18 : FLg 3 18 3 4 := ⟨_, _, _, rfl, by decide, inX3, tblG_in (i := 58) (by decide +kernel) (by decide +kernel)⟩
theorem p_3_18 : FLp 3 18 3 4 true (tyX3 4) := ⟨_, _, _, tyX3, rfl, by decide, inX3, tblG_in (i := 58) (by decide +kernel) (by decide +kernel), tyX3_ok, nmX3, rfl, tyX3_ok 4 (by decide), fun _ => rfl⟩
theorem f_3_21 : FLg 3 21 3 5 := ⟨_, _, _, rfl, by decide, inX3, tblG_in (i := 60) (by decide +kernel) (by decide +kernel)⟩
theorem p_3_21 : FLp 3 21 3 5 true (tyX3 5) := ⟨_, _, _, tyX3, rfl, by decide, inX3, tblG_in (i := 60) (by decide +kernel) (by decide +kernel), tyX3_ok, nmX3, rfl, tyX3_ok 5 (by decide), fun _ => rfl⟩
theorem f_3_24 : FLg 3 24 3 6 := ⟨_, _, _, rfl, by decide, inX3, tblG_in (i := 62) (by decide +kernel) (by decide +kernel)⟩
theorem p_3_24 : FLp 3 24 3 6 true (tyX3 6) := ⟨_, _, _, tyX3, rfl, by decide, inX3, tblG_in (i := 62) (by decide +kernel) (by decide +kernel), tyX3_ok, nmX3, rfl, tyX3_ok 6 (by decide), fun _ => rfl⟩
theorem f_3_27 : FLg 3 27 3 7 := ⟨_, _, _, rfl, by decide, inX3, tblG_in (i := 65) (by decide +kernel) (by decide +kernel)⟩
theorem p_3_27 : FLp 3 27 3 7 true (tyX3 7) := ⟨_, _, _, tyX3, rfl, by decide, inX3, tblG_in (i := 65) (by decide +kernel) (by decide +kernel), tyX3_ok, nmX3, rfl, tyX3_ok 7 (by decide), fun _ => rfl⟩
theorem f_3_30 : FLg 3 30 3 8 := ⟨_, _, _, rfl, by decide, inX3, tblG_in (i := 68) (by decide +kernel) (by decide +kernel)⟩
theorem p_3_30 : FLp 3 30 3 8 true (tyX3 8) := ⟨_, _, _, tyX3, rfl, by decide, inX3, tblG_in (i := 68) (by decide +kernel) (by decide +kernel), tyX3_ok, nmX3, rfl, tyX3_ok 8 (by decide), fun _ => rfl⟩
theorem f_3_33 : FLg 3 33 3 9 := ⟨_, _, _, rfl, by decide, inX3, tblG_in (i := 73) (by decide +kernel) (by decide +kernel)⟩
theorem p_3_33 : FLp 3 33 3 9 true (tyX3 9) := ⟨_, _, _, tyX3, rfl, by decide, inX3, tblG_in (i := 73) (by decide +kernel) (by decide +kernel), tyX3_ok, nmX3, rfl, tyX3_ok 9 (by decide), fun _ => rfl⟩
theorem f_3_36 : FLg 3 36 3 10 := ⟨_, _, _, rfl, by decide, inX3, tblG_in (i := 75) (by decide +kernel) (by decide +kernel)⟩
theorem p_3_36 : FLp 3 36 3 10 true (tyX3 10) := ⟨_, _, _, tyX3, rfl, by decide, inX3, tblG_in (i := 75) (by decide +kernel) (by decide +kernel), tyX3_ok, nmX3, rfl, tyX3_ok 10 (by decide), fun _ => rfl⟩
theorem f_3_39 : FLg 3 39 3 12 := ⟨_, _, _, rfl, by decide, inX3, tblG_in (i := 80) (by decide +kernel) (by decide +kernel)⟩
theorem p_3_39 : FLp 3 39 3 12 true (tyX3 12) := ⟨_, _, _, tyX3, rfl, by decide, inX3, tblG_in (i := 80) (by decide +kernel) (by decide +kernel), tyX3_ok, nmX3, rfl, tyX3_ok 12 (by decide), fun _ => rfl⟩
theorem f_3_42 : FLg 3 42 3 13 := ⟨_, _, _, rfl, by decide, inX3, tblG_in (i := 82) (by decide +kernel) (by decide +kernel)⟩
theorem p_3_42 : FLp 3 42 3 13 true (tyX3 13) := ⟨_, _, _, tyX3, rfl, by decide, inX3, tblG_in (i := 82) (by decide +kernel) (by decide +kernel), tyX3_ok, nmX3, rfl, tyX3_ok 13 (by decide), fun _ => rfl⟩
theorem f_3_45 : FLg 3 45 3 14 := ⟨_, _, _, rfl, by decide, inX3, tblG_in (i := 85) (by decide +kernel) (by decide +kernel)⟩
theorem p_3_45 : FLp 3 45 3 14 true (tyX3 14) := ⟨_, _, _, tyX3, rfl, by decide, inX3, tblG_in (i := 85) (by decide +kernel) (by decide +kernel), tyX3_ok, nmX3, rfl, tyX3_ok 14 (by decide), fun _ => rfl⟩
theorem f_3_49 : FLg 3 49 3 15 := ⟨_, _, _, rfl, by decide, inX3, tblG_in (i := 87) (by decide +kernel) (by decide +kernel)⟩
theorem p_3_49 : FLp 3 49 3 15 true (tyX3 15) := ⟨_, _, _, tyX3, rfl, by decide, inX3, tblG_in (i := 87) (by decide +kernel) (by decide +kernel), tyX3_ok, nmX3, rfl, tyX3_ok 15 (by decide), fun _ => rfl⟩
theorem f_3_52 : FLg 3 52 3 16 := ⟨_, _, _, rfl, by decide, inX3, tblG_in (i := 90) (by decide +kernel) (by decide +kernel)⟩
theorem p_3_52 : FLp 3 52 3 16 true (tyX3 16) := ⟨_, _, _, tyX3, rfl, by decide, inX3, tblG_in (i := 90) (by decide +kernel) (by decide +kernel), tyX3_ok, nmX3, rfl, tyX3_ok 16 (by decide), fun _ => rfl⟩
theorem f_3_55 : FLg 3 55 3 0 := ⟨_, _, _, rfl, by decide, inX3, tblG_in (i := 48) (by decide +kernel) (by decide +kernel)⟩
theorem p_3_55 : FLp 3 55 3 0 false (tyX3 0) := ⟨_, _, _, tyX3, rfl, by decide, inX3, tblG_in (i := 48) (by decide +kernel) (by decide +kernel), tyX3_ok, nmX3, rfl, tyX3_ok 0 (by decide), fun q => by cases q⟩
theorem f_3_59 : FLg 3 59 3 3 := ⟨_, _, _, rfl, by decide, inX3, tblG_in (i := 54) (by decide +kernel) (by decide +kernel)⟩
theorem p_3_59 : FLp 3 59 3 3 false (tyX3 3) := ⟨_, _, _, tyX3, rfl, by decide, inX3, tblG_in (i := 54) (by decide +kernel) (by decide +kernel), tyX3_ok, nmX3, rfl, tyX3_ok 3 (by decide), fun q => by cases q⟩
theorem f_3_62 : FLg 3 62 3 11 := ⟨_, _, _, rfl, by decide, inX3, tblG_in (i := 79) (by decide +kernel) (by decide +kernel)⟩
theorem p_3_62 : FLp 3 62 3 11 false (tyX3 11) := ⟨_, _, _, tyX3, rfl, by decide, inX3, tblG_in (i := 79) (by decide +kernel) (by decide +kernel), tyX3_ok, nmX3, rfl, tyX3_ok 11 (by decide), fun q => by cases q⟩
-- 3 65 -> <java/lang/System|arraycopy|(Ljava/lang/Object;ILjava/lang/Object;II)V>
-- 4 3 -> <java/lang/Object|<init>|()V>
theorem f_4_9 : FLg 4 9 4 1 := ⟨_, _, _, rfl, by decide, inX4, tblG_in (i := 380) (by decide +kernel) (by decide +kernel)⟩
theorem p_4_9 : FLp 4 9 4 1 false (tyX4 1) := ⟨_, _, _, tyX4, rfl, by decide, inX4, tblG_in (i := 380) (by decide +kernel) (by decide +kernel), tyX4_ok, nmX4, rfl, tyX4_ok 1 (by decide), fun q => by cases q⟩
theorem f_4_15 : FLg 4 15 4 2 := ⟨_, _, _, rfl, by decide, inX4, tblG_in (i := 381) (by decide +kernel) (by decide +kernel)⟩
theorem p_4_15 : FLp 4 15 4 2 false (tyX4 2) := ⟨_, _, _, tyX4, rfl, by decide, inX4, tblG_in (i := 381) (by decide +kernel) (by decide +kernel), tyX4_ok, nmX4, rfl, tyX4_ok 2 (by decide), fun q => by cases q⟩
theorem f_4_18 : FLg 4 18 4 3 := ⟨_, _, _, rfl, by decide, inX4, tblG_in (i := 382) (by decide +kernel) (by decide +kernel)⟩
theorem p_4_18 : FLp 4 18 4 3 true (tyX4 3) := ⟨_, _, _, tyX4, rfl, by decide, inX4, tblG_in (i := 382) (by decide +kernel) (by decide +kernel), tyX4_ok, nmX4, rfl, tyX4_ok 3 (by decide), fun _ => rfl⟩
theorem n_4_21 : CLn 4 21 6 [.null] := ⟨_, _, _, tyX6, rfl, inX6, tyX6_ok, tblG_in (i := 377) (by decide +kernel) (by decide +kernel), tblG_in (i := 283) (by decide +kernel) (by decide +kernel), iniG6, by decide +kernel, rfl⟩
theorem k_4_23 : MLk 4 23 mX6_init 2 0 := ⟨okX6_init, Or.inr ⟨exL_in (i := 378) (by decide +kernel) rfl, rfl⟩, Or.inr (Or.inr ⟨rfl, rfl, tblG_in (i := 285) (by decide +kernel) (by decide +kernel), rfl, rfl⟩)⟩
theorem f_4_24 : FLg 4 24 4 4 := ⟨_, _, _, rfl, by decide, inX4, tblG_in (i := 383) (by decide +kernel) (by decide +kernel)⟩
theorem p_4_24 : FLp 4 24 4 4 true (tyX4 4) := ⟨_, _, _, tyX4, rfl, by decide, inX4, tblG_in (i := 383) (by decide +kernel) (by decide +kernel), tyX4_ok, nmX4, rfl, tyX4_ok 4 (by decide), fun _ => rfl⟩
theorem f_4_28 : FLg 4 28 4 5 := ⟨_, _, _, rfl, by decide, inX4, tblG_in (i := 384) (by decide +kernel) (by decide +kernel)⟩
theorem p_4_28 : FLp 4 28 4 5 true (tyX4 5) := ⟨_, _, _, tyX4, rfl, by decide, inX4, tblG_in (i := 384) (by decide +kernel) (by decide +kernel), tyX4_ok, nmX4, rfl, tyX4_ok 5 (by decide), fun _ => rfl⟩
theorem f_4_31 : FLg 4 31 4 6 := ⟨_, _, _, rfl, by decide, inX4, tblG_in (i := 385) (by decide +kernel) (by decide +kernel)⟩
theorem p_4_31 : FLp 4 31 4 6 true (tyX4 6) := ⟨_, _, _, tyX4, rfl, by decide, inX4, tblG_in (i := 385) (by decide +kernel) (by decide +kernel), tyX4_ok, nmX4, rfl, tyX4_ok 6 (by decide), fun _ => rfl⟩
theorem f_4_34 : FLg 4 34 4 7 := ⟨_, _, _, rfl, by decide, inX4, tblG_in (i := 386) (by decide +kernel) (by decide +kernel)⟩
theorem p_4_34 : FLp 4 34 4 7 true (tyX4 7) := ⟨_, _, _, tyX4, rfl, by decide, inX4, tblG_in (i := 386) (by decide +kernel) (by decide +kernel), tyX4_ok, nmX4, rfl, tyX4_ok 7 (by decide), fun _ => rfl⟩
theorem f_4_37 : FLg 4 37 4 0 := ⟨_, _, _, rfl, by decide, inX4, tblG_in (i := 379) (by decide +kernel) (by decide +kernel)⟩
theorem p_4_37 : FLp 4 37 4 0 true (tyX4 0) := ⟨_, _, _, tyX4, rfl, by decide, inX4, tblG_in (i := 379) (by decide +kernel) (by decide +kernel), tyX4_ok, nmX4, rfl, tyX4_ok 0 (by decide), fun _ => rfl⟩
-- 4 41 -> <java/util/Arrays|fill|([II)V>
theorem g_4_47 : Cond.constant (cn 4) 47 (1000000) ∈ tblG := tblG_in (i := 1482) (by decide +kernel) (by decide +kernel)
theorem k_4_48 : MLk 4 48 mX4_share 1 3 := ⟨okX4_share, Or.inl (tblG_in (i := 1489) (by decide +kernel) (by decide +kernel)), Or.inr (Or.inl ⟨rfl, tblG_in (i := 1491) (by decide +kernel) (by decide +kernel), tblG_sel (i := 42) (by decide +kernel) (by decide +kernel), rfl⟩)⟩
theorem l_4_48 : Cond.methodLink (cn 4) 48 (my mX4_share) ∈ tblG := tblG_in (i := 1489) (by decide +kernel) (by decide +kernel)
theorem k_4_52 : MLk 4 52 mX6_list 1 1 := ⟨okX6_list, Or.inl (tblG_in (i := 1493) (by decide +kernel) (by decide +kernel)), Or.inr (Or.inl ⟨rfl, tblG_in (i := 1353) (by decide +kernel) (by decide +kernel), tblG_in (i := 1354) (by decide +kernel) (by decide +kernel), rfl⟩)⟩
theorem l_4_52 : Cond.methodLink (cn 4) 52 (my mX6_list) ∈ tblG := tblG_in (i := 1493) (by decide +kernel) (by decide +kernel)
theorem f_4_55 : FLg 4 55 9 2 := ⟨_, _, _, rfl, by decide, inX9, tblG_in (i := 341) (by decide +kernel) (by decide +kernel)⟩
theorem f_4_61 : FLg 4 61 0 3 := ⟨_, _, _, rfl, by decide, inX0, tblG_in (i := 181) (by decide +kernel) (by decide +kernel)⟩
theorem k_4_66 : MLk 4 66 mX6_clear 1 0 := ⟨okX6_clear, Or.inl (tblG_in (i := 1487) (by decide +kernel) (by decide +kernel)), Or.inr (Or.inl ⟨rfl, tblG_in (i := 1104) (by decide +kernel) (by decide +kernel), tblG_in (i := 1105) (by decide +kernel) (by decide +kernel), rfl⟩)⟩
theorem l_4_66 : Cond.methodLink (cn 4) 66 (my mX6_clear) ∈ tblG := tblG_in (i := 1487) (by decide +kernel) (by decide +kernel)
theorem f_4_69 : FLg 4 69 0 4 := ⟨_, _, _, rfl, by decide, inX0, tblG_in (i := 185) (by decide +kernel) (by decide +kernel)⟩
theorem k_4_72 : MLk 4 72 mX9_lead 1 4 := ⟨okX9_lead, Or.inl (tblG_in (i := 1488) (by decide +kernel) (by decide +kernel)), Or.inr (Or.inl ⟨rfl, tblG_in (i := 1363) (by decide +kernel) (by decide +kernel), tblG_in (i := 1364) (by decide +kernel) (by decide +kernel), rfl⟩)⟩
theorem l_4_72 : Cond.methodLink (cn 4) 72 (my mX9_lead) ∈ tblG := tblG_in (i := 1488) (by decide +kernel) (by decide +kernel)
theorem f_4_76 : FLg 4 76 9 0 := ⟨_, _, _, rfl, by decide, inX9, tblG_in (i := 338) (by decide +kernel) (by decide +kernel)⟩
theorem f_4_80 : FLg 4 80 10 0 := ⟨_, _, _, rfl, by decide, inX10, tblG_in (i := 231) (by decide +kernel) (by decide +kernel)⟩
theorem f_4_86 : FLg 4 86 3 3 := ⟨_, _, _, rfl, by decide, inX3, tblG_in (i := 57) (by decide +kernel) (by decide +kernel)⟩
theorem f_4_92 : FLg 4 92 3 8 := ⟨_, _, _, rfl, by decide, inX3, tblG_in (i := 69) (by decide +kernel) (by decide +kernel)⟩
theorem k_4_95 : MLk 4 95 mX4_start 1 1 := ⟨okX4_start, Or.inl (tblG_in (i := 1531) (by decide +kernel) (by decide +kernel)), Or.inr (Or.inl ⟨rfl, tblG_in (i := 1478) (by decide +kernel) (by decide +kernel), tblG_in (i := 1479) (by decide +kernel) (by decide +kernel), rfl⟩)⟩
theorem l_4_95 : Cond.methodLink (cn 4) 95 (my mX4_start) ∈ tblG := tblG_in (i := 1531) (by decide +kernel) (by decide +kernel)
theorem k_4_99 : MLk 4 99 mX4_goOn 1 2 := ⟨okX4_goOn, Or.inl (tblG_in (i := 1532) (by decide +kernel) (by decide +kernel)), Or.inr (Or.inl ⟨rfl, tblG_in (i := 1484) (by decide +kernel) (by decide +kernel), tblG_in (i := 1485) (by decide +kernel) (by decide +kernel), rfl⟩)⟩
theorem l_4_99 : Cond.methodLink (cn 4) 99 (my mX4_goOn) ∈ tblG := tblG_in (i := 1532) (by decide +kernel) (by decide +kernel)
theorem k_4_103 : MLk 4 103 mX4_sumUp 1 1 := ⟨okX4_sumUp, Or.inl (tblG_in (i := 1533) (by decide +kernel) (by decide +kernel)), Or.inr (Or.inl ⟨rfl, tblG_in (i := 1535) (by decide +kernel) (by decide +kernel), tblG_sel (i := 43) (by decide +kernel) (by decide +kernel), rfl⟩)⟩
theorem l_4_103 : Cond.methodLink (cn 4) 103 (my mX4_sumUp) ∈ tblG := tblG_in (i := 1533) (by decide +kernel) (by decide +kernel)
theorem g_4_107 : Cond.constantLong (cn 4) 107 (1000000) ∈ tblG := tblG_in (i := 1537) (by decide +kernel) (by decide +kernel)
-- 5 3 -> <java/lang/Object|<init>|()V>
theorem f_5_9 : FLg 5 9 5 0 := ⟨_, _, _, rfl, by decide, inX5, tblG_in (i := 454) (by decide +kernel) (by decide +kernel)⟩
theorem p_5_9 : FLp 5 9 5 0 true (tyX5 0) := ⟨_, _, _, tyX5, rfl, by decide, inX5, tblG_in (i := 454) (by decide +kernel) (by decide +kernel), tyX5_ok, nmX5, rfl, tyX5_ok 0 (by decide), fun _ => rfl⟩
theorem f_5_15 : FLg 5 15 5 3 := ⟨_, _, _, rfl, by decide, inX5, tblG_in (i := 459) (by decide +kernel) (by decide +kernel)⟩
theorem p_5_15 : FLp 5 15 5 3 false (tyX5 3) := ⟨_, _, _, tyX5, rfl, by decide, inX5, tblG_in (i := 459) (by decide +kernel) (by decide +kernel), tyX5_ok, nmX5, rfl, tyX5_ok 3 (by decide), fun q => by cases q⟩
theorem f_5_19 : FLg 5 19 5 4 := ⟨_, _, _, rfl, by decide, inX5, tblG_in (i := 461) (by decide +kernel) (by decide +kernel)⟩
theorem p_5_19 : FLp 5 19 5 4 true (tyX5 4) := ⟨_, _, _, tyX5, rfl, by decide, inX5, tblG_in (i := 461) (by decide +kernel) (by decide +kernel), tyX5_ok, nmX5, rfl, tyX5_ok 4 (by decide), fun _ => rfl⟩
theorem f_5_23 : FLg 5 23 5 1 := ⟨_, _, _, rfl, by decide, inX5, tblG_in (i := 455) (by decide +kernel) (by decide +kernel)⟩
theorem p_5_23 : FLp 5 23 5 1 false (tyX5 1) := ⟨_, _, _, tyX5, rfl, by decide, inX5, tblG_in (i := 455) (by decide +kernel) (by decide +kernel), tyX5_ok, nmX5, rfl, tyX5_ok 1 (by decide), fun q => by cases q⟩
-- 5 26 -> <java/util/Arrays|fill|([II)V>
theorem f_5_32 : FLg 5 32 5 5 := ⟨_, _, _, rfl, by decide, inX5, tblG_in (i := 463) (by decide +kernel) (by decide +kernel)⟩
theorem p_5_32 : FLp 5 32 5 5 false (tyX5 5) := ⟨_, _, _, tyX5, rfl, by decide, inX5, tblG_in (i := 463) (by decide +kernel) (by decide +kernel), tyX5_ok, nmX5, rfl, tyX5_ok 5 (by decide), fun q => by cases q⟩
theorem f_5_35 : FLg 5 35 5 6 := ⟨_, _, _, rfl, by decide, inX5, tblG_in (i := 465) (by decide +kernel) (by decide +kernel)⟩
theorem p_5_35 : FLp 5 35 5 6 false (tyX5 6) := ⟨_, _, _, tyX5, rfl, by decide, inX5, tblG_in (i := 465) (by decide +kernel) (by decide +kernel), tyX5_ok, nmX5, rfl, tyX5_ok 6 (by decide), fun q => by cases q⟩
theorem f_5_38 : FLg 5 38 5 10 := ⟨_, _, _, rfl, by decide, inX5, tblG_in (i := 469) (by decide +kernel) (by decide +kernel)⟩
theorem p_5_38 : FLp 5 38 5 10 false (tyX5 10) := ⟨_, _, _, tyX5, rfl, by decide, inX5, tblG_in (i := 469) (by decide +kernel) (by decide +kernel), tyX5_ok, nmX5, rfl, tyX5_ok 10 (by decide), fun q => by cases q⟩
theorem f_5_41 : FLg 5 41 5 11 := ⟨_, _, _, rfl, by decide, inX5, tblG_in (i := 470) (by decide +kernel) (by decide +kernel)⟩
theorem p_5_41 : FLp 5 41 5 11 false (tyX5 11) := ⟨_, _, _, tyX5, rfl, by decide, inX5, tblG_in (i := 470) (by decide +kernel) (by decide +kernel), tyX5_ok, nmX5, rfl, tyX5_ok 11 (by decide), fun q => by cases q⟩
theorem f_5_44 : FLg 5 44 5 8 := ⟨_, _, _, rfl, by decide, inX5, tblG_in (i := 467) (by decide +kernel) (by decide +kernel)⟩
theorem p_5_44 : FLp 5 44 5 8 false (tyX5 8) := ⟨_, _, _, tyX5, rfl, by decide, inX5, tblG_in (i := 467) (by decide +kernel) (by decide +kernel), tyX5_ok, nmX5, rfl, tyX5_ok 8 (by decide), fun q => by cases q⟩
theorem k_5_47 : MLk 5 47 mX5_scan 1 1 := ⟨okX5_scan, Or.inl (tblG_in (i := 1236) (by decide +kernel) (by decide +kernel)), Or.inr (Or.inl ⟨rfl, tblG_in (i := 1238) (by decide +kernel) (by decide +kernel), tblG_sel (i := 16) (by decide +kernel) (by decide +kernel), rfl⟩)⟩
theorem l_5_47 : Cond.methodLink (cn 5) 47 (my mX5_scan) ∈ tblG := tblG_in (i := 1236) (by decide +kernel) (by decide +kernel)
theorem k_5_51 : MLk 5 51 mX5_take 1 0 := ⟨okX5_take, Or.inl (tblG_in (i := 1277) (by decide +kernel) (by decide +kernel)), Or.inr (Or.inl ⟨rfl, tblG_in (i := 1279) (by decide +kernel) (by decide +kernel), tblG_sel (i := 20) (by decide +kernel) (by decide +kernel), rfl⟩)⟩
theorem l_5_51 : Cond.methodLink (cn 5) 51 (my mX5_take) ∈ tblG := tblG_in (i := 1277) (by decide +kernel) (by decide +kernel)
theorem f_5_55 : FLg 5 55 5 2 := ⟨_, _, _, rfl, by decide, inX5, tblG_in (i := 457) (by decide +kernel) (by decide +kernel)⟩
theorem p_5_55 : FLp 5 55 5 2 false (tyX5 2) := ⟨_, _, _, tyX5, rfl, by decide, inX5, tblG_in (i := 457) (by decide +kernel) (by decide +kernel), tyX5_ok, nmX5, rfl, tyX5_ok 2 (by decide), fun q => by cases q⟩
theorem f_5_58 : FLg 5 58 5 7 := ⟨_, _, _, rfl, by decide, inX5, tblG_in (i := 466) (by decide +kernel) (by decide +kernel)⟩
theorem p_5_58 : FLp 5 58 5 7 false (tyX5 7) := ⟨_, _, _, tyX5, rfl, by decide, inX5, tblG_in (i := 466) (by decide +kernel) (by decide +kernel), tyX5_ok, nmX5, rfl, tyX5_ok 7 (by decide), fun q => by cases q⟩
theorem k_5_61 : MLk 5 61 mX5_scanNumber 1 1 := ⟨okX5_scanNumber, Or.inl (tblG_in (i := 1240) (by decide +kernel) (by decide +kernel)), Or.inr (Or.inl ⟨rfl, tblG_in (i := 1242) (by decide +kernel) (by decide +kernel), tblG_sel (i := 17) (by decide +kernel) (by decide +kernel), rfl⟩)⟩
theorem l_5_61 : Cond.methodLink (cn 5) 61 (my mX5_scanNumber) ∈ tblG := tblG_in (i := 1240) (by decide +kernel) (by decide +kernel)
theorem k_5_64 : MLk 5 64 mX5_scanWord 1 1 := ⟨okX5_scanWord, Or.inl (tblG_in (i := 1244) (by decide +kernel) (by decide +kernel)), Or.inr (Or.inl ⟨rfl, tblG_in (i := 1246) (by decide +kernel) (by decide +kernel), tblG_sel (i := 18) (by decide +kernel) (by decide +kernel), rfl⟩)⟩
theorem l_5_64 : Cond.methodLink (cn 5) 64 (my mX5_scanWord) ∈ tblG := tblG_in (i := 1244) (by decide +kernel) (by decide +kernel)
theorem f_5_67 : FLg 5 67 5 9 := ⟨_, _, _, rfl, by decide, inX5, tblG_in (i := 468) (by decide +kernel) (by decide +kernel)⟩
theorem p_5_67 : FLp 5 67 5 9 false (tyX5 9) := ⟨_, _, _, tyX5, rfl, by decide, inX5, tblG_in (i := 468) (by decide +kernel) (by decide +kernel), tyX5_ok, nmX5, rfl, tyX5_ok 9 (by decide), fun q => by cases q⟩
theorem k_5_70 : MLk 5 70 mX5_isWord 1 1 := ⟨okX5_isWord, Or.inl (tblG_in (i := 1248) (by decide +kernel) (by decide +kernel)), Or.inr (Or.inl ⟨rfl, tblG_in (i := 1250) (by decide +kernel) (by decide +kernel), tblG_sel (i := 19) (by decide +kernel) (by decide +kernel), rfl⟩)⟩
theorem l_5_70 : Cond.methodLink (cn 5) 70 (my mX5_isWord) ∈ tblG := tblG_in (i := 1248) (by decide +kernel) (by decide +kernel)
-- 5 76 -> <java/lang/String|charAt|(I)C>
theorem k_5_82 : MLk 5 82 mX5_takeFirst 1 0 := ⟨okX5_takeFirst, Or.inl (tblG_in (i := 1281) (by decide +kernel) (by decide +kernel)), Or.inr (Or.inl ⟨rfl, tblG_in (i := 1283) (by decide +kernel) (by decide +kernel), tblG_sel (i := 21) (by decide +kernel) (by decide +kernel), rfl⟩)⟩
theorem l_5_82 : Cond.methodLink (cn 5) 82 (my mX5_takeFirst) ∈ tblG := tblG_in (i := 1281) (by decide +kernel) (by decide +kernel)
theorem k_5_85 : MLk 5 85 mX5_takeWord 1 0 := ⟨okX5_takeWord, Or.inl (tblG_in (i := 1285) (by decide +kernel) (by decide +kernel)), Or.inr (Or.inl ⟨rfl, tblG_in (i := 1287) (by decide +kernel) (by decide +kernel), tblG_sel (i := 22) (by decide +kernel) (by decide +kernel), rfl⟩)⟩
theorem l_5_85 : Cond.methodLink (cn 5) 85 (my mX5_takeWord) ∈ tblG := tblG_in (i := 1285) (by decide +kernel) (by decide +kernel)
theorem k_5_88 : MLk 5 88 mX5_await 1 2 := ⟨okX5_await, Or.inl (tblG_in (i := 1289) (by decide +kernel) (by decide +kernel)), Or.inr (Or.inl ⟨rfl, tblG_in (i := 1291) (by decide +kernel) (by decide +kernel), tblG_sel (i := 23) (by decide +kernel) (by decide +kernel), rfl⟩)⟩
theorem l_5_88 : Cond.methodLink (cn 5) 88 (my mX5_await) ∈ tblG := tblG_in (i := 1289) (by decide +kernel) (by decide +kernel)
theorem k_5_92 : MLk 5 92 mX5_takeAmount 1 1 := ⟨okX5_takeAmount, Or.inl (tblG_in (i := 1304) (by decide +kernel) (by decide +kernel)), Or.inr (Or.inl ⟨rfl, tblG_in (i := 1306) (by decide +kernel) (by decide +kernel), tblG_sel (i := 26) (by decide +kernel) (by decide +kernel), rfl⟩)⟩
theorem l_5_92 : Cond.methodLink (cn 5) 92 (my mX5_takeAmount) ∈ tblG := tblG_in (i := 1304) (by decide +kernel) (by decide +kernel)
theorem f_5_96 : FLg 5 96 5 12 := ⟨_, _, _, rfl, by decide, inX5, tblG_in (i := 471) (by decide +kernel) (by decide +kernel)⟩
theorem p_5_96 : FLp 5 96 5 12 false (tyX5 12) := ⟨_, _, _, tyX5, rfl, by decide, inX5, tblG_in (i := 471) (by decide +kernel) (by decide +kernel), tyX5_ok, nmX5, rfl, tyX5_ok 12 (by decide), fun q => by cases q⟩
theorem f_5_99 : FLg 5 99 5 13 := ⟨_, _, _, rfl, by decide, inX5, tblG_in (i := 472) (by decide +kernel) (by decide +kernel)⟩
theorem p_5_99 : FLp 5 99 5 13 false (tyX5 13) := ⟨_, _, _, tyX5, rfl, by decide, inX5, tblG_in (i := 472) (by decide +kernel) (by decide +kernel), tyX5_ok, nmX5, rfl, tyX5_ok 13 (by decide), fun q => by cases q⟩
theorem k_5_102 : MLk 5 102 mX11_wordOf 0 3 := ⟨okX11_wordOf, Or.inr ⟨exL_in (i := 1293) (by decide +kernel) rfl, rfl⟩, Or.inl ⟨rfl, tblG_in (i := 1294) (by decide +kernel) (by decide +kernel)⟩⟩
theorem k_5_106 : MLk 5 106 mX5_keep 1 2 := ⟨okX5_keep, Or.inl (tblG_in (i := 1296) (by decide +kernel) (by decide +kernel)), Or.inr (Or.inl ⟨rfl, tblG_in (i := 1298) (by decide +kernel) (by decide +kernel), tblG_sel (i := 24) (by decide +kernel) (by decide +kernel), rfl⟩)⟩
theorem l_5_106 : Cond.methodLink (cn 5) 106 (my mX5_keep) ∈ tblG := tblG_in (i := 1296) (by decide +kernel) (by decide +kernel)
theorem k_5_109 : MLk 5 109 mX5_takeSide 1 0 := ⟨okX5_takeSide, Or.inl (tblG_in (i := 1308) (by decide +kernel) (by decide +kernel)), Or.inr (Or.inl ⟨rfl, tblG_in (i := 1310) (by decide +kernel) (by decide +kernel), tblG_sel (i := 27) (by decide +kernel) (by decide +kernel), rfl⟩)⟩
theorem l_5_109 : Cond.methodLink (cn 5) 109 (my mX5_takeSide) ∈ tblG := tblG_in (i := 1308) (by decide +kernel) (by decide +kernel)
theorem k_5_112 : MLk 5 112 mX5_takeMore 1 0 := ⟨okX5_takeMore, Or.inl (tblG_in (i := 1312) (by decide +kernel) (by decide +kernel)), Or.inr (Or.inl ⟨rfl, tblG_in (i := 1314) (by decide +kernel) (by decide +kernel), tblG_sel (i := 28) (by decide +kernel) (by decide +kernel), rfl⟩)⟩
theorem l_5_112 : Cond.methodLink (cn 5) 112 (my mX5_takeMore) ∈ tblG := tblG_in (i := 1312) (by decide +kernel) (by decide +kernel)
theorem k_5_115 : MLk 5 115 mX5_isBadNumber 1 0 := ⟨okX5_isBadNumber, Or.inl (tblG_in (i := 1300) (by decide +kernel) (by decide +kernel)), Or.inr (Or.inl ⟨rfl, tblG_in (i := 1302) (by decide +kernel) (by decide +kernel), tblG_sel (i := 25) (by decide +kernel) (by decide +kernel), rfl⟩)⟩
theorem l_5_115 : Cond.methodLink (cn 5) 115 (my mX5_isBadNumber) ∈ tblG := tblG_in (i := 1300) (by decide +kernel) (by decide +kernel)
-- 6 3 -> <java/lang/Object|<init>|()V>
theorem f_6_11 : FLg 6 11 6 0 := ⟨_, _, _, rfl, by decide, inX6, tblG_in (i := 288) (by decide +kernel) (by decide +kernel)⟩
theorem p_6_11 : FLp 6 11 6 0 true (tyX6 0) := ⟨_, _, _, tyX6, rfl, by decide, inX6, tblG_in (i := 288) (by decide +kernel) (by decide +kernel), tyX6_ok, nmX6, rfl, tyX6_ok 0 (by decide), fun _ => rfl⟩
-- 6 15 -> <java/util/Arrays|fill|([JJ)V>
-- 6 21 -> <java/lang/Long|bitCount|(J)I>
theorem k_6_27 : MLk 6 27 mX11_lowest 0 1 := ⟨okX11_lowest, Or.inr ⟨exL_in (i := 1356) (by decide +kernel) rfl, rfl⟩, Or.inl ⟨rfl, tblG_in (i := 1357) (by decide +kernel) (by decide +kernel)⟩⟩
theorem k_6_30 : MLk 6 30 mX11_isIn 0 2 := ⟨okX11_isIn, Or.inr ⟨exL_in (i := 1121) (by decide +kernel) rfl, rfl⟩, Or.inl ⟨rfl, tblG_in (i := 791) (by decide +kernel) (by decide +kernel)⟩⟩
theorem k_6_34 : MLk 6 34 mX6_stateOf 0 2 := ⟨okX6_stateOf, Or.inl (tblG_in (i := 1359) (by decide +kernel) (by decide +kernel)), Or.inl ⟨rfl, tblG_in (i := 1360) (by decide +kernel) (by decide +kernel)⟩⟩
theorem l_6_34 : Cond.methodLink (cn 6) 34 (my mX6_stateOf) ∈ tblG := tblG_in (i := 1359) (by decide +kernel) (by decide +kernel)
-- 7 3 -> <java/lang/Object|<init>|()V>
theorem f_7_9 : FLg 7 9 7 2 := ⟨_, _, _, rfl, by decide, inX7, tblG_in (i := 302) (by decide +kernel) (by decide +kernel)⟩
theorem p_7_9 : FLp 7 9 7 2 false (tyX7 2) := ⟨_, _, _, tyX7, rfl, by decide, inX7, tblG_in (i := 302) (by decide +kernel) (by decide +kernel), tyX7_ok, nmX7, rfl, tyX7_ok 2 (by decide), fun q => by cases q⟩
theorem f_7_15 : FLg 7 15 7 3 := ⟨_, _, _, rfl, by decide, inX7, tblG_in (i := 304) (by decide +kernel) (by decide +kernel)⟩
theorem p_7_15 : FLp 7 15 7 3 false (tyX7 3) := ⟨_, _, _, tyX7, rfl, by decide, inX7, tblG_in (i := 304) (by decide +kernel) (by decide +kernel), tyX7_ok, nmX7, rfl, tyX7_ok 3 (by decide), fun q => by cases q⟩
theorem f_7_19 : FLg 7 19 7 5 := ⟨_, _, _, rfl, by decide, inX7, tblG_in (i := 307) (by decide +kernel) (by decide +kernel)⟩
theorem p_7_19 : FLp 7 19 7 5 false (tyX7 5) := ⟨_, _, _, tyX7, rfl, by decide, inX7, tblG_in (i := 307) (by decide +kernel) (by decide +kernel), tyX7_ok, nmX7, rfl, tyX7_ok 5 (by decide), fun q => by cases q⟩
theorem f_7_22 : FLg 7 22 7 6 := ⟨_, _, _, rfl, by decide, inX7, tblG_in (i := 308) (by decide +kernel) (by decide +kernel)⟩
theorem p_7_22 : FLp 7 22 7 6 false (tyX7 6) := ⟨_, _, _, tyX7, rfl, by decide, inX7, tblG_in (i := 308) (by decide +kernel) (by decide +kernel), tyX7_ok, nmX7, rfl, tyX7_ok 6 (by decide), fun q => by cases q⟩
theorem f_7_25 : FLg 7 25 7 7 := ⟨_, _, _, rfl, by decide, inX7, tblG_in (i := 309) (by decide +kernel) (by decide +kernel)⟩
theorem p_7_25 : FLp 7 25 7 7 false (tyX7 7) := ⟨_, _, _, tyX7, rfl, by decide, inX7, tblG_in (i := 309) (by decide +kernel) (by decide +kernel), tyX7_ok, nmX7, rfl, tyX7_ok 7 (by decide), fun q => by cases q⟩
theorem f_7_28 : FLg 7 28 7 0 := ⟨_, _, _, rfl, by decide, inX7, tblG_in (i := 299) (by decide +kernel) (by decide +kernel)⟩
theorem p_7_28 : FLp 7 28 7 0 true (tyX7 0) := ⟨_, _, _, tyX7, rfl, by decide, inX7, tblG_in (i := 299) (by decide +kernel) (by decide +kernel), tyX7_ok, nmX7, rfl, tyX7_ok 0 (by decide), fun _ => rfl⟩
theorem k_7_32 : MLk 7 32 mX7_clearNow 1 0 := ⟨okX7_clearNow, Or.inl (tblG_in (i := 1374) (by decide +kernel) (by decide +kernel)), Or.inr (Or.inl ⟨rfl, tblG_in (i := 1376) (by decide +kernel) (by decide +kernel), tblG_sel (i := 32) (by decide +kernel) (by decide +kernel), rfl⟩)⟩
theorem l_7_32 : Cond.methodLink (cn 7) 32 (my mX7_clearNow) ∈ tblG := tblG_in (i := 1374) (by decide +kernel) (by decide +kernel)
theorem f_7_35 : FLg 7 35 7 8 := ⟨_, _, _, rfl, by decide, inX7, tblG_in (i := 310) (by decide +kernel) (by decide +kernel)⟩
theorem p_7_35 : FLp 7 35 7 8 false (tyX7 8) := ⟨_, _, _, tyX7, rfl, by decide, inX7, tblG_in (i := 310) (by decide +kernel) (by decide +kernel), tyX7_ok, nmX7, rfl, tyX7_ok 8 (by decide), fun q => by cases q⟩
theorem f_7_39 : FLg 7 39 7 9 := ⟨_, _, _, rfl, by decide, inX7, tblG_in (i := 311) (by decide +kernel) (by decide +kernel)⟩
theorem p_7_39 : FLp 7 39 7 9 false (tyX7 9) := ⟨_, _, _, tyX7, rfl, by decide, inX7, tblG_in (i := 311) (by decide +kernel) (by decide +kernel), tyX7_ok, nmX7, rfl, tyX7_ok 9 (by decide), fun q => by cases q⟩
theorem f_7_42 : FLg 7 42 7 10 := ⟨_, _, _, rfl, by decide, inX7, tblG_in (i := 312) (by decide +kernel) (by decide +kernel)⟩
theorem p_7_42 : FLp 7 42 7 10 false (tyX7 10) := ⟨_, _, _, tyX7, rfl, by decide, inX7, tblG_in (i := 312) (by decide +kernel) (by decide +kernel), tyX7_ok, nmX7, rfl, tyX7_ok 10 (by decide), fun q => by cases q⟩
theorem k_7_46 : MLk 7 46 mX10_look 1 1 := ⟨okX10_look, Or.inl (tblG_in (i := 1382) (by decide +kernel) (by decide +kernel)), Or.inr (Or.inl ⟨rfl, tblG_in (i := 802) (by decide +kernel) (by decide +kernel), tblG_in (i := 803) (by decide +kernel) (by decide +kernel), rfl⟩)⟩
theorem l_7_46 : Cond.methodLink (cn 7) 46 (my mX10_look) ∈ tblG := tblG_in (i := 1382) (by decide +kernel) (by decide +kernel)
theorem k_7_52 : MLk 7 52 mX7_carry 1 2 := ⟨okX7_carry, Or.inl (tblG_in (i := 1383) (by decide +kernel) (by decide +kernel)), Or.inr (Or.inl ⟨rfl, tblG_in (i := 1385) (by decide +kernel) (by decide +kernel), tblG_sel (i := 33) (by decide +kernel) (by decide +kernel), rfl⟩)⟩
theorem l_7_52 : Cond.methodLink (cn 7) 52 (my mX7_carry) ∈ tblG := tblG_in (i := 1383) (by decide +kernel) (by decide +kernel)
theorem f_7_56 : FLg 7 56 7 1 := ⟨_, _, _, rfl, by decide, inX7, tblG_in (i := 300) (by decide +kernel) (by decide +kernel)⟩
theorem p_7_56 : FLp 7 56 7 1 false (tyX7 1) := ⟨_, _, _, tyX7, rfl, by decide, inX7, tblG_in (i := 300) (by decide +kernel) (by decide +kernel), tyX7_ok, nmX7, rfl, tyX7_ok 1 (by decide), fun q => by cases q⟩
theorem f_7_59 : FLg 7 59 7 4 := ⟨_, _, _, rfl, by decide, inX7, tblG_in (i := 306) (by decide +kernel) (by decide +kernel)⟩
theorem p_7_59 : FLp 7 59 7 4 false (tyX7 4) := ⟨_, _, _, tyX7, rfl, by decide, inX7, tblG_in (i := 306) (by decide +kernel) (by decide +kernel), tyX7_ok, nmX7, rfl, tyX7_ok 4 (by decide), fun q => by cases q⟩
theorem f_7_62 : FLg 7 62 10 11 := ⟨_, _, _, rfl, by decide, inX10, tblG_in (i := 247) (by decide +kernel) (by decide +kernel)⟩
-- 7 65 -> <java/lang/Long|bitCount|(J)I>
theorem f_7_71 : FLg 7 71 10 0 := ⟨_, _, _, rfl, by decide, inX10, tblG_in (i := 230) (by decide +kernel) (by decide +kernel)⟩
theorem f_7_75 : FLg 7 75 3 5 := ⟨_, _, _, rfl, by decide, inX3, tblG_in (i := 61) (by decide +kernel) (by decide +kernel)⟩
-- 8 3 -> <java/lang/Object|<init>|()V>
theorem f_8_9 : FLg 8 9 8 0 := ⟨_, _, _, rfl, by decide, inX8, tblG_in (i := 513) (by decide +kernel) (by decide +kernel)⟩
theorem p_8_9 : FLp 8 9 8 0 false (tyX8 0) := ⟨_, _, _, tyX8, rfl, by decide, inX8, tblG_in (i := 513) (by decide +kernel) (by decide +kernel), tyX8_ok, nmX8, rfl, tyX8_ok 0 (by decide), fun q => by cases q⟩
theorem f_8_15 : FLg 8 15 8 3 := ⟨_, _, _, rfl, by decide, inX8, tblG_in (i := 519) (by decide +kernel) (by decide +kernel)⟩
theorem p_8_15 : FLp 8 15 8 3 true (tyX8 3) := ⟨_, _, _, tyX8, rfl, by decide, inX8, tblG_in (i := 519) (by decide +kernel) (by decide +kernel), tyX8_ok, nmX8, rfl, tyX8_ok 3 (by decide), fun _ => rfl⟩
theorem f_8_19 : FLg 8 19 8 1 := ⟨_, _, _, rfl, by decide, inX8, tblG_in (i := 515) (by decide +kernel) (by decide +kernel)⟩
theorem p_8_19 : FLp 8 19 8 1 false (tyX8 1) := ⟨_, _, _, tyX8, rfl, by decide, inX8, tblG_in (i := 515) (by decide +kernel) (by decide +kernel), tyX8_ok, nmX8, rfl, tyX8_ok 1 (by decide), fun q => by cases q⟩
theorem f_8_23 : FLg 8 23 8 2 := ⟨_, _, _, rfl, by decide, inX8, tblG_in (i := 516) (by decide +kernel) (by decide +kernel)⟩
theorem p_8_23 : FLp 8 23 8 2 false (tyX8 2) := ⟨_, _, _, tyX8, rfl, by decide, inX8, tblG_in (i := 516) (by decide +kernel) (by decide +kernel), tyX8_ok, nmX8, rfl, tyX8_ok 2 (by decide), fun q => by cases q⟩
-- 8 26 -> <java/util/Arrays|fill|([JJ)V>
theorem g_8_32 : Cond.constantLong (cn 8) 32 (31) ∈ tblG := tblG_in (i := 1714) (by decide +kernel) (by decide +kernel)
-- 9 3 -> <java/lang/Object|<init>|()V>
theorem f_9_9 : FLg 9 9 9 4 := ⟨_, _, _, rfl, by decide, inX9, tblG_in (i := 343) (by decide +kernel) (by decide +kernel)⟩
theorem p_9_9 : FLp 9 9 9 4 true (tyX9 4) := ⟨_, _, _, tyX9, rfl, by decide, inX9, tblG_in (i := 343) (by decide +kernel) (by decide +kernel), tyX9_ok, nmX9, rfl, tyX9_ok 4 (by decide), fun _ => rfl⟩
theorem f_9_15 : FLg 9 15 9 5 := ⟨_, _, _, rfl, by decide, inX9, tblG_in (i := 344) (by decide +kernel) (by decide +kernel)⟩
theorem p_9_15 : FLp 9 15 9 5 true (tyX9 5) := ⟨_, _, _, tyX9, rfl, by decide, inX9, tblG_in (i := 344) (by decide +kernel) (by decide +kernel), tyX9_ok, nmX9, rfl, tyX9_ok 5 (by decide), fun _ => rfl⟩
theorem n_9_19 : CLn 9 19 6 [.null] := ⟨_, _, _, tyX6, rfl, inX6, tyX6_ok, tblG_in (i := 282) (by decide +kernel) (by decide +kernel), tblG_in (i := 283) (by decide +kernel) (by decide +kernel), iniG6, by decide +kernel, rfl⟩
theorem k_9_21 : MLk 9 21 mX6_init 2 0 := ⟨okX6_init, Or.inr ⟨exL_in (i := 284) (by decide +kernel) rfl, rfl⟩, Or.inr (Or.inr ⟨rfl, rfl, tblG_in (i := 285) (by decide +kernel) (by decide +kernel), rfl, rfl⟩)⟩
theorem f_9_22 : FLg 9 22 9 7 := ⟨_, _, _, rfl, by decide, inX9, tblG_in (i := 346) (by decide +kernel) (by decide +kernel)⟩
theorem p_9_22 : FLp 9 22 9 7 false (tyX9 7) := ⟨_, _, _, tyX9, rfl, by decide, inX9, tblG_in (i := 346) (by decide +kernel) (by decide +kernel), tyX9_ok, nmX9, rfl, tyX9_ok 7 (by decide), fun q => by cases q⟩
theorem f_9_26 : FLg 9 26 9 8 := ⟨_, _, _, rfl, by decide, inX9, tblG_in (i := 348) (by decide +kernel) (by decide +kernel)⟩
theorem p_9_26 : FLp 9 26 9 8 false (tyX9 8) := ⟨_, _, _, tyX9, rfl, by decide, inX9, tblG_in (i := 348) (by decide +kernel) (by decide +kernel), tyX9_ok, nmX9, rfl, tyX9_ok 8 (by decide), fun q => by cases q⟩
theorem f_9_29 : FLg 9 29 9 9 := ⟨_, _, _, rfl, by decide, inX9, tblG_in (i := 349) (by decide +kernel) (by decide +kernel)⟩
theorem p_9_29 : FLp 9 29 9 9 true (tyX9 9) := ⟨_, _, _, tyX9, rfl, by decide, inX9, tblG_in (i := 349) (by decide +kernel) (by decide +kernel), tyX9_ok, nmX9, rfl, tyX9_ok 9 (by decide), fun _ => rfl⟩
theorem f_9_32 : FLg 9 32 9 0 := ⟨_, _, _, rfl, by decide, inX9, tblG_in (i := 336) (by decide +kernel) (by decide +kernel)⟩
theorem p_9_32 : FLp 9 32 9 0 true (tyX9 0) := ⟨_, _, _, tyX9, rfl, by decide, inX9, tblG_in (i := 336) (by decide +kernel) (by decide +kernel), tyX9_ok, nmX9, rfl, tyX9_ok 0 (by decide), fun _ => rfl⟩
theorem f_9_36 : FLg 9 36 9 1 := ⟨_, _, _, rfl, by decide, inX9, tblG_in (i := 339) (by decide +kernel) (by decide +kernel)⟩
theorem p_9_36 : FLp 9 36 9 1 true (tyX9 1) := ⟨_, _, _, tyX9, rfl, by decide, inX9, tblG_in (i := 339) (by decide +kernel) (by decide +kernel), tyX9_ok, nmX9, rfl, tyX9_ok 1 (by decide), fun _ => rfl⟩
theorem f_9_40 : FLg 9 40 9 2 := ⟨_, _, _, rfl, by decide, inX9, tblG_in (i := 340) (by decide +kernel) (by decide +kernel)⟩
theorem p_9_40 : FLp 9 40 9 2 true (tyX9 2) := ⟨_, _, _, tyX9, rfl, by decide, inX9, tblG_in (i := 340) (by decide +kernel) (by decide +kernel), tyX9_ok, nmX9, rfl, tyX9_ok 2 (by decide), fun _ => rfl⟩
theorem n_9_44 : CLn 9 44 7 [.null, .int 0, .null, .null, .int 0, .null, .null, .null, .int 0, .int 0, .long 0] := ⟨_, _, _, tyX7, rfl, inX7, tyX7_ok, tblG_in (i := 293) (by decide +kernel) (by decide +kernel), tblG_in (i := 294) (by decide +kernel) (by decide +kernel), iniG7, by decide +kernel, rfl⟩
theorem k_9_46 : MLk 9 46 mX7_init 2 1 := ⟨okX7_init, Or.inl (tblG_in (i := 295) (by decide +kernel) (by decide +kernel)), Or.inr (Or.inr ⟨rfl, rfl, tblG_in (i := 296) (by decide +kernel) (by decide +kernel), rfl, rfl⟩)⟩
theorem l_9_46 : Cond.methodLink (cn 9) 46 (my mX7_init) ∈ tblG := tblG_in (i := 295) (by decide +kernel) (by decide +kernel)
theorem f_9_49 : FLg 9 49 9 3 := ⟨_, _, _, rfl, by decide, inX9, tblG_in (i := 342) (by decide +kernel) (by decide +kernel)⟩
theorem p_9_49 : FLp 9 49 9 3 true (tyX9 3) := ⟨_, _, _, tyX9, rfl, by decide, inX9, tblG_in (i := 342) (by decide +kernel) (by decide +kernel), tyX9_ok, nmX9, rfl, tyX9_ok 3 (by decide), fun _ => rfl⟩
theorem k_9_53 : MLk 9 53 mX2_kindsOf 1 2 := ⟨okX2_kindsOf, Or.inl (tblG_in (i := 1171) (by decide +kernel) (by decide +kernel)), Or.inr (Or.inl ⟨rfl, tblG_in (i := 1172) (by decide +kernel) (by decide +kernel), tblG_in (i := 1173) (by decide +kernel) (by decide +kernel), rfl⟩)⟩
theorem l_9_53 : Cond.methodLink (cn 9) 53 (my mX2_kindsOf) ∈ tblG := tblG_in (i := 1171) (by decide +kernel) (by decide +kernel)
theorem k_9_59 : MLk 9 59 mX10_placesWith 1 1 := ⟨okX10_placesWith, Or.inl (tblG_in (i := 1175) (by decide +kernel) (by decide +kernel)), Or.inr (Or.inl ⟨rfl, tblG_in (i := 1176) (by decide +kernel) (by decide +kernel), tblG_in (i := 1177) (by decide +kernel) (by decide +kernel), rfl⟩)⟩
theorem l_9_59 : Cond.methodLink (cn 9) 59 (my mX10_placesWith) ∈ tblG := tblG_in (i := 1175) (by decide +kernel) (by decide +kernel)
theorem f_9_65 : FLg 9 65 9 6 := ⟨_, _, _, rfl, by decide, inX9, tblG_in (i := 345) (by decide +kernel) (by decide +kernel)⟩
theorem p_9_65 : FLp 9 65 9 6 false (tyX9 6) := ⟨_, _, _, tyX9, rfl, by decide, inX9, tblG_in (i := 345) (by decide +kernel) (by decide +kernel), tyX9_ok, nmX9, rfl, tyX9_ok 6 (by decide), fun q => by cases q⟩
theorem f_9_69 : FLg 9 69 2 4 := ⟨_, _, _, rfl, by decide, inX2, tblG_in (i := 144) (by decide +kernel) (by decide +kernel)⟩
theorem k_9_72 : MLk 9 72 mX10_seenPlaces 1 1 := ⟨okX10_seenPlaces, Or.inl (tblG_in (i := 1187) (by decide +kernel) (by decide +kernel)), Or.inr (Or.inl ⟨rfl, tblG_in (i := 1188) (by decide +kernel) (by decide +kernel), tblG_in (i := 1189) (by decide +kernel) (by decide +kernel), rfl⟩)⟩
theorem l_9_72 : Cond.methodLink (cn 9) 72 (my mX10_seenPlaces) ∈ tblG := tblG_in (i := 1187) (by decide +kernel) (by decide +kernel)
theorem k_9_75 : MLk 9 75 mX9_goTimes 1 4 := ⟨okX9_goTimes, Or.inl (tblG_in (i := 1366) (by decide +kernel) (by decide +kernel)), Or.inr (Or.inl ⟨rfl, tblG_in (i := 1368) (by decide +kernel) (by decide +kernel), tblG_sel (i := 31) (by decide +kernel) (by decide +kernel), rfl⟩)⟩
theorem l_9_75 : Cond.methodLink (cn 9) 75 (my mX9_goTimes) ∈ tblG := tblG_in (i := 1366) (by decide +kernel) (by decide +kernel)
theorem k_9_79 : MLk 9 79 mX9_placesWith 1 1 := ⟨okX9_placesWith, Or.inl (tblG_in (i := 1388) (by decide +kernel) (by decide +kernel)), Or.inr (Or.inl ⟨rfl, tblG_in (i := 1193) (by decide +kernel) (by decide +kernel), tblG_in (i := 1194) (by decide +kernel) (by decide +kernel), rfl⟩)⟩
theorem l_9_79 : Cond.methodLink (cn 9) 79 (my mX9_placesWith) ∈ tblG := tblG_in (i := 1388) (by decide +kernel) (by decide +kernel)
theorem k_9_80 : MLk 9 80 mX9_goUntil 1 5 := ⟨okX9_goUntil, Or.inl (tblG_in (i := 1389) (by decide +kernel) (by decide +kernel)), Or.inr (Or.inl ⟨rfl, tblG_in (i := 1391) (by decide +kernel) (by decide +kernel), tblG_sel (i := 34) (by decide +kernel) (by decide +kernel), rfl⟩)⟩
theorem l_9_80 : Cond.methodLink (cn 9) 80 (my mX9_goUntil) ∈ tblG := tblG_in (i := 1389) (by decide +kernel) (by decide +kernel)
theorem k_9_84 : MLk 9 84 mX9_goFar 1 4 := ⟨okX9_goFar, Or.inl (tblG_in (i := 1396) (by decide +kernel) (by decide +kernel)), Or.inr (Or.inl ⟨rfl, tblG_in (i := 1398) (by decide +kernel) (by decide +kernel), tblG_sel (i := 35) (by decide +kernel) (by decide +kernel), rfl⟩)⟩
theorem l_9_84 : Cond.methodLink (cn 9) 84 (my mX9_goFar) ∈ tblG := tblG_in (i := 1396) (by decide +kernel) (by decide +kernel)
theorem k_9_87 : MLk 9 87 mX9_seenPlaces 1 1 := ⟨okX9_seenPlaces, Or.inl (tblG_in (i := 1400) (by decide +kernel) (by decide +kernel)), Or.inr (Or.inl ⟨rfl, tblG_in (i := 1184) (by decide +kernel) (by decide +kernel), tblG_in (i := 1185) (by decide +kernel) (by decide +kernel), rfl⟩)⟩
theorem l_9_87 : Cond.methodLink (cn 9) 87 (my mX9_seenPlaces) ∈ tblG := tblG_in (i := 1400) (by decide +kernel) (by decide +kernel)
theorem k_9_88 : MLk 9 88 mX9_staySeeing 1 4 := ⟨okX9_staySeeing, Or.inl (tblG_in (i := 1401) (by decide +kernel) (by decide +kernel)), Or.inr (Or.inl ⟨rfl, tblG_in (i := 1403) (by decide +kernel) (by decide +kernel), tblG_sel (i := 36) (by decide +kernel) (by decide +kernel), rfl⟩)⟩
theorem l_9_88 : Cond.methodLink (cn 9) 88 (my mX9_staySeeing) ∈ tblG := tblG_in (i := 1401) (by decide +kernel) (by decide +kernel)
theorem k_9_92 : MLk 9 92 mX9_stayAheadOf 1 4 := ⟨okX9_stayAheadOf, Or.inl (tblG_in (i := 1405) (by decide +kernel) (by decide +kernel)), Or.inr (Or.inl ⟨rfl, tblG_in (i := 1407) (by decide +kernel) (by decide +kernel), tblG_sel (i := 37) (by decide +kernel) (by decide +kernel), rfl⟩)⟩
theorem l_9_92 : Cond.methodLink (cn 9) 92 (my mX9_stayAheadOf) ∈ tblG := tblG_in (i := 1405) (by decide +kernel) (by decide +kernel)
theorem g_9_95 : Cond.constantLong (cn 9) 95 (-1) ∈ tblG := tblG_in (i := 1409) (by decide +kernel) (by decide +kernel)
theorem k_9_97 : MLk 9 97 mX9_goBack 1 3 := ⟨okX9_goBack, Or.inl (tblG_in (i := 1410) (by decide +kernel) (by decide +kernel)), Or.inr (Or.inl ⟨rfl, tblG_in (i := 1412) (by decide +kernel) (by decide +kernel), tblG_sel (i := 38) (by decide +kernel) (by decide +kernel), rfl⟩)⟩
theorem l_9_97 : Cond.methodLink (cn 9) 97 (my mX9_goBack) ∈ tblG := tblG_in (i := 1410) (by decide +kernel) (by decide +kernel)
theorem k_9_101 : MLk 9 101 mX9_sideOf 1 2 := ⟨okX9_sideOf, Or.inl (tblG_in (i := 1414) (by decide +kernel) (by decide +kernel)), Or.inr (Or.inl ⟨rfl, tblG_in (i := 1416) (by decide +kernel) (by decide +kernel), tblG_sel (i := 39) (by decide +kernel) (by decide +kernel), rfl⟩)⟩
theorem l_9_101 : Cond.methodLink (cn 9) 101 (my mX9_sideOf) ∈ tblG := tblG_in (i := 1414) (by decide +kernel) (by decide +kernel)
theorem k_9_104 : MLk 9 104 mX9_turn 1 4 := ⟨okX9_turn, Or.inl (tblG_in (i := 1418) (by decide +kernel) (by decide +kernel)), Or.inr (Or.inl ⟨rfl, tblG_in (i := 1420) (by decide +kernel) (by decide +kernel), tblG_sel (i := 40) (by decide +kernel) (by decide +kernel), rfl⟩)⟩
theorem l_9_104 : Cond.methodLink (cn 9) 104 (my mX9_turn) ∈ tblG := tblG_in (i := 1418) (by decide +kernel) (by decide +kernel)
theorem k_9_107 : MLk 9 107 mX7_begin 1 4 := ⟨okX7_begin, Or.inl (tblG_in (i := 1370) (by decide +kernel) (by decide +kernel)), Or.inr (Or.inl ⟨rfl, tblG_in (i := 1371) (by decide +kernel) (by decide +kernel), tblG_in (i := 1372) (by decide +kernel) (by decide +kernel), rfl⟩)⟩
theorem l_9_107 : Cond.methodLink (cn 9) 107 (my mX7_begin) ∈ tblG := tblG_in (i := 1370) (by decide +kernel) (by decide +kernel)
theorem k_9_111 : MLk 9 111 mX9_turnAt 1 4 := ⟨okX9_turnAt, Or.inl (tblG_in (i := 1422) (by decide +kernel) (by decide +kernel)), Or.inr (Or.inl ⟨rfl, tblG_in (i := 1424) (by decide +kernel) (by decide +kernel), tblG_sel (i := 41) (by decide +kernel) (by decide +kernel), rfl⟩)⟩
theorem l_9_111 : Cond.methodLink (cn 9) 111 (my mX9_turnAt) ∈ tblG := tblG_in (i := 1422) (by decide +kernel) (by decide +kernel)
theorem f_9_115 : FLg 9 115 2 5 := ⟨_, _, _, rfl, by decide, inX2, tblG_in (i := 146) (by decide +kernel) (by decide +kernel)⟩
theorem f_9_119 : FLg 9 119 2 7 := ⟨_, _, _, rfl, by decide, inX2, tblG_in (i := 150) (by decide +kernel) (by decide +kernel)⟩
theorem k_9_122 : MLk 9 122 mX7_go 1 0 := ⟨okX7_go, Or.inl (tblG_in (i := 1378) (by decide +kernel) (by decide +kernel)), Or.inr (Or.inl ⟨rfl, tblG_in (i := 1379) (by decide +kernel) (by decide +kernel), tblG_in (i := 1380) (by decide +kernel) (by decide +kernel), rfl⟩)⟩
theorem l_9_122 : Cond.methodLink (cn 9) 122 (my mX7_go) ∈ tblG := tblG_in (i := 1378) (by decide +kernel) (by decide +kernel)
theorem f_9_126 : FLg 9 126 7 1 := ⟨_, _, _, rfl, by decide, inX7, tblG_in (i := 301) (by decide +kernel) (by decide +kernel)⟩
theorem f_9_129 : FLg 9 129 7 2 := ⟨_, _, _, rfl, by decide, inX7, tblG_in (i := 303) (by decide +kernel) (by decide +kernel)⟩
theorem k_9_132 : MLk 9 132 mX6_add 1 1 := ⟨okX6_add, Or.inl (tblG_in (i := 1348) (by decide +kernel) (by decide +kernel)), Or.inr (Or.inl ⟨rfl, tblG_in (i := 1349) (by decide +kernel) (by decide +kernel), tblG_in (i := 1350) (by decide +kernel) (by decide +kernel), rfl⟩)⟩
theorem l_9_132 : Cond.methodLink (cn 9) 132 (my mX6_add) ∈ tblG := tblG_in (i := 1348) (by decide +kernel) (by decide +kernel)
theorem f_9_136 : FLg 9 136 10 0 := ⟨_, _, _, rfl, by decide, inX10, tblG_in (i := 232) (by decide +kernel) (by decide +kernel)⟩
theorem f_9_140 : FLg 9 140 3 8 := ⟨_, _, _, rfl, by decide, inX3, tblG_in (i := 72) (by decide +kernel) (by decide +kernel)⟩
theorem k_9_145 : MLk 9 145 mX11_isIn 0 2 := ⟨okX11_isIn, Or.inr ⟨exL_in (i := 1393) (by decide +kernel) rfl, rfl⟩, Or.inl ⟨rfl, tblG_in (i := 791) (by decide +kernel) (by decide +kernel)⟩⟩
theorem f_9_149 : FLg 9 149 7 3 := ⟨_, _, _, rfl, by decide, inX7, tblG_in (i := 305) (by decide +kernel) (by decide +kernel)⟩
theorem k_9_152 : MLk 9 152 mX10_look 1 1 := ⟨okX10_look, Or.inl (tblG_in (i := 1394) (by decide +kernel) (by decide +kernel)), Or.inr (Or.inl ⟨rfl, tblG_in (i := 802) (by decide +kernel) (by decide +kernel), tblG_in (i := 803) (by decide +kernel) (by decide +kernel), rfl⟩)⟩
theorem l_9_152 : Cond.methodLink (cn 9) 152 (my mX10_look) ∈ tblG := tblG_in (i := 1394) (by decide +kernel) (by decide +kernel)
theorem f_9_156 : FLg 9 156 10 11 := ⟨_, _, _, rfl, by decide, inX10, tblG_in (i := 249) (by decide +kernel) (by decide +kernel)⟩
theorem k_9_159 : MLk 9 159 mX6_addArrows 1 2 := ⟨okX6_addArrows, Or.inl (tblG_in (i := 1395) (by decide +kernel) (by decide +kernel)), Or.inr (Or.inl ⟨rfl, tblG_in (i := 1109) (by decide +kernel) (by decide +kernel), tblG_in (i := 1110) (by decide +kernel) (by decide +kernel), rfl⟩)⟩
theorem l_9_159 : Cond.methodLink (cn 9) 159 (my mX6_addArrows) ∈ tblG := tblG_in (i := 1395) (by decide +kernel) (by decide +kernel)
theorem f_9_163 : FLg 9 163 10 4 := ⟨_, _, _, rfl, by decide, inX10, tblG_in (i := 237) (by decide +kernel) (by decide +kernel)⟩
theorem f_9_167 : FLg 9 167 2 6 := ⟨_, _, _, rfl, by decide, inX2, tblG_in (i := 148) (by decide +kernel) (by decide +kernel)⟩
theorem f_9_170 : FLg 9 170 10 5 := ⟨_, _, _, rfl, by decide, inX10, tblG_in (i := 240) (by decide +kernel) (by decide +kernel)⟩
theorem k_9_173 : MLk 9 173 mX6_clear 1 0 := ⟨okX6_clear, Or.inl (tblG_in (i := 1347) (by decide +kernel) (by decide +kernel)), Or.inr (Or.inl ⟨rfl, tblG_in (i := 1104) (by decide +kernel) (by decide +kernel), tblG_in (i := 1105) (by decide +kernel) (by decide +kernel), rfl⟩)⟩
theorem l_9_173 : Cond.methodLink (cn 9) 173 (my mX6_clear) ∈ tblG := tblG_in (i := 1347) (by decide +kernel) (by decide +kernel)
theorem k_9_176 : MLk 9 176 mX6_list 1 1 := ⟨okX6_list, Or.inl (tblG_in (i := 1352) (by decide +kernel) (by decide +kernel)), Or.inr (Or.inl ⟨rfl, tblG_in (i := 1353) (by decide +kernel) (by decide +kernel), tblG_in (i := 1354) (by decide +kernel) (by decide +kernel), rfl⟩)⟩
theorem l_9_176 : Cond.methodLink (cn 9) 176 (my mX6_list) ∈ tblG := tblG_in (i := 1352) (by decide +kernel) (by decide +kernel)
theorem f_9_179 : FLg 9 179 0 4 := ⟨_, _, _, rfl, by decide, inX0, tblG_in (i := 186) (by decide +kernel) (by decide +kernel)⟩
theorem k_9_184 : MLk 9 184 mX9_lead 1 4 := ⟨okX9_lead, Or.inl (tblG_in (i := 1362) (by decide +kernel) (by decide +kernel)), Or.inr (Or.inl ⟨rfl, tblG_in (i := 1363) (by decide +kernel) (by decide +kernel), tblG_in (i := 1364) (by decide +kernel) (by decide +kernel), rfl⟩)⟩
theorem l_9_184 : Cond.methodLink (cn 9) 184 (my mX9_lead) ∈ tblG := tblG_in (i := 1362) (by decide +kernel) (by decide +kernel)
theorem k_9_187 : MLk 9 187 mX6_isEmpty 1 0 := ⟨okX6_isEmpty, Or.inl (tblG_in (i := 1426) (by decide +kernel) (by decide +kernel)), Or.inr (Or.inl ⟨rfl, tblG_in (i := 1427) (by decide +kernel) (by decide +kernel), tblG_in (i := 1428) (by decide +kernel) (by decide +kernel), rfl⟩)⟩
theorem l_9_187 : Cond.methodLink (cn 9) 187 (my mX6_isEmpty) ∈ tblG := tblG_in (i := 1426) (by decide +kernel) (by decide +kernel)
theorem f_9_190 : FLg 9 190 0 3 := ⟨_, _, _, rfl, by decide, inX0, tblG_in (i := 183) (by decide +kernel) (by decide +kernel)⟩
theorem k_9_193 : MLk 9 193 mX9_follow 1 3 := ⟨okX9_follow, Or.inl (tblG_in (i := 1448) (by decide +kernel) (by decide +kernel)), Or.inr (Or.inl ⟨rfl, tblG_in (i := 1344) (by decide +kernel) (by decide +kernel), tblG_in (i := 1345) (by decide +kernel) (by decide +kernel), rfl⟩)⟩
theorem l_9_193 : Cond.methodLink (cn 9) 193 (my mX9_follow) ∈ tblG := tblG_in (i := 1448) (by decide +kernel) (by decide +kernel)
theorem k_9_197 : MLk 9 197 mX10_placesOf 1 1 := ⟨okX10_placesOf, Or.inl (tblG_in (i := 1449) (by decide +kernel) (by decide +kernel)), Or.inr (Or.inl ⟨rfl, tblG_in (i := 1450) (by decide +kernel) (by decide +kernel), tblG_in (i := 1451) (by decide +kernel) (by decide +kernel), rfl⟩)⟩
theorem l_9_197 : Cond.methodLink (cn 9) 197 (my mX10_placesOf) ∈ tblG := tblG_in (i := 1449) (by decide +kernel) (by decide +kernel)
theorem f_9_201 : FLg 9 201 0 1 := ⟨_, _, _, rfl, by decide, inX0, tblG_in (i := 177) (by decide +kernel) (by decide +kernel)⟩
-- 10 3 -> <java/lang/Object|<init>|()V>
theorem f_10_9 : FLg 10 9 10 1 := ⟨_, _, _, rfl, by decide, inX10, tblG_in (i := 233) (by decide +kernel) (by decide +kernel)⟩
theorem p_10_9 : FLp 10 9 10 1 false (tyX10 1) := ⟨_, _, _, tyX10, rfl, by decide, inX10, tblG_in (i := 233) (by decide +kernel) (by decide +kernel), tyX10_ok, nmX10, rfl, tyX10_ok 1 (by decide), fun q => by cases q⟩
theorem f_10_15 : FLg 10 15 10 2 := ⟨_, _, _, rfl, by decide, inX10, tblG_in (i := 234) (by decide +kernel) (by decide +kernel)⟩
theorem p_10_15 : FLp 10 15 10 2 false (tyX10 2) := ⟨_, _, _, tyX10, rfl, by decide, inX10, tblG_in (i := 234) (by decide +kernel) (by decide +kernel), tyX10_ok, nmX10, rfl, tyX10_ok 2 (by decide), fun q => by cases q⟩
theorem f_10_18 : FLg 10 18 10 3 := ⟨_, _, _, rfl, by decide, inX10, tblG_in (i := 235) (by decide +kernel) (by decide +kernel)⟩
theorem p_10_18 : FLp 10 18 10 3 false (tyX10 3) := ⟨_, _, _, tyX10, rfl, by decide, inX10, tblG_in (i := 235) (by decide +kernel) (by decide +kernel), tyX10_ok, nmX10, rfl, tyX10_ok 3 (by decide), fun q => by cases q⟩
theorem f_10_22 : FLg 10 22 10 5 := ⟨_, _, _, rfl, by decide, inX10, tblG_in (i := 239) (by decide +kernel) (by decide +kernel)⟩
theorem p_10_22 : FLp 10 22 10 5 true (tyX10 5) := ⟨_, _, _, tyX10, rfl, by decide, inX10, tblG_in (i := 239) (by decide +kernel) (by decide +kernel), tyX10_ok, nmX10, rfl, tyX10_ok 5 (by decide), fun _ => rfl⟩
theorem f_10_26 : FLg 10 26 10 6 := ⟨_, _, _, rfl, by decide, inX10, tblG_in (i := 241) (by decide +kernel) (by decide +kernel)⟩
theorem p_10_26 : FLp 10 26 10 6 true (tyX10 6) := ⟨_, _, _, tyX10, rfl, by decide, inX10, tblG_in (i := 241) (by decide +kernel) (by decide +kernel), tyX10_ok, nmX10, rfl, tyX10_ok 6 (by decide), fun _ => rfl⟩
theorem f_10_29 : FLg 10 29 10 7 := ⟨_, _, _, rfl, by decide, inX10, tblG_in (i := 242) (by decide +kernel) (by decide +kernel)⟩
theorem p_10_29 : FLp 10 29 10 7 true (tyX10 7) := ⟨_, _, _, tyX10, rfl, by decide, inX10, tblG_in (i := 242) (by decide +kernel) (by decide +kernel), tyX10_ok, nmX10, rfl, tyX10_ok 7 (by decide), fun _ => rfl⟩
theorem f_10_32 : FLg 10 32 10 8 := ⟨_, _, _, rfl, by decide, inX10, tblG_in (i := 243) (by decide +kernel) (by decide +kernel)⟩
theorem p_10_32 : FLp 10 32 10 8 true (tyX10 8) := ⟨_, _, _, tyX10, rfl, by decide, inX10, tblG_in (i := 243) (by decide +kernel) (by decide +kernel), tyX10_ok, nmX10, rfl, tyX10_ok 8 (by decide), fun _ => rfl⟩
theorem f_10_35 : FLg 10 35 10 9 := ⟨_, _, _, rfl, by decide, inX10, tblG_in (i := 244) (by decide +kernel) (by decide +kernel)⟩
theorem p_10_35 : FLp 10 35 10 9 true (tyX10 9) := ⟨_, _, _, tyX10, rfl, by decide, inX10, tblG_in (i := 244) (by decide +kernel) (by decide +kernel), tyX10_ok, nmX10, rfl, tyX10_ok 9 (by decide), fun _ => rfl⟩
theorem f_10_38 : FLg 10 38 10 10 := ⟨_, _, _, rfl, by decide, inX10, tblG_in (i := 245) (by decide +kernel) (by decide +kernel)⟩
theorem p_10_38 : FLp 10 38 10 10 true (tyX10 10) := ⟨_, _, _, tyX10, rfl, by decide, inX10, tblG_in (i := 245) (by decide +kernel) (by decide +kernel), tyX10_ok, nmX10, rfl, tyX10_ok 10 (by decide), fun _ => rfl⟩
theorem f_10_42 : FLg 10 42 10 11 := ⟨_, _, _, rfl, by decide, inX10, tblG_in (i := 246) (by decide +kernel) (by decide +kernel)⟩
theorem p_10_42 : FLp 10 42 10 11 true (tyX10 11) := ⟨_, _, _, tyX10, rfl, by decide, inX10, tblG_in (i := 246) (by decide +kernel) (by decide +kernel), tyX10_ok, nmX10, rfl, tyX10_ok 11 (by decide), fun _ => rfl⟩
theorem f_10_45 : FLg 10 45 10 0 := ⟨_, _, _, rfl, by decide, inX10, tblG_in (i := 228) (by decide +kernel) (by decide +kernel)⟩
theorem p_10_45 : FLp 10 45 10 0 true (tyX10 0) := ⟨_, _, _, tyX10, rfl, by decide, inX10, tblG_in (i := 228) (by decide +kernel) (by decide +kernel), tyX10_ok, nmX10, rfl, tyX10_ok 0 (by decide), fun _ => rfl⟩
theorem k_10_49 : MLk 10 49 mX10_isPreparedFor 1 1 := ⟨okX10_isPreparedFor, Or.inl (tblG_in (i := 769) (by decide +kernel) (by decide +kernel)), Or.inr (Or.inl ⟨rfl, tblG_in (i := 770) (by decide +kernel) (by decide +kernel), tblG_in (i := 771) (by decide +kernel) (by decide +kernel), rfl⟩)⟩
theorem l_10_49 : Cond.methodLink (cn 10) 49 (my mX10_isPreparedFor) ∈ tblG := tblG_in (i := 769) (by decide +kernel) (by decide +kernel)
theorem f_10_53 : FLg 10 53 3 3 := ⟨_, _, _, rfl, by decide, inX3, tblG_in (i := 55) (by decide +kernel) (by decide +kernel)⟩
theorem f_10_58 : FLg 10 58 3 6 := ⟨_, _, _, rfl, by decide, inX3, tblG_in (i := 63) (by decide +kernel) (by decide +kernel)⟩
theorem f_10_62 : FLg 10 62 3 7 := ⟨_, _, _, rfl, by decide, inX3, tblG_in (i := 66) (by decide +kernel) (by decide +kernel)⟩
theorem k_10_65 : MLk 10 65 mX10_isThere 1 3 := ⟨okX10_isThere, Or.inl (tblG_in (i := 773) (by decide +kernel) (by decide +kernel)), Or.inr (Or.inl ⟨rfl, tblG_in (i := 775) (by decide +kernel) (by decide +kernel), tblG_sel (i := 5) (by decide +kernel) (by decide +kernel), rfl⟩)⟩
theorem l_10_65 : Cond.methodLink (cn 10) 65 (my mX10_isThere) ∈ tblG := tblG_in (i := 773) (by decide +kernel) (by decide +kernel)
theorem f_10_69 : FLg 10 69 10 4 := ⟨_, _, _, rfl, by decide, inX10, tblG_in (i := 236) (by decide +kernel) (by decide +kernel)⟩
theorem p_10_69 : FLp 10 69 10 4 false (tyX10 4) := ⟨_, _, _, tyX10, rfl, by decide, inX10, tblG_in (i := 236) (by decide +kernel) (by decide +kernel), tyX10_ok, nmX10, rfl, tyX10_ok 4 (by decide), fun q => by cases q⟩
theorem k_10_72 : MLk 10 72 mX10_layWays 1 1 := ⟨okX10_layWays, Or.inl (tblG_in (i := 783) (by decide +kernel) (by decide +kernel)), Or.inr (Or.inl ⟨rfl, tblG_in (i := 785) (by decide +kernel) (by decide +kernel), tblG_sel (i := 6) (by decide +kernel) (by decide +kernel), rfl⟩)⟩
theorem l_10_72 : Cond.methodLink (cn 10) 72 (my mX10_layWays) ∈ tblG := tblG_in (i := 783) (by decide +kernel) (by decide +kernel)
-- 10 76 -> <java/util/Arrays|fill|([JJ)V>
theorem f_10_82 : FLg 10 82 3 11 := ⟨_, _, _, rfl, by decide, inX3, tblG_in (i := 77) (by decide +kernel) (by decide +kernel)⟩
theorem f_10_85 : FLg 10 85 3 15 := ⟨_, _, _, rfl, by decide, inX3, tblG_in (i := 88) (by decide +kernel) (by decide +kernel)⟩
theorem f_10_88 : FLg 10 88 3 16 := ⟨_, _, _, rfl, by decide, inX3, tblG_in (i := 91) (by decide +kernel) (by decide +kernel)⟩
theorem f_10_91 : FLg 10 91 3 13 := ⟨_, _, _, rfl, by decide, inX3, tblG_in (i := 83) (by decide +kernel) (by decide +kernel)⟩
theorem f_10_94 : FLg 10 94 3 12 := ⟨_, _, _, rfl, by decide, inX3, tblG_in (i := 81) (by decide +kernel) (by decide +kernel)⟩
theorem f_10_97 : FLg 10 97 3 14 := ⟨_, _, _, rfl, by decide, inX3, tblG_in (i := 86) (by decide +kernel) (by decide +kernel)⟩
theorem k_10_100 : MLk 10 100 mX10_addMark 1 3 := ⟨okX10_addMark, Or.inl (tblG_in (i := 797) (by decide +kernel) (by decide +kernel)), Or.inr (Or.inl ⟨rfl, tblG_in (i := 799) (by decide +kernel) (by decide +kernel), tblG_sel (i := 8) (by decide +kernel) (by decide +kernel), rfl⟩)⟩
theorem l_10_100 : Cond.methodLink (cn 10) 100 (my mX10_addMark) ∈ tblG := tblG_in (i := 797) (by decide +kernel) (by decide +kernel)
theorem k_10_104 : MLk 10 104 mX11_isIn 0 2 := ⟨okX11_isIn, Or.inr ⟨exL_in (i := 790) (by decide +kernel) rfl, rfl⟩, Or.inl ⟨rfl, tblG_in (i := 791) (by decide +kernel) (by decide +kernel)⟩⟩
theorem k_10_108 : MLk 10 108 mX10_addWay 1 1 := ⟨okX10_addWay, Or.inl (tblG_in (i := 793) (by decide +kernel) (by decide +kernel)), Or.inr (Or.inl ⟨rfl, tblG_in (i := 795) (by decide +kernel) (by decide +kernel), tblG_sel (i := 7) (by decide +kernel) (by decide +kernel), rfl⟩)⟩
theorem l_10_108 : Cond.methodLink (cn 10) 108 (my mX10_addWay) ∈ tblG := tblG_in (i := 793) (by decide +kernel) (by decide +kernel)
-- 10 112 -> <java/lang/Math|min|(II)I>
-- 10 118 -> <java/lang/Math|max|(II)I>
theorem f_10_121 : FLg 10 121 3 8 := ⟨_, _, _, rfl, by decide, inX3, tblG_in (i := 71) (by decide +kernel) (by decide +kernel)⟩
theorem f_10_124 : FLg 10 124 3 4 := ⟨_, _, _, rfl, by decide, inX3, tblG_in (i := 59) (by decide +kernel) (by decide +kernel)⟩
theorem k_10_127 : MLk 10 127 mX10_placesWith 1 1 := ⟨okX10_placesWith, Or.inl (tblG_in (i := 1191) (by decide +kernel) (by decide +kernel)), Or.inr (Or.inl ⟨rfl, tblG_in (i := 1176) (by decide +kernel) (by decide +kernel), tblG_in (i := 1177) (by decide +kernel) (by decide +kernel), rfl⟩)⟩
theorem l_10_127 : Cond.methodLink (cn 10) 127 (my mX10_placesWith) ∈ tblG := tblG_in (i := 1191) (by decide +kernel) (by decide +kernel)
theorem f_10_131 : FLg 10 131 3 0 := ⟨_, _, _, rfl, by decide, inX3, tblG_in (i := 49) (by decide +kernel) (by decide +kernel)⟩
-- 10 134 -> <java/util/Arrays|fill|([JIIJ)V>
theorem f_10_137 : FLg 10 137 3 9 := ⟨_, _, _, rfl, by decide, inX3, tblG_in (i := 74) (by decide +kernel) (by decide +kernel)⟩
theorem f_10_140 : FLg 10 140 3 10 := ⟨_, _, _, rfl, by decide, inX3, tblG_in (i := 76) (by decide +kernel) (by decide +kernel)⟩
-- 10 143 -> <java/lang/Long|bitCount|(J)I>
-- 10 149 -> <java/lang/Math|abs|(J)J>
theorem f_10_155 : FLg 10 155 6 0 := ⟨_, _, _, rfl, by decide, inX6, tblG_in (i := 289) (by decide +kernel) (by decide +kernel)⟩
theorem k_10_158 : MLk 10 158 mX11_lowest 0 1 := ⟨okX11_lowest, Or.inr ⟨exL_in (i := 1453) (by decide +kernel) rfl, rfl⟩, Or.inl ⟨rfl, tblG_in (i := 1357) (by decide +kernel) (by decide +kernel)⟩⟩
theorem k_10_161 : MLk 10 161 mX6_stateOf 0 2 := ⟨okX6_stateOf, Or.inl (tblG_in (i := 1454) (by decide +kernel) (by decide +kernel)), Or.inl ⟨rfl, tblG_in (i := 1360) (by decide +kernel) (by decide +kernel)⟩⟩
theorem l_10_161 : Cond.methodLink (cn 10) 161 (my mX6_stateOf) ∈ tblG := tblG_in (i := 1454) (by decide +kernel) (by decide +kernel)
-- 11 3 -> <java/lang/Object|<init>|()V>
theorem n_11_9 : CLn 11 9 3 [.int 0, .null, .null, .int 0, .null, .null, .null, .null, .null, .null, .null, .int 0, .null, .null, .null, .null, .null] := ⟨_, _, _, tyX3, rfl, inX3, tyX3_ok, tblG_in (i := 42) (by decide +kernel) (by decide +kernel), tblG_in (i := 43) (by decide +kernel) (by decide +kernel), iniG3, by decide +kernel, rfl⟩
theorem a_11_9 : Cond.classLink (cn 11) 9 "BurntOak$Land" ∈ tblG ∧ Cond.arrayOver (.object "BurntOak$Land") ∈ exL := ⟨tblG_in (i := 42) (by decide +kernel) (by decide +kernel), exL_in (i := 505) (by decide +kernel) rfl⟩
theorem k_11_11 : MLk 11 11 mX3_init 2 0 := ⟨okX3_init, Or.inr ⟨exL_in (i := 44) (by decide +kernel) rfl, rfl⟩, Or.inr (Or.inr ⟨rfl, rfl, tblG_in (i := 45) (by decide +kernel) (by decide +kernel), rfl, rfl⟩)⟩
theorem f_11_12 : FLg 11 12 11 0 := ⟨_, _, _, rfl, by decide, inX11, tblG_in (i := 531) (by decide +kernel) (by decide +kernel)⟩
theorem p_11_12 : FLp 11 12 11 0 true (tyX11 0) := ⟨_, _, _, tyX11, rfl, by decide, inX11, tblG_in (i := 531) (by decide +kernel) (by decide +kernel), tyX11_ok, nmX11, rfl, tyX11_ok 0 (by decide), fun _ => rfl⟩
theorem n_11_16 : CLn 11 16 2 [.int 0, .null, .int 0, .null, .null, .null, .null, .null] := ⟨_, _, _, tyX2, rfl, inX2, tyX2_ok, tblG_in (i := 130) (by decide +kernel) (by decide +kernel), tblG_in (i := 131) (by decide +kernel) (by decide +kernel), iniG2, by decide +kernel, rfl⟩
theorem a_11_16 : Cond.classLink (cn 11) 16 "BurntOak$Folk" ∈ tblG ∧ Cond.arrayOver (.object "BurntOak$Folk") ∈ exL := ⟨tblG_in (i := 130) (by decide +kernel) (by decide +kernel), exL_in (i := 506) (by decide +kernel) rfl⟩
theorem k_11_18 : MLk 11 18 mX2_init 2 0 := ⟨okX2_init, Or.inr ⟨exL_in (i := 132) (by decide +kernel) rfl, rfl⟩, Or.inr (Or.inr ⟨rfl, rfl, tblG_in (i := 133) (by decide +kernel) (by decide +kernel), rfl, rfl⟩)⟩
theorem f_11_19 : FLg 11 19 11 1 := ⟨_, _, _, rfl, by decide, inX11, tblG_in (i := 532) (by decide +kernel) (by decide +kernel)⟩
theorem p_11_19 : FLp 11 19 11 1 true (tyX11 1) := ⟨_, _, _, tyX11, rfl, by decide, inX11, tblG_in (i := 532) (by decide +kernel) (by decide +kernel), tyX11_ok, nmX11, rfl, tyX11_ok 1 (by decide), fun _ => rfl⟩
theorem n_11_23 : CLn 11 23 0 [.int 0, .null, .null, .null, .null, .int 0, .null, .null, .null, .null, .null] := ⟨_, _, _, tyX0, rfl, inX0, tyX0_ok, tblG_in (i := 168) (by decide +kernel) (by decide +kernel), tblG_in (i := 169) (by decide +kernel) (by decide +kernel), iniG0, by decide +kernel, rfl⟩
theorem a_11_23 : Cond.classLink (cn 11) 23 "BurntOak$Book" ∈ tblG ∧ Cond.arrayOver (.object "BurntOak$Book") ∈ exL := ⟨tblG_in (i := 168) (by decide +kernel) (by decide +kernel), exL_in (i := 507) (by decide +kernel) rfl⟩
theorem k_11_25 : MLk 11 25 mX0_init 2 0 := ⟨okX0_init, Or.inr ⟨exL_in (i := 170) (by decide +kernel) rfl, rfl⟩, Or.inr (Or.inr ⟨rfl, rfl, tblG_in (i := 171) (by decide +kernel) (by decide +kernel), rfl, rfl⟩)⟩
theorem f_11_26 : FLg 11 26 11 2 := ⟨_, _, _, rfl, by decide, inX11, tblG_in (i := 533) (by decide +kernel) (by decide +kernel)⟩
theorem p_11_26 : FLp 11 26 11 2 true (tyX11 2) := ⟨_, _, _, tyX11, rfl, by decide, inX11, tblG_in (i := 533) (by decide +kernel) (by decide +kernel), tyX11_ok, nmX11, rfl, tyX11_ok 2 (by decide), fun _ => rfl⟩
theorem n_11_30 : CLn 11 30 10 [.null, .int 0, .int 0, .int 0, .long 0, .null, .null, .null, .null, .null, .null, .null] := ⟨_, _, _, tyX10, rfl, inX10, tyX10_ok, tblG_in (i := 222) (by decide +kernel) (by decide +kernel), tblG_in (i := 223) (by decide +kernel) (by decide +kernel), iniG10, by decide +kernel, rfl⟩
theorem k_11_32 : MLk 11 32 mX10_init 2 1 := ⟨okX10_init, Or.inl (tblG_in (i := 224) (by decide +kernel) (by decide +kernel)), Or.inr (Or.inr ⟨rfl, rfl, tblG_in (i := 225) (by decide +kernel) (by decide +kernel), rfl, rfl⟩)⟩
theorem l_11_32 : Cond.methodLink (cn 11) 32 (my mX10_init) ∈ tblG := tblG_in (i := 224) (by decide +kernel) (by decide +kernel)
theorem f_11_35 : FLg 11 35 11 3 := ⟨_, _, _, rfl, by decide, inX11, tblG_in (i := 534) (by decide +kernel) (by decide +kernel)⟩
theorem p_11_35 : FLp 11 35 11 3 true (tyX11 3) := ⟨_, _, _, tyX11, rfl, by decide, inX11, tblG_in (i := 534) (by decide +kernel) (by decide +kernel), tyX11_ok, nmX11, rfl, tyX11_ok 3 (by decide), fun _ => rfl⟩
theorem n_11_39 : CLn 11 39 9 [.null, .null, .null, .null, .null, .null, .int 0, .null, .null, .null] := ⟨_, _, _, tyX9, rfl, inX9, tyX9_ok, tblG_in (i := 276) (by decide +kernel) (by decide +kernel), tblG_in (i := 277) (by decide +kernel) (by decide +kernel), iniG9, by decide +kernel, rfl⟩
theorem k_11_41 : MLk 11 41 mX9_init 2 3 := ⟨okX9_init, Or.inl (tblG_in (i := 278) (by decide +kernel) (by decide +kernel)), Or.inr (Or.inr ⟨rfl, rfl, tblG_in (i := 279) (by decide +kernel) (by decide +kernel), rfl, rfl⟩)⟩
theorem l_11_41 : Cond.methodLink (cn 11) 41 (my mX9_init) ∈ tblG := tblG_in (i := 278) (by decide +kernel) (by decide +kernel)
theorem f_11_44 : FLg 11 44 11 4 := ⟨_, _, _, rfl, by decide, inX11, tblG_in (i := 535) (by decide +kernel) (by decide +kernel)⟩
theorem p_11_44 : FLp 11 44 11 4 true (tyX11 4) := ⟨_, _, _, tyX11, rfl, by decide, inX11, tblG_in (i := 535) (by decide +kernel) (by decide +kernel), tyX11_ok, nmX11, rfl, tyX11_ok 4 (by decide), fun _ => rfl⟩
theorem n_11_48 : CLn 11 48 4 [.null, .null, .null, .null, .null, .null, .null, .null] := ⟨_, _, _, tyX4, rfl, inX4, tyX4_ok, tblG_in (i := 371) (by decide +kernel) (by decide +kernel), tblG_in (i := 372) (by decide +kernel) (by decide +kernel), iniG4, by decide +kernel, rfl⟩
theorem k_11_50 : MLk 11 50 mX4_init 2 1 := ⟨okX4_init, Or.inl (tblG_in (i := 373) (by decide +kernel) (by decide +kernel)), Or.inr (Or.inr ⟨rfl, rfl, tblG_in (i := 374) (by decide +kernel) (by decide +kernel), rfl, rfl⟩)⟩
theorem l_11_50 : Cond.methodLink (cn 11) 50 (my mX4_init) ∈ tblG := tblG_in (i := 373) (by decide +kernel) (by decide +kernel)
theorem f_11_53 : FLg 11 53 11 5 := ⟨_, _, _, rfl, by decide, inX11, tblG_in (i := 536) (by decide +kernel) (by decide +kernel)⟩
theorem p_11_53 : FLp 11 53 11 5 true (tyX11 5) := ⟨_, _, _, tyX11, rfl, by decide, inX11, tblG_in (i := 536) (by decide +kernel) (by decide +kernel), tyX11_ok, nmX11, rfl, tyX11_ok 5 (by decide), fun _ => rfl⟩
theorem n_11_57 : CLn 11 57 1 [.null, .int 0, .long 0, .null, .null, .null, .null, .null, .null, .null, .null] := ⟨_, _, _, tyX1, rfl, inX1, tyX1_ok, tblG_in (i := 404) (by decide +kernel) (by decide +kernel), tblG_in (i := 405) (by decide +kernel) (by decide +kernel), iniG1, by decide +kernel, rfl⟩
theorem k_11_59 : MLk 11 59 mX1_init 2 1 := ⟨okX1_init, Or.inl (tblG_in (i := 406) (by decide +kernel) (by decide +kernel)), Or.inr (Or.inr ⟨rfl, rfl, tblG_in (i := 407) (by decide +kernel) (by decide +kernel), rfl, rfl⟩)⟩
theorem l_11_59 : Cond.methodLink (cn 11) 59 (my mX1_init) ∈ tblG := tblG_in (i := 406) (by decide +kernel) (by decide +kernel)
theorem f_11_60 : FLg 11 60 11 6 := ⟨_, _, _, rfl, by decide, inX11, tblG_in (i := 537) (by decide +kernel) (by decide +kernel)⟩
theorem p_11_60 : FLp 11 60 11 6 true (tyX11 6) := ⟨_, _, _, tyX11, rfl, by decide, inX11, tblG_in (i := 537) (by decide +kernel) (by decide +kernel), tyX11_ok, nmX11, rfl, tyX11_ok 6 (by decide), fun _ => rfl⟩
theorem n_11_64 : CLn 11 64 5 [.null, .int 0, .int 0, .int 0, .null, .int 0, .int 0, .int 0, .int 0, .int 0, .int 0, .int 0, .int 0, .int 0] := ⟨_, _, _, tyX5, rfl, inX5, tyX5_ok, tblG_in (i := 448) (by decide +kernel) (by decide +kernel), tblG_in (i := 449) (by decide +kernel) (by decide +kernel), iniG5, by decide +kernel, rfl⟩
theorem k_11_66 : MLk 11 66 mX5_init 2 0 := ⟨okX5_init, Or.inr ⟨exL_in (i := 450) (by decide +kernel) rfl, rfl⟩, Or.inr (Or.inr ⟨rfl, rfl, tblG_in (i := 451) (by decide +kernel) (by decide +kernel), rfl, rfl⟩)⟩
theorem f_11_67 : FLg 11 67 11 7 := ⟨_, _, _, rfl, by decide, inX11, tblG_in (i := 538) (by decide +kernel) (by decide +kernel)⟩
theorem p_11_67 : FLp 11 67 11 7 true (tyX11 7) := ⟨_, _, _, tyX11, rfl, by decide, inX11, tblG_in (i := 538) (by decide +kernel) (by decide +kernel), tyX11_ok, nmX11, rfl, tyX11_ok 7 (by decide), fun _ => rfl⟩
theorem n_11_71 : CLn 11 71 8 [.int 0, .int 0, .int 0, .null] := ⟨_, _, _, tyX8, rfl, inX8, tyX8_ok, tblG_in (i := 503) (by decide +kernel) (by decide +kernel), tblG_in (i := 508) (by decide +kernel) (by decide +kernel), iniG8, by decide +kernel, rfl⟩
theorem a_11_71 : Cond.classLink (cn 11) 71 "BurntOak$Tray" ∈ tblG ∧ Cond.arrayOver (.object "BurntOak$Tray") ∈ exL := ⟨tblG_in (i := 503) (by decide +kernel) (by decide +kernel), exL_in (i := 504) (by decide +kernel) rfl⟩
theorem f_11_73 : FLg 11 73 11 8 := ⟨_, _, _, rfl, by decide, inX11, tblG_in (i := 539) (by decide +kernel) (by decide +kernel)⟩
theorem p_11_73 : FLp 11 73 11 8 true (tyX11 8) := ⟨_, _, _, tyX11, rfl, by decide, inX11, tblG_in (i := 539) (by decide +kernel) (by decide +kernel), tyX11_ok, nmX11, rfl, tyX11_ok 8 (by decide), fun _ => rfl⟩
theorem f_11_77 : FLg 11 77 11 9 := ⟨_, _, _, rfl, by decide, inX11, tblG_in (i := 540) (by decide +kernel) (by decide +kernel)⟩
theorem p_11_77 : FLp 11 77 11 9 true (tyX11 9) := ⟨_, _, _, tyX11, rfl, by decide, inX11, tblG_in (i := 540) (by decide +kernel) (by decide +kernel), tyX11_ok, nmX11, rfl, tyX11_ok 9 (by decide), fun _ => rfl⟩
theorem f_11_81 : FLg 11 81 11 10 := ⟨_, _, _, rfl, by decide, inX11, tblG_in (i := 541) (by decide +kernel) (by decide +kernel)⟩
theorem p_11_81 : FLp 11 81 11 10 true (tyX11 10) := ⟨_, _, _, tyX11, rfl, by decide, inX11, tblG_in (i := 541) (by decide +kernel) (by decide +kernel), tyX11_ok, nmX11, rfl, tyX11_ok 10 (by decide), fun _ => rfl⟩
theorem f_11_85 : FLg 11 85 11 11 := ⟨_, _, _, rfl, by decide, inX11, tblG_in (i := 542) (by decide +kernel) (by decide +kernel)⟩
theorem p_11_85 : FLp 11 85 11 11 true (tyX11 11) := ⟨_, _, _, tyX11, rfl, by decide, inX11, tblG_in (i := 542) (by decide +kernel) (by decide +kernel), tyX11_ok, nmX11, rfl, tyX11_ok 11 (by decide), fun _ => rfl⟩
theorem k_11_89 : MLk 11 89 mX8_init 2 0 := ⟨okX8_init, Or.inr ⟨exL_in (i := 509) (by decide +kernel) rfl, rfl⟩, Or.inr (Or.inr ⟨rfl, rfl, tblG_in (i := 510) (by decide +kernel) (by decide +kernel), rfl, rfl⟩)⟩
theorem k_11_90 : MLk 11 90 mX3_isTaken 1 2 := ⟨okX3_isTaken, Or.inl (tblG_in (i := 608) (by decide +kernel) (by decide +kernel)), Or.inr (Or.inl ⟨rfl, tblG_in (i := 609) (by decide +kernel) (by decide +kernel), tblG_in (i := 610) (by decide +kernel) (by decide +kernel), rfl⟩)⟩
theorem l_11_90 : Cond.methodLink (cn 11) 90 (my mX3_isTaken) ∈ tblG := tblG_in (i := 608) (by decide +kernel) (by decide +kernel)
-- 11 96 -> <java/lang/IllegalArgumentException|<init>|()V>
theorem k_11_97 : MLk 11 97 mX3_addPlace 1 2 := ⟨okX3_addPlace, Or.inl (tblG_in (i := 678) (by decide +kernel) (by decide +kernel)), Or.inr (Or.inl ⟨rfl, tblG_in (i := 679) (by decide +kernel) (by decide +kernel), tblG_in (i := 680) (by decide +kernel) (by decide +kernel), rfl⟩)⟩
theorem l_11_97 : Cond.methodLink (cn 11) 97 (my mX3_addPlace) ∈ tblG := tblG_in (i := 678) (by decide +kernel) (by decide +kernel)
theorem k_11_101 : MLk 11 101 mX11_needPlace 1 1 := ⟨okX11_needPlace, Or.inl (tblG_in (i := 690) (by decide +kernel) (by decide +kernel)), Or.inr (Or.inl ⟨rfl, tblG_in (i := 692) (by decide +kernel) (by decide +kernel), tblG_sel (i := 1) (by decide +kernel) (by decide +kernel), rfl⟩)⟩
theorem l_11_101 : Cond.methodLink (cn 11) 101 (my mX11_needPlace) ∈ tblG := tblG_in (i := 690) (by decide +kernel) (by decide +kernel)
theorem k_11_105 : MLk 11 105 mX11_needYears 1 2 := ⟨okX11_needYears, Or.inl (tblG_in (i := 709) (by decide +kernel) (by decide +kernel)), Or.inr (Or.inl ⟨rfl, tblG_in (i := 711) (by decide +kernel) (by decide +kernel), tblG_sel (i := 2) (by decide +kernel) (by decide +kernel), rfl⟩)⟩
theorem l_11_105 : Cond.methodLink (cn 11) 105 (my mX11_needYears) ∈ tblG := tblG_in (i := 709) (by decide +kernel) (by decide +kernel)
theorem k_11_109 : MLk 11 109 mX3_isJoined 1 4 := ⟨okX3_isJoined, Or.inl (tblG_in (i := 713) (by decide +kernel) (by decide +kernel)), Or.inr (Or.inl ⟨rfl, tblG_in (i := 714) (by decide +kernel) (by decide +kernel), tblG_in (i := 715) (by decide +kernel) (by decide +kernel), rfl⟩)⟩
theorem l_11_109 : Cond.methodLink (cn 11) 109 (my mX3_isJoined) ∈ tblG := tblG_in (i := 713) (by decide +kernel) (by decide +kernel)
theorem k_11_113 : MLk 11 113 mX10_forget 1 0 := ⟨okX10_forget, Or.inl (tblG_in (i := 717) (by decide +kernel) (by decide +kernel)), Or.inr (Or.inl ⟨rfl, tblG_in (i := 718) (by decide +kernel) (by decide +kernel), tblG_in (i := 719) (by decide +kernel) (by decide +kernel), rfl⟩)⟩
theorem l_11_113 : Cond.methodLink (cn 11) 113 (my mX10_forget) ∈ tblG := tblG_in (i := 717) (by decide +kernel) (by decide +kernel)
theorem k_11_116 : MLk 11 116 mX3_addWay 1 6 := ⟨okX3_addWay, Or.inl (tblG_in (i := 721) (by decide +kernel) (by decide +kernel)), Or.inr (Or.inl ⟨rfl, tblG_in (i := 722) (by decide +kernel) (by decide +kernel), tblG_in (i := 723) (by decide +kernel) (by decide +kernel), rfl⟩)⟩
theorem l_11_116 : Cond.methodLink (cn 11) 116 (my mX3_addWay) ∈ tblG := tblG_in (i := 721) (by decide +kernel) (by decide +kernel)
theorem k_11_120 : MLk 11 120 mX3_addMark 1 5 := ⟨okX3_addMark, Or.inl (tblG_in (i := 732) (by decide +kernel) (by decide +kernel)), Or.inr (Or.inl ⟨rfl, tblG_in (i := 733) (by decide +kernel) (by decide +kernel), tblG_in (i := 734) (by decide +kernel) (by decide +kernel), rfl⟩)⟩
theorem l_11_120 : Cond.methodLink (cn 11) 120 (my mX3_addMark) ∈ tblG := tblG_in (i := 732) (by decide +kernel) (by decide +kernel)
theorem f_11_124 : FLg 11 124 3 3 := ⟨_, _, _, rfl, by decide, inX3, tblG_in (i := 56) (by decide +kernel) (by decide +kernel)⟩
theorem f_11_128 : FLg 11 128 3 11 := ⟨_, _, _, rfl, by decide, inX3, tblG_in (i := 78) (by decide +kernel) (by decide +kernel)⟩
-- 11 133 -> <java/util/NoSuchElementException|<init>|()V>
theorem f_11_134 : FLg 11 134 3 6 := ⟨_, _, _, rfl, by decide, inX3, tblG_in (i := 64) (by decide +kernel) (by decide +kernel)⟩
theorem f_11_138 : FLg 11 138 3 15 := ⟨_, _, _, rfl, by decide, inX3, tblG_in (i := 89) (by decide +kernel) (by decide +kernel)⟩
theorem f_11_141 : FLg 11 141 3 7 := ⟨_, _, _, rfl, by decide, inX3, tblG_in (i := 67) (by decide +kernel) (by decide +kernel)⟩
theorem f_11_144 : FLg 11 144 3 16 := ⟨_, _, _, rfl, by decide, inX3, tblG_in (i := 92) (by decide +kernel) (by decide +kernel)⟩
theorem k_11_147 : MLk 11 147 mX11_needState 1 1 := ⟨okX11_needState, Or.inl (tblG_in (i := 750) (by decide +kernel) (by decide +kernel)), Or.inr (Or.inl ⟨rfl, tblG_in (i := 752) (by decide +kernel) (by decide +kernel), tblG_sel (i := 3) (by decide +kernel) (by decide +kernel), rfl⟩)⟩
theorem l_11_147 : Cond.methodLink (cn 11) 147 (my mX11_needState) ∈ tblG := tblG_in (i := 750) (by decide +kernel) (by decide +kernel)
theorem f_11_150 : FLg 11 150 3 8 := ⟨_, _, _, rfl, by decide, inX3, tblG_in (i := 70) (by decide +kernel) (by decide +kernel)⟩
theorem k_11_153 : MLk 11 153 mX11_needYear 1 1 := ⟨okX11_needYear, Or.inl (tblG_in (i := 761) (by decide +kernel) (by decide +kernel)), Or.inr (Or.inl ⟨rfl, tblG_in (i := 763) (by decide +kernel) (by decide +kernel), tblG_sel (i := 4) (by decide +kernel) (by decide +kernel), rfl⟩)⟩
theorem l_11_153 : Cond.methodLink (cn 11) 153 (my mX11_needYear) ∈ tblG := tblG_in (i := 761) (by decide +kernel) (by decide +kernel)
theorem k_11_156 : MLk 11 156 mX10_prepare 1 1 := ⟨okX10_prepare, Or.inl (tblG_in (i := 765) (by decide +kernel) (by decide +kernel)), Or.inr (Or.inl ⟨rfl, tblG_in (i := 766) (by decide +kernel) (by decide +kernel), tblG_in (i := 767) (by decide +kernel) (by decide +kernel), rfl⟩)⟩
theorem l_11_156 : Cond.methodLink (cn 11) 156 (my mX10_prepare) ∈ tblG := tblG_in (i := 765) (by decide +kernel) (by decide +kernel)
theorem k_11_159 : MLk 11 159 mX10_look 1 1 := ⟨okX10_look, Or.inl (tblG_in (i := 801) (by decide +kernel) (by decide +kernel)), Or.inr (Or.inl ⟨rfl, tblG_in (i := 802) (by decide +kernel) (by decide +kernel), tblG_in (i := 803) (by decide +kernel) (by decide +kernel), rfl⟩)⟩
theorem l_11_159 : Cond.methodLink (cn 11) 159 (my mX10_look) ∈ tblG := tblG_in (i := 801) (by decide +kernel) (by decide +kernel)
theorem f_11_163 : FLg 11 163 10 11 := ⟨_, _, _, rfl, by decide, inX10, tblG_in (i := 248) (by decide +kernel) (by decide +kernel)⟩
-- 11 167 -> <java/lang/Long|bitCount|(J)I>
theorem f_11_173 : FLg 11 173 9 7 := ⟨_, _, _, rfl, by decide, inX9, tblG_in (i := 347) (by decide +kernel) (by decide +kernel)⟩
theorem k_11_177 : MLk 11 177 mX6_clear 1 0 := ⟨okX6_clear, Or.inl (tblG_in (i := 1103) (by decide +kernel) (by decide +kernel)), Or.inr (Or.inl ⟨rfl, tblG_in (i := 1104) (by decide +kernel) (by decide +kernel), tblG_in (i := 1105) (by decide +kernel) (by decide +kernel), rfl⟩)⟩
theorem l_11_177 : Cond.methodLink (cn 11) 177 (my mX6_clear) ∈ tblG := tblG_in (i := 1103) (by decide +kernel) (by decide +kernel)
theorem k_11_182 : MLk 11 182 mX6_addArrows 1 2 := ⟨okX6_addArrows, Or.inl (tblG_in (i := 1108) (by decide +kernel) (by decide +kernel)), Or.inr (Or.inl ⟨rfl, tblG_in (i := 1109) (by decide +kernel) (by decide +kernel), tblG_in (i := 1110) (by decide +kernel) (by decide +kernel), rfl⟩)⟩
theorem l_11_182 : Cond.methodLink (cn 11) 182 (my mX6_addArrows) ∈ tblG := tblG_in (i := 1108) (by decide +kernel) (by decide +kernel)
theorem k_11_186 : MLk 11 186 mX6_size 1 0 := ⟨okX6_size, Or.inl (tblG_in (i := 1112) (by decide +kernel) (by decide +kernel)), Or.inr (Or.inl ⟨rfl, tblG_in (i := 1113) (by decide +kernel) (by decide +kernel), tblG_in (i := 1114) (by decide +kernel) (by decide +kernel), rfl⟩)⟩
theorem l_11_186 : Cond.methodLink (cn 11) 186 (my mX6_size) ∈ tblG := tblG_in (i := 1112) (by decide +kernel) (by decide +kernel)
theorem k_11_190 : MLk 11 190 mX6_nth 1 1 := ⟨okX6_nth, Or.inl (tblG_in (i := 1117) (by decide +kernel) (by decide +kernel)), Or.inr (Or.inl ⟨rfl, tblG_in (i := 1118) (by decide +kernel) (by decide +kernel), tblG_in (i := 1119) (by decide +kernel) (by decide +kernel), rfl⟩)⟩
theorem l_11_190 : Cond.methodLink (cn 11) 190 (my mX6_nth) ∈ tblG := tblG_in (i := 1117) (by decide +kernel) (by decide +kernel)
theorem k_11_193 : MLk 11 193 mX2_addTongue 1 0 := ⟨okX2_addTongue, Or.inl (tblG_in (i := 572) (by decide +kernel) (by decide +kernel)), Or.inr (Or.inl ⟨rfl, tblG_in (i := 573) (by decide +kernel) (by decide +kernel), tblG_in (i := 574) (by decide +kernel) (by decide +kernel), rfl⟩)⟩
theorem l_11_193 : Cond.methodLink (cn 11) 193 (my mX2_addTongue) ∈ tblG := tblG_in (i := 572) (by decide +kernel) (by decide +kernel)
theorem k_11_196 : MLk 11 196 mX11_needTongue 1 1 := ⟨okX11_needTongue, Or.inl (tblG_in (i := 1129) (by decide +kernel) (by decide +kernel)), Or.inr (Or.inl ⟨rfl, tblG_in (i := 1131) (by decide +kernel) (by decide +kernel), tblG_sel (i := 9) (by decide +kernel) (by decide +kernel), rfl⟩)⟩
theorem l_11_196 : Cond.methodLink (cn 11) 196 (my mX11_needTongue) ∈ tblG := tblG_in (i := 1129) (by decide +kernel) (by decide +kernel)
theorem k_11_199 : MLk 11 199 mX11_needName 1 1 := ⟨okX11_needName, Or.inl (tblG_in (i := 1133) (by decide +kernel) (by decide +kernel)), Or.inr (Or.inl ⟨rfl, tblG_in (i := 1135) (by decide +kernel) (by decide +kernel), tblG_sel (i := 10) (by decide +kernel) (by decide +kernel), rfl⟩)⟩
theorem l_11_199 : Cond.methodLink (cn 11) 199 (my mX11_needName) ∈ tblG := tblG_in (i := 1133) (by decide +kernel) (by decide +kernel)
theorem k_11_202 : MLk 11 202 mX11_needKinds 1 1 := ⟨okX11_needKinds, Or.inl (tblG_in (i := 1137) (by decide +kernel) (by decide +kernel)), Or.inr (Or.inl ⟨rfl, tblG_in (i := 1139) (by decide +kernel) (by decide +kernel), tblG_sel (i := 11) (by decide +kernel) (by decide +kernel), rfl⟩)⟩
theorem l_11_202 : Cond.methodLink (cn 11) 202 (my mX11_needKinds) ∈ tblG := tblG_in (i := 1137) (by decide +kernel) (by decide +kernel)
theorem f_11_205 : FLg 11 205 2 1 := ⟨_, _, _, rfl, by decide, inX2, tblG_in (i := 139) (by decide +kernel) (by decide +kernel)⟩
theorem k_11_208 : MLk 11 208 mX2_addWalker 1 5 := ⟨okX2_addWalker, Or.inl (tblG_in (i := 1148) (by decide +kernel) (by decide +kernel)), Or.inr (Or.inl ⟨rfl, tblG_in (i := 1149) (by decide +kernel) (by decide +kernel), tblG_in (i := 1150) (by decide +kernel) (by decide +kernel), rfl⟩)⟩
theorem l_11_208 : Cond.methodLink (cn 11) 208 (my mX2_addWalker) ∈ tblG := tblG_in (i := 1148) (by decide +kernel) (by decide +kernel)
theorem k_11_212 : MLk 11 212 mX11_needWalker 1 1 := ⟨okX11_needWalker, Or.inl (tblG_in (i := 1159) (by decide +kernel) (by decide +kernel)), Or.inr (Or.inl ⟨rfl, tblG_in (i := 1161) (by decide +kernel) (by decide +kernel), tblG_sel (i := 12) (by decide +kernel) (by decide +kernel), rfl⟩)⟩
theorem l_11_212 : Cond.methodLink (cn 11) 212 (my mX11_needWalker) ∈ tblG := tblG_in (i := 1159) (by decide +kernel) (by decide +kernel)
theorem k_11_215 : MLk 11 215 mX11_setOut 1 2 := ⟨okX11_setOut, Or.inl (tblG_in (i := 1163) (by decide +kernel) (by decide +kernel)), Or.inr (Or.inl ⟨rfl, tblG_in (i := 1165) (by decide +kernel) (by decide +kernel), tblG_sel (i := 13) (by decide +kernel) (by decide +kernel), rfl⟩)⟩
theorem l_11_215 : Cond.methodLink (cn 11) 215 (my mX11_setOut) ∈ tblG := tblG_in (i := 1163) (by decide +kernel) (by decide +kernel)
theorem k_11_218 : MLk 11 218 mX9_seenPlaces 1 1 := ⟨okX9_seenPlaces, Or.inl (tblG_in (i := 1183) (by decide +kernel) (by decide +kernel)), Or.inr (Or.inl ⟨rfl, tblG_in (i := 1184) (by decide +kernel) (by decide +kernel), tblG_in (i := 1185) (by decide +kernel) (by decide +kernel), rfl⟩)⟩
theorem l_11_218 : Cond.methodLink (cn 11) 218 (my mX9_seenPlaces) ∈ tblG := tblG_in (i := 1183) (by decide +kernel) (by decide +kernel)
theorem k_11_222 : MLk 11 222 mX9_placesWith 1 1 := ⟨okX9_placesWith, Or.inl (tblG_in (i := 1192) (by decide +kernel) (by decide +kernel)), Or.inr (Or.inl ⟨rfl, tblG_in (i := 1193) (by decide +kernel) (by decide +kernel), tblG_in (i := 1194) (by decide +kernel) (by decide +kernel), rfl⟩)⟩
theorem l_11_222 : Cond.methodLink (cn 11) 222 (my mX9_placesWith) ∈ tblG := tblG_in (i := 1192) (by decide +kernel) (by decide +kernel)
theorem k_11_225 : MLk 11 225 mX11_isIn 0 2 := ⟨okX11_isIn, Or.inl (tblG_in (i := 1196) (by decide +kernel) (by decide +kernel)), Or.inl ⟨rfl, tblG_in (i := 791) (by decide +kernel) (by decide +kernel)⟩⟩
theorem l_11_225 : Cond.methodLink (cn 11) 225 (my mX11_isIn) ∈ tblG := tblG_in (i := 1196) (by decide +kernel) (by decide +kernel)
theorem k_11_229 : MLk 11 229 mX11_needWalkers 1 1 := ⟨okX11_needWalkers, Or.inl (tblG_in (i := 1204) (by decide +kernel) (by decide +kernel)), Or.inr (Or.inl ⟨rfl, tblG_in (i := 1206) (by decide +kernel) (by decide +kernel), tblG_sel (i := 14) (by decide +kernel) (by decide +kernel), rfl⟩)⟩
theorem l_11_229 : Cond.methodLink (cn 11) 229 (my mX11_needWalkers) ∈ tblG := tblG_in (i := 1204) (by decide +kernel) (by decide +kernel)
theorem f_11_232 : FLg 11 232 3 13 := ⟨_, _, _, rfl, by decide, inX3, tblG_in (i := 84) (by decide +kernel) (by decide +kernel)⟩
theorem k_11_235 : MLk 11 235 mX2_howManyKnow 1 2 := ⟨okX2_howManyKnow, Or.inl (tblG_in (i := 1208) (by decide +kernel) (by decide +kernel)), Or.inr (Or.inl ⟨rfl, tblG_in (i := 1209) (by decide +kernel) (by decide +kernel), tblG_in (i := 1210) (by decide +kernel) (by decide +kernel), rfl⟩)⟩
theorem l_11_235 : Cond.methodLink (cn 11) 235 (my mX2_howManyKnow) ∈ tblG := tblG_in (i := 1208) (by decide +kernel) (by decide +kernel)
theorem k_11_238 : MLk 11 238 mX3_marksOf 1 2 := ⟨okX3_marksOf, Or.inl (tblG_in (i := 1214) (by decide +kernel) (by decide +kernel)), Or.inr (Or.inl ⟨rfl, tblG_in (i := 1215) (by decide +kernel) (by decide +kernel), tblG_in (i := 1216) (by decide +kernel) (by decide +kernel), rfl⟩)⟩
theorem l_11_238 : Cond.methodLink (cn 11) 238 (my mX3_marksOf) ∈ tblG := tblG_in (i := 1214) (by decide +kernel) (by decide +kernel)
theorem f_11_241 : FLg 11 241 5 1 := ⟨_, _, _, rfl, by decide, inX5, tblG_in (i := 456) (by decide +kernel) (by decide +kernel)⟩
theorem k_11_244 : MLk 11 244 mX5_put 1 1 := ⟨okX5_put, Or.inl (tblG_in (i := 580) (by decide +kernel) (by decide +kernel)), Or.inr (Or.inl ⟨rfl, tblG_in (i := 581) (by decide +kernel) (by decide +kernel), tblG_in (i := 582) (by decide +kernel) (by decide +kernel), rfl⟩)⟩
theorem l_11_244 : Cond.methodLink (cn 11) 244 (my mX5_put) ∈ tblG := tblG_in (i := 580) (by decide +kernel) (by decide +kernel)
theorem k_11_247 : MLk 11 247 mX11_needTeller 1 1 := ⟨okX11_needTeller, Or.inl (tblG_in (i := 1225) (by decide +kernel) (by decide +kernel)), Or.inr (Or.inl ⟨rfl, tblG_in (i := 1227) (by decide +kernel) (by decide +kernel), tblG_sel (i := 15) (by decide +kernel) (by decide +kernel), rfl⟩)⟩
theorem l_11_247 : Cond.methodLink (cn 11) 247 (my mX11_needTeller) ∈ tblG := tblG_in (i := 1225) (by decide +kernel) (by decide +kernel)
theorem f_11_250 : FLg 11 250 0 0 := ⟨_, _, _, rfl, by decide, inX0, tblG_in (i := 175) (by decide +kernel) (by decide +kernel)⟩
theorem k_11_253 : MLk 11 253 mX5_read 1 1 := ⟨okX5_read, Or.inl (tblG_in (i := 1229) (by decide +kernel) (by decide +kernel)), Or.inr (Or.inl ⟨rfl, tblG_in (i := 1230) (by decide +kernel) (by decide +kernel), tblG_in (i := 1231) (by decide +kernel) (by decide +kernel), rfl⟩)⟩
theorem l_11_253 : Cond.methodLink (cn 11) 253 (my mX5_read) ∈ tblG := tblG_in (i := 1229) (by decide +kernel) (by decide +kernel)
theorem f_11_256 : FLg 11 256 5 4 := ⟨_, _, _, rfl, by decide, inX5, tblG_in (i := 462) (by decide +kernel) (by decide +kernel)⟩
theorem f_11_259 : FLg 11 259 5 5 := ⟨_, _, _, rfl, by decide, inX5, tblG_in (i := 464) (by decide +kernel) (by decide +kernel)⟩
theorem k_11_262 : MLk 11 262 mX0_addTelling 1 4 := ⟨okX0_addTelling, Or.inl (tblG_in (i := 1316) (by decide +kernel) (by decide +kernel)), Or.inr (Or.inl ⟨rfl, tblG_in (i := 1317) (by decide +kernel) (by decide +kernel), tblG_in (i := 1318) (by decide +kernel) (by decide +kernel), rfl⟩)⟩
theorem l_11_262 : Cond.methodLink (cn 11) 262 (my mX0_addTelling) ∈ tblG := tblG_in (i := 1316) (by decide +kernel) (by decide +kernel)
theorem f_11_266 : FLg 11 266 5 2 := ⟨_, _, _, rfl, by decide, inX5, tblG_in (i := 458) (by decide +kernel) (by decide +kernel)⟩
theorem f_11_269 : FLg 11 269 5 3 := ⟨_, _, _, rfl, by decide, inX5, tblG_in (i := 460) (by decide +kernel) (by decide +kernel)⟩
theorem k_11_272 : MLk 11 272 mX11_needTelling 1 1 := ⟨okX11_needTelling, Or.inl (tblG_in (i := 1328) (by decide +kernel) (by decide +kernel)), Or.inr (Or.inl ⟨rfl, tblG_in (i := 1330) (by decide +kernel) (by decide +kernel), tblG_sel (i := 29) (by decide +kernel) (by decide +kernel), rfl⟩)⟩
theorem l_11_272 : Cond.methodLink (cn 11) 272 (my mX11_needTelling) ∈ tblG := tblG_in (i := 1328) (by decide +kernel) (by decide +kernel)
theorem f_11_275 : FLg 11 275 0 3 := ⟨_, _, _, rfl, by decide, inX0, tblG_in (i := 182) (by decide +kernel) (by decide +kernel)⟩
theorem k_11_278 : MLk 11 278 mX11_needTold 1 4 := ⟨okX11_needTold, Or.inl (tblG_in (i := 1339) (by decide +kernel) (by decide +kernel)), Or.inr (Or.inl ⟨rfl, tblG_in (i := 1341) (by decide +kernel) (by decide +kernel), tblG_sel (i := 30) (by decide +kernel) (by decide +kernel), rfl⟩)⟩
theorem l_11_278 : Cond.methodLink (cn 11) 278 (my mX11_needTold) ∈ tblG := tblG_in (i := 1339) (by decide +kernel) (by decide +kernel)
theorem k_11_282 : MLk 11 282 mX9_follow 1 3 := ⟨okX9_follow, Or.inl (tblG_in (i := 1343) (by decide +kernel) (by decide +kernel)), Or.inr (Or.inl ⟨rfl, tblG_in (i := 1344) (by decide +kernel) (by decide +kernel), tblG_in (i := 1345) (by decide +kernel) (by decide +kernel), rfl⟩)⟩
theorem l_11_282 : Cond.methodLink (cn 11) 282 (my mX9_follow) ∈ tblG := tblG_in (i := 1343) (by decide +kernel) (by decide +kernel)
theorem k_11_286 : MLk 11 286 mX9_lastPlaces 1 2 := ⟨okX9_lastPlaces, Or.inl (tblG_in (i := 1444) (by decide +kernel) (by decide +kernel)), Or.inr (Or.inl ⟨rfl, tblG_in (i := 1445) (by decide +kernel) (by decide +kernel), tblG_in (i := 1446) (by decide +kernel) (by decide +kernel), rfl⟩)⟩
theorem l_11_286 : Cond.methodLink (cn 11) 286 (my mX9_lastPlaces) ∈ tblG := tblG_in (i := 1444) (by decide +kernel) (by decide +kernel)
theorem k_11_290 : MLk 11 290 mX11_nthOf 0 2 := ⟨okX11_nthOf, Or.inl (tblG_in (i := 1455) (by decide +kernel) (by decide +kernel)), Or.inl ⟨rfl, tblG_in (i := 1456) (by decide +kernel) (by decide +kernel)⟩⟩
theorem l_11_290 : Cond.methodLink (cn 11) 290 (my mX11_nthOf) ∈ tblG := tblG_in (i := 1455) (by decide +kernel) (by decide +kernel)
theorem k_11_294 : MLk 11 294 mX9_getsThere 1 2 := ⟨okX9_getsThere, Or.inl (tblG_in (i := 1466) (by decide +kernel) (by decide +kernel)), Or.inr (Or.inl ⟨rfl, tblG_in (i := 1467) (by decide +kernel) (by decide +kernel), tblG_in (i := 1468) (by decide +kernel) (by decide +kernel), rfl⟩)⟩
theorem l_11_294 : Cond.methodLink (cn 11) 294 (my mX9_getsThere) ∈ tblG := tblG_in (i := 1466) (by decide +kernel) (by decide +kernel)
theorem k_11_297 : MLk 11 297 mX4_start 1 1 := ⟨okX4_start, Or.inl (tblG_in (i := 1477) (by decide +kernel) (by decide +kernel)), Or.inr (Or.inl ⟨rfl, tblG_in (i := 1478) (by decide +kernel) (by decide +kernel), tblG_in (i := 1479) (by decide +kernel) (by decide +kernel), rfl⟩)⟩
theorem l_11_297 : Cond.methodLink (cn 11) 297 (my mX4_start) ∈ tblG := tblG_in (i := 1477) (by decide +kernel) (by decide +kernel)
theorem k_11_300 : MLk 11 300 mX4_goOn 1 2 := ⟨okX4_goOn, Or.inl (tblG_in (i := 1483) (by decide +kernel) (by decide +kernel)), Or.inr (Or.inl ⟨rfl, tblG_in (i := 1484) (by decide +kernel) (by decide +kernel), tblG_in (i := 1485) (by decide +kernel) (by decide +kernel), rfl⟩)⟩
theorem l_11_300 : Cond.methodLink (cn 11) 300 (my mX4_goOn) ∈ tblG := tblG_in (i := 1483) (by decide +kernel) (by decide +kernel)
theorem k_11_303 : MLk 11 303 mX4_partsAt 1 1 := ⟨okX4_partsAt, Or.inl (tblG_in (i := 1494) (by decide +kernel) (by decide +kernel)), Or.inr (Or.inl ⟨rfl, tblG_in (i := 1495) (by decide +kernel) (by decide +kernel), tblG_in (i := 1496) (by decide +kernel) (by decide +kernel), rfl⟩)⟩
theorem l_11_303 : Cond.methodLink (cn 11) 303 (my mX4_partsAt) ∈ tblG := tblG_in (i := 1494) (by decide +kernel) (by decide +kernel)
theorem f_11_306 : FLg 11 306 0 1 := ⟨_, _, _, rfl, by decide, inX0, tblG_in (i := 178) (by decide +kernel) (by decide +kernel)⟩
theorem f_11_309 : FLg 11 309 10 4 := ⟨_, _, _, rfl, by decide, inX10, tblG_in (i := 238) (by decide +kernel) (by decide +kernel)⟩
theorem k_11_312 : MLk 11 312 mX10_isPreparedFor 1 1 := ⟨okX10_isPreparedFor, Or.inl (tblG_in (i := 1519) (by decide +kernel) (by decide +kernel)), Or.inr (Or.inl ⟨rfl, tblG_in (i := 770) (by decide +kernel) (by decide +kernel), tblG_in (i := 771) (by decide +kernel) (by decide +kernel), rfl⟩)⟩
theorem l_11_312 : Cond.methodLink (cn 11) 312 (my mX10_isPreparedFor) ∈ tblG := tblG_in (i := 1519) (by decide +kernel) (by decide +kernel)
theorem k_11_316 : MLk 11 316 mX4_meet 1 4 := ⟨okX4_meet, Or.inl (tblG_in (i := 1527) (by decide +kernel) (by decide +kernel)), Or.inr (Or.inl ⟨rfl, tblG_in (i := 1528) (by decide +kernel) (by decide +kernel), tblG_in (i := 1529) (by decide +kernel) (by decide +kernel), rfl⟩)⟩
theorem l_11_316 : Cond.methodLink (cn 11) 316 (my mX4_meet) ∈ tblG := tblG_in (i := 1527) (by decide +kernel) (by decide +kernel)
theorem g_11_320 : Cond.constant (cn 11) 320 (1000000) ∈ tblG := tblG_in (i := 1545) (by decide +kernel) (by decide +kernel)
theorem k_11_321 : MLk 11 321 mX11_lossBehind 1 5 := ⟨okX11_lossBehind, Or.inl (tblG_in (i := 1546) (by decide +kernel) (by decide +kernel)), Or.inr (Or.inl ⟨rfl, tblG_in (i := 1548) (by decide +kernel) (by decide +kernel), tblG_sel (i := 44) (by decide +kernel) (by decide +kernel), rfl⟩)⟩
theorem l_11_321 : Cond.methodLink (cn 11) 321 (my mX11_lossBehind) ∈ tblG := tblG_in (i := 1546) (by decide +kernel) (by decide +kernel)
theorem k_11_325 : MLk 11 325 mX9_become 1 1 := ⟨okX9_become, Or.inl (tblG_in (i := 1179) (by decide +kernel) (by decide +kernel)), Or.inr (Or.inl ⟨rfl, tblG_in (i := 1180) (by decide +kernel) (by decide +kernel), tblG_in (i := 1181) (by decide +kernel) (by decide +kernel), rfl⟩)⟩
theorem l_11_325 : Cond.methodLink (cn 11) 325 (my mX9_become) ∈ tblG := tblG_in (i := 1179) (by decide +kernel) (by decide +kernel)
theorem k_11_328 : MLk 11 328 mX6_isEmpty 1 0 := ⟨okX6_isEmpty, Or.inl (tblG_in (i := 1550) (by decide +kernel) (by decide +kernel)), Or.inr (Or.inl ⟨rfl, tblG_in (i := 1427) (by decide +kernel) (by decide +kernel), tblG_in (i := 1428) (by decide +kernel) (by decide +kernel), rfl⟩)⟩
theorem l_11_328 : Cond.methodLink (cn 11) 328 (my mX6_isEmpty) ∈ tblG := tblG_in (i := 1550) (by decide +kernel) (by decide +kernel)
theorem k_11_332 : MLk 11 332 mX4_spread 1 1 := ⟨okX4_spread, Or.inl (tblG_in (i := 1551) (by decide +kernel) (by decide +kernel)), Or.inr (Or.inl ⟨rfl, tblG_in (i := 1552) (by decide +kernel) (by decide +kernel), tblG_in (i := 1553) (by decide +kernel) (by decide +kernel), rfl⟩)⟩
theorem l_11_332 : Cond.methodLink (cn 11) 332 (my mX4_spread) ∈ tblG := tblG_in (i := 1551) (by decide +kernel) (by decide +kernel)
theorem f_11_336 : FLg 11 336 2 2 := ⟨_, _, _, rfl, by decide, inX2, tblG_in (i := 141) (by decide +kernel) (by decide +kernel)⟩
theorem k_11_339 : MLk 11 339 mX1_begin 1 3 := ⟨okX1_begin, Or.inl (tblG_in (i := 1562) (by decide +kernel) (by decide +kernel)), Or.inr (Or.inl ⟨rfl, tblG_in (i := 1563) (by decide +kernel) (by decide +kernel), tblG_in (i := 1564) (by decide +kernel) (by decide +kernel), rfl⟩)⟩
theorem l_11_339 : Cond.methodLink (cn 11) 339 (my mX1_begin) ∈ tblG := tblG_in (i := 1562) (by decide +kernel) (by decide +kernel)
theorem k_11_343 : MLk 11 343 mX1_search 1 2 := ⟨okX1_search, Or.inr ⟨exL_in (i := 1572) (by decide +kernel) rfl, rfl⟩, Or.inr (Or.inl ⟨rfl, tblG_in (i := 1574) (by decide +kernel) (by decide +kernel), tblG_sel (i := 45) (by decide +kernel) (by decide +kernel), rfl⟩)⟩
theorem f_11_346 : FLg 11 346 1 3 := ⟨_, _, _, rfl, by decide, inX1, tblG_in (i := 417) (by decide +kernel) (by decide +kernel)⟩
theorem k_11_349 : MLk 11 349 mX0_addRecord 1 5 := ⟨okX0_addRecord, Or.inl (tblG_in (i := 1613) (by decide +kernel) (by decide +kernel)), Or.inr (Or.inl ⟨rfl, tblG_in (i := 1614) (by decide +kernel) (by decide +kernel), tblG_in (i := 1615) (by decide +kernel) (by decide +kernel), rfl⟩)⟩
theorem l_11_349 : Cond.methodLink (cn 11) 349 (my mX0_addRecord) ∈ tblG := tblG_in (i := 1613) (by decide +kernel) (by decide +kernel)
theorem f_11_352 : FLg 11 352 0 5 := ⟨_, _, _, rfl, by decide, inX0, tblG_in (i := 188) (by decide +kernel) (by decide +kernel)⟩
theorem f_11_355 : FLg 11 355 0 6 := ⟨_, _, _, rfl, by decide, inX0, tblG_in (i := 190) (by decide +kernel) (by decide +kernel)⟩
theorem f_11_358 : FLg 11 358 0 9 := ⟨_, _, _, rfl, by decide, inX0, tblG_in (i := 196) (by decide +kernel) (by decide +kernel)⟩
theorem k_11_361 : MLk 11 361 mX11_kindsThatFit 1 3 := ⟨okX11_kindsThatFit, Or.inl (tblG_in (i := 1624) (by decide +kernel) (by decide +kernel)), Or.inr (Or.inl ⟨rfl, tblG_in (i := 1626) (by decide +kernel) (by decide +kernel), tblG_sel (i := 49) (by decide +kernel) (by decide +kernel), rfl⟩)⟩
theorem l_11_361 : Cond.methodLink (cn 11) 361 (my mX11_kindsThatFit) ∈ tblG := tblG_in (i := 1624) (by decide +kernel) (by decide +kernel)
theorem f_11_364 : FLg 11 364 0 7 := ⟨_, _, _, rfl, by decide, inX0, tblG_in (i := 192) (by decide +kernel) (by decide +kernel)⟩
theorem k_11_367 : MLk 11 367 mX9_suppose 1 2 := ⟨okX9_suppose, Or.inl (tblG_in (i := 1628) (by decide +kernel) (by decide +kernel)), Or.inr (Or.inl ⟨rfl, tblG_in (i := 1629) (by decide +kernel) (by decide +kernel), tblG_in (i := 1630) (by decide +kernel) (by decide +kernel), rfl⟩)⟩
theorem l_11_367 : Cond.methodLink (cn 11) 367 (my mX9_suppose) ∈ tblG := tblG_in (i := 1628) (by decide +kernel) (by decide +kernel)
theorem f_11_370 : FLg 11 370 0 8 := ⟨_, _, _, rfl, by decide, inX0, tblG_in (i := 194) (by decide +kernel) (by decide +kernel)⟩
theorem k_11_373 : MLk 11 373 mX10_placesOf 1 1 := ⟨okX10_placesOf, Or.inl (tblG_in (i := 1632) (by decide +kernel) (by decide +kernel)), Or.inr (Or.inl ⟨rfl, tblG_in (i := 1450) (by decide +kernel) (by decide +kernel), tblG_in (i := 1451) (by decide +kernel) (by decide +kernel), rfl⟩)⟩
theorem l_11_373 : Cond.methodLink (cn 11) 373 (my mX10_placesOf) ∈ tblG := tblG_in (i := 1632) (by decide +kernel) (by decide +kernel)
theorem f_11_377 : FLg 11 377 0 10 := ⟨_, _, _, rfl, by decide, inX0, tblG_in (i := 198) (by decide +kernel) (by decide +kernel)⟩
theorem k_11_380 : MLk 11 380 mX0_recordsOf 1 2 := ⟨okX0_recordsOf, Or.inl (tblG_in (i := 592) (by decide +kernel) (by decide +kernel)), Or.inr (Or.inl ⟨rfl, tblG_in (i := 593) (by decide +kernel) (by decide +kernel), tblG_in (i := 594) (by decide +kernel) (by decide +kernel), rfl⟩)⟩
theorem l_11_380 : Cond.methodLink (cn 11) 380 (my mX0_recordsOf) ∈ tblG := tblG_in (i := 592) (by decide +kernel) (by decide +kernel)
theorem k_11_384 : MLk 11 384 mX11_needTray 1 1 := ⟨okX11_needTray, Or.inl (tblG_in (i := 1647) (by decide +kernel) (by decide +kernel)), Or.inr (Or.inl ⟨rfl, tblG_in (i := 1649) (by decide +kernel) (by decide +kernel), tblG_sel (i := 50) (by decide +kernel) (by decide +kernel), rfl⟩)⟩
theorem l_11_384 : Cond.methodLink (cn 11) 384 (my mX11_needTray) ∈ tblG := tblG_in (i := 1647) (by decide +kernel) (by decide +kernel)
theorem k_11_387 : MLk 11 387 mX8_lay 1 2 := ⟨okX8_lay, Or.inl (tblG_in (i := 1651) (by decide +kernel) (by decide +kernel)), Or.inr (Or.inl ⟨rfl, tblG_in (i := 1652) (by decide +kernel) (by decide +kernel), tblG_in (i := 1653) (by decide +kernel) (by decide +kernel), rfl⟩)⟩
theorem l_11_387 : Cond.methodLink (cn 11) 387 (my mX8_lay) ∈ tblG := tblG_in (i := 1651) (by decide +kernel) (by decide +kernel)
theorem k_11_390 : MLk 11 390 mX11_needLaid 1 1 := ⟨okX11_needLaid, Or.inl (tblG_in (i := 1665) (by decide +kernel) (by decide +kernel)), Or.inr (Or.inl ⟨rfl, tblG_in (i := 1667) (by decide +kernel) (by decide +kernel), tblG_sel (i := 51) (by decide +kernel) (by decide +kernel), rfl⟩)⟩
theorem l_11_390 : Cond.methodLink (cn 11) 390 (my mX11_needLaid) ∈ tblG := tblG_in (i := 1665) (by decide +kernel) (by decide +kernel)
theorem f_11_393 : FLg 11 393 8 2 := ⟨_, _, _, rfl, by decide, inX8, tblG_in (i := 518) (by decide +kernel) (by decide +kernel)⟩
-- 11 396 -> <java/lang/IndexOutOfBoundsException|<init>|()V>
theorem f_11_397 : FLg 11 397 8 3 := ⟨_, _, _, rfl, by decide, inX8, tblG_in (i := 521) (by decide +kernel) (by decide +kernel)⟩
theorem k_11_400 : MLk 11 400 mX8_cut 1 1 := ⟨okX8_cut, Or.inl (tblG_in (i := 1699) (by decide +kernel) (by decide +kernel)), Or.inr (Or.inl ⟨rfl, tblG_in (i := 1700) (by decide +kernel) (by decide +kernel), tblG_in (i := 1701) (by decide +kernel) (by decide +kernel), rfl⟩)⟩
theorem l_11_400 : Cond.methodLink (cn 11) 400 (my mX8_cut) ∈ tblG := tblG_in (i := 1699) (by decide +kernel) (by decide +kernel)
theorem k_11_404 : MLk 11 404 mX8_isSayable 1 0 := ⟨okX8_isSayable, Or.inl (tblG_in (i := 1710) (by decide +kernel) (by decide +kernel)), Or.inr (Or.inl ⟨rfl, tblG_in (i := 1711) (by decide +kernel) (by decide +kernel), tblG_in (i := 1712) (by decide +kernel) (by decide +kernel), rfl⟩)⟩
theorem l_11_404 : Cond.methodLink (cn 11) 404 (my mX8_isSayable) ∈ tblG := tblG_in (i := 1710) (by decide +kernel) (by decide +kernel)
theorem k_11_407 : MLk 11 407 mX0_addListed 1 3 := ⟨okX0_addListed, Or.inl (tblG_in (i := 1715) (by decide +kernel) (by decide +kernel)), Or.inr (Or.inl ⟨rfl, tblG_in (i := 1716) (by decide +kernel) (by decide +kernel), tblG_in (i := 1717) (by decide +kernel) (by decide +kernel), rfl⟩)⟩
theorem l_11_407 : Cond.methodLink (cn 11) 407 (my mX0_addListed) ∈ tblG := tblG_in (i := 1715) (by decide +kernel) (by decide +kernel)
theorem k_11_411 : MLk 11 411 mX11_needImage 1 1 := ⟨okX11_needImage, Or.inl (tblG_in (i := 1728) (by decide +kernel) (by decide +kernel)), Or.inr (Or.inl ⟨rfl, tblG_in (i := 1730) (by decide +kernel) (by decide +kernel), tblG_sel (i := 52) (by decide +kernel) (by decide +kernel), rfl⟩)⟩
theorem l_11_411 : Cond.methodLink (cn 11) 411 (my mX11_needImage) ∈ tblG := tblG_in (i := 1728) (by decide +kernel) (by decide +kernel)
theorem k_11_414 : MLk 11 414 mX3_take 1 1 := ⟨okX3_take, Or.inl (tblG_in (i := 1732) (by decide +kernel) (by decide +kernel)), Or.inr (Or.inl ⟨rfl, tblG_in (i := 1733) (by decide +kernel) (by decide +kernel), tblG_in (i := 1734) (by decide +kernel) (by decide +kernel), rfl⟩)⟩
theorem l_11_414 : Cond.methodLink (cn 11) 414 (my mX3_take) ∈ tblG := tblG_in (i := 1732) (by decide +kernel) (by decide +kernel)
theorem k_11_417 : MLk 11 417 mX2_take 1 1 := ⟨okX2_take, Or.inl (tblG_in (i := 1737) (by decide +kernel) (by decide +kernel)), Or.inr (Or.inl ⟨rfl, tblG_in (i := 1738) (by decide +kernel) (by decide +kernel), tblG_in (i := 1739) (by decide +kernel) (by decide +kernel), rfl⟩)⟩
theorem l_11_417 : Cond.methodLink (cn 11) 417 (my mX2_take) ∈ tblG := tblG_in (i := 1737) (by decide +kernel) (by decide +kernel)
theorem k_11_420 : MLk 11 420 mX0_take 1 1 := ⟨okX0_take, Or.inl (tblG_in (i := 1742) (by decide +kernel) (by decide +kernel)), Or.inr (Or.inl ⟨rfl, tblG_in (i := 1743) (by decide +kernel) (by decide +kernel), tblG_in (i := 1744) (by decide +kernel) (by decide +kernel), rfl⟩)⟩
theorem l_11_420 : Cond.methodLink (cn 11) 420 (my mX0_take) ∈ tblG := tblG_in (i := 1742) (by decide +kernel) (by decide +kernel)
-- 11 425 -> <java/lang/IllegalStateException|<init>|()V>
theorem f_11_426 : FLg 11 426 3 0 := ⟨_, _, _, rfl, by decide, inX3, tblG_in (i := 50) (by decide +kernel) (by decide +kernel)⟩
theorem f_11_429 : FLg 11 429 2 0 := ⟨_, _, _, rfl, by decide, inX2, tblG_in (i := 137) (by decide +kernel) (by decide +kernel)⟩
theorem f_11_432 : FLg 11 432 8 0 := ⟨_, _, _, rfl, by decide, inX8, tblG_in (i := 514) (by decide +kernel) (by decide +kernel)⟩
theorem k_11_436 : MLk 11 436 mX9_learnGround 1 1 := ⟨okX9_learnGround, Or.inl (tblG_in (i := 1167) (by decide +kernel) (by decide +kernel)), Or.inr (Or.inl ⟨rfl, tblG_in (i := 1168) (by decide +kernel) (by decide +kernel), tblG_in (i := 1169) (by decide +kernel) (by decide +kernel), rfl⟩)⟩
theorem l_11_436 : Cond.methodLink (cn 11) 436 (my mX9_learnGround) ∈ tblG := tblG_in (i := 1167) (by decide +kernel) (by decide +kernel)
theorem k_11_439 : MLk 11 439 mX11_lowest 0 1 := ⟨okX11_lowest, Or.inl (tblG_in (i := 1458) (by decide +kernel) (by decide +kernel)), Or.inl ⟨rfl, tblG_in (i := 1357) (by decide +kernel) (by decide +kernel)⟩⟩
theorem l_11_439 : Cond.methodLink (cn 11) 439 (my mX11_lowest) ∈ tblG := tblG_in (i := 1458) (by decide +kernel) (by decide +kernel)
theorem k_11_442 : MLk 11 442 mX11_wordOf 0 3 := ⟨okX11_wordOf, Or.inl (tblG_in (i := 1593) (by decide +kernel) (by decide +kernel)), Or.inl ⟨rfl, tblG_in (i := 1294) (by decide +kernel) (by decide +kernel)⟩⟩
theorem l_11_442 : Cond.methodLink (cn 11) 442 (my mX11_wordOf) ∈ tblG := tblG_in (i := 1593) (by decide +kernel) (by decide +kernel)
-- 12 3 -> <java/lang/Object|<init>|()V>
theorem f_12_9 : FLg 12 9 12 0 := ⟨_, _, _, rfl, by decide, inX12, tblG_in (i := 1759) (by decide +kernel) (by decide +kernel)⟩
theorem p_12_9 : FLp 12 9 12 0 true (tyX12 0) := ⟨_, _, _, tyX12, rfl, by decide, inX12, tblG_in (i := 1759) (by decide +kernel) (by decide +kernel), tyX12_ok, nmX12, rfl, tyX12_ok 0 (by decide), fun _ => rfl⟩
theorem f_12_13 : FLg 12 13 12 1 := ⟨_, _, _, rfl, by decide, inX12, tblG_in (i := 1760) (by decide +kernel) (by decide +kernel)⟩
theorem p_12_13 : FLp 12 13 12 1 true (tyX12 1) := ⟨_, _, _, tyX12, rfl, by decide, inX12, tblG_in (i := 1760) (by decide +kernel) (by decide +kernel), tyX12_ok, nmX12, rfl, tyX12_ok 1 (by decide), fun _ => rfl⟩
theorem f_12_16 : FLg 12 16 12 2 := ⟨_, _, _, rfl, by decide, inX12, tblG_in (i := 1761) (by decide +kernel) (by decide +kernel)⟩
theorem p_12_16 : FLp 12 16 12 2 true (tyX12 2) := ⟨_, _, _, tyX12, rfl, by decide, inX12, tblG_in (i := 1761) (by decide +kernel) (by decide +kernel), tyX12_ok, nmX12, rfl, tyX12_ok 2 (by decide), fun _ => rfl⟩
theorem f_12_20 : FLg 12 20 12 4 := ⟨_, _, _, rfl, by decide, inX12, tblG_in (i := 1763) (by decide +kernel) (by decide +kernel)⟩
theorem p_12_20 : FLp 12 20 12 4 false (tyX12 4) := ⟨_, _, _, tyX12, rfl, by decide, inX12, tblG_in (i := 1763) (by decide +kernel) (by decide +kernel), tyX12_ok, nmX12, rfl, tyX12_ok 4 (by decide), fun q => by cases q⟩
theorem f_12_24 : FLg 12 24 12 5 := ⟨_, _, _, rfl, by decide, inX12, tblG_in (i := 1764) (by decide +kernel) (by decide +kernel)⟩
theorem p_12_24 : FLp 12 24 12 5 true (tyX12 5) := ⟨_, _, _, tyX12, rfl, by decide, inX12, tblG_in (i := 1764) (by decide +kernel) (by decide +kernel), tyX12_ok, nmX12, rfl, tyX12_ok 5 (by decide), fun _ => rfl⟩
theorem f_12_28 : FLg 12 28 12 6 := ⟨_, _, _, rfl, by decide, inX12, tblG_in (i := 1765) (by decide +kernel) (by decide +kernel)⟩
theorem p_12_28 : FLp 12 28 12 6 true (tyX12 6) := ⟨_, _, _, tyX12, rfl, by decide, inX12, tblG_in (i := 1765) (by decide +kernel) (by decide +kernel), tyX12_ok, nmX12, rfl, tyX12_ok 6 (by decide), fun _ => rfl⟩
theorem f_12_31 : FLg 12 31 12 7 := ⟨_, _, _, rfl, by decide, inX12, tblG_in (i := 1766) (by decide +kernel) (by decide +kernel)⟩
theorem p_12_31 : FLp 12 31 12 7 true (tyX12 7) := ⟨_, _, _, tyX12, rfl, by decide, inX12, tblG_in (i := 1766) (by decide +kernel) (by decide +kernel), tyX12_ok, nmX12, rfl, tyX12_ok 7 (by decide), fun _ => rfl⟩
theorem f_12_34 : FLg 12 34 12 8 := ⟨_, _, _, rfl, by decide, inX12, tblG_in (i := 1767) (by decide +kernel) (by decide +kernel)⟩
theorem p_12_34 : FLp 12 34 12 8 true (tyX12 8) := ⟨_, _, _, tyX12, rfl, by decide, inX12, tblG_in (i := 1767) (by decide +kernel) (by decide +kernel), tyX12_ok, nmX12, rfl, tyX12_ok 8 (by decide), fun _ => rfl⟩
theorem f_12_37 : FLg 12 37 12 9 := ⟨_, _, _, rfl, by decide, inX12, tblG_in (i := 1768) (by decide +kernel) (by decide +kernel)⟩
theorem p_12_37 : FLp 12 37 12 9 true (tyX12 9) := ⟨_, _, _, tyX12, rfl, by decide, inX12, tblG_in (i := 1768) (by decide +kernel) (by decide +kernel), tyX12_ok, nmX12, rfl, tyX12_ok 9 (by decide), fun _ => rfl⟩
theorem f_12_40 : FLg 12 40 12 19 := ⟨_, _, _, rfl, by decide, inX12, tblG_in (i := 1778) (by decide +kernel) (by decide +kernel)⟩
theorem p_12_40 : FLp 12 40 12 19 false (tyX12 19) := ⟨_, _, _, tyX12, rfl, by decide, inX12, tblG_in (i := 1778) (by decide +kernel) (by decide +kernel), tyX12_ok, nmX12, rfl, tyX12_ok 19 (by decide), fun q => by cases q⟩
theorem f_12_43 : FLg 12 43 12 20 := ⟨_, _, _, rfl, by decide, inX12, tblG_in (i := 1779) (by decide +kernel) (by decide +kernel)⟩
theorem p_12_43 : FLp 12 43 12 20 true (tyX12 20) := ⟨_, _, _, tyX12, rfl, by decide, inX12, tblG_in (i := 1779) (by decide +kernel) (by decide +kernel), tyX12_ok, nmX12, rfl, tyX12_ok 20 (by decide), fun _ => rfl⟩
theorem f_12_46 : FLg 12 46 12 21 := ⟨_, _, _, rfl, by decide, inX12, tblG_in (i := 1780) (by decide +kernel) (by decide +kernel)⟩
theorem p_12_46 : FLp 12 46 12 21 true (tyX12 21) := ⟨_, _, _, tyX12, rfl, by decide, inX12, tblG_in (i := 1780) (by decide +kernel) (by decide +kernel), tyX12_ok, nmX12, rfl, tyX12_ok 21 (by decide), fun _ => rfl⟩
theorem f_12_49 : FLg 12 49 12 22 := ⟨_, _, _, rfl, by decide, inX12, tblG_in (i := 1781) (by decide +kernel) (by decide +kernel)⟩
theorem p_12_49 : FLp 12 49 12 22 true (tyX12 22) := ⟨_, _, _, tyX12, rfl, by decide, inX12, tblG_in (i := 1781) (by decide +kernel) (by decide +kernel), tyX12_ok, nmX12, rfl, tyX12_ok 22 (by decide), fun _ => rfl⟩
theorem f_12_52 : FLg 12 52 12 23 := ⟨_, _, _, rfl, by decide, inX12, tblG_in (i := 1782) (by decide +kernel) (by decide +kernel)⟩
theorem p_12_52 : FLp 12 52 12 23 true (tyX12 23) := ⟨_, _, _, tyX12, rfl, by decide, inX12, tblG_in (i := 1782) (by decide +kernel) (by decide +kernel), tyX12_ok, nmX12, rfl, tyX12_ok 23 (by decide), fun _ => rfl⟩
theorem f_12_55 : FLg 12 55 12 24 := ⟨_, _, _, rfl, by decide, inX12, tblG_in (i := 1783) (by decide +kernel) (by decide +kernel)⟩
theorem p_12_55 : FLp 12 55 12 24 true (tyX12 24) := ⟨_, _, _, tyX12, rfl, by decide, inX12, tblG_in (i := 1783) (by decide +kernel) (by decide +kernel), tyX12_ok, nmX12, rfl, tyX12_ok 24 (by decide), fun _ => rfl⟩
theorem f_12_58 : FLg 12 58 12 25 := ⟨_, _, _, rfl, by decide, inX12, tblG_in (i := 1784) (by decide +kernel) (by decide +kernel)⟩
theorem p_12_58 : FLp 12 58 12 25 true (tyX12 25) := ⟨_, _, _, tyX12, rfl, by decide, inX12, tblG_in (i := 1784) (by decide +kernel) (by decide +kernel), tyX12_ok, nmX12, rfl, tyX12_ok 25 (by decide), fun _ => rfl⟩
theorem f_12_61 : FLg 12 61 12 26 := ⟨_, _, _, rfl, by decide, inX12, tblG_in (i := 1785) (by decide +kernel) (by decide +kernel)⟩
theorem p_12_61 : FLp 12 61 12 26 true (tyX12 26) := ⟨_, _, _, tyX12, rfl, by decide, inX12, tblG_in (i := 1785) (by decide +kernel) (by decide +kernel), tyX12_ok, nmX12, rfl, tyX12_ok 26 (by decide), fun _ => rfl⟩
theorem f_12_64 : FLg 12 64 12 27 := ⟨_, _, _, rfl, by decide, inX12, tblG_in (i := 1786) (by decide +kernel) (by decide +kernel)⟩
theorem p_12_64 : FLp 12 64 12 27 true (tyX12 27) := ⟨_, _, _, tyX12, rfl, by decide, inX12, tblG_in (i := 1786) (by decide +kernel) (by decide +kernel), tyX12_ok, nmX12, rfl, tyX12_ok 27 (by decide), fun _ => rfl⟩
theorem f_12_67 : FLg 12 67 12 28 := ⟨_, _, _, rfl, by decide, inX12, tblG_in (i := 1787) (by decide +kernel) (by decide +kernel)⟩
theorem p_12_67 : FLp 12 67 12 28 true (tyX12 28) := ⟨_, _, _, tyX12, rfl, by decide, inX12, tblG_in (i := 1787) (by decide +kernel) (by decide +kernel), tyX12_ok, nmX12, rfl, tyX12_ok 28 (by decide), fun _ => rfl⟩
theorem f_12_70 : FLg 12 70 12 29 := ⟨_, _, _, rfl, by decide, inX12, tblG_in (i := 1788) (by decide +kernel) (by decide +kernel)⟩
theorem p_12_70 : FLp 12 70 12 29 true (tyX12 29) := ⟨_, _, _, tyX12, rfl, by decide, inX12, tblG_in (i := 1788) (by decide +kernel) (by decide +kernel), tyX12_ok, nmX12, rfl, tyX12_ok 29 (by decide), fun _ => rfl⟩
theorem f_12_73 : FLg 12 73 12 30 := ⟨_, _, _, rfl, by decide, inX12, tblG_in (i := 1789) (by decide +kernel) (by decide +kernel)⟩
theorem p_12_73 : FLp 12 73 12 30 true (tyX12 30) := ⟨_, _, _, tyX12, rfl, by decide, inX12, tblG_in (i := 1789) (by decide +kernel) (by decide +kernel), tyX12_ok, nmX12, rfl, tyX12_ok 30 (by decide), fun _ => rfl⟩
theorem f_12_76 : FLg 12 76 12 31 := ⟨_, _, _, rfl, by decide, inX12, tblG_in (i := 1790) (by decide +kernel) (by decide +kernel)⟩
theorem p_12_76 : FLp 12 76 12 31 true (tyX12 31) := ⟨_, _, _, tyX12, rfl, by decide, inX12, tblG_in (i := 1790) (by decide +kernel) (by decide +kernel), tyX12_ok, nmX12, rfl, tyX12_ok 31 (by decide), fun _ => rfl⟩
theorem f_12_79 : FLg 12 79 12 32 := ⟨_, _, _, rfl, by decide, inX12, tblG_in (i := 1791) (by decide +kernel) (by decide +kernel)⟩
theorem p_12_79 : FLp 12 79 12 32 true (tyX12 32) := ⟨_, _, _, tyX12, rfl, by decide, inX12, tblG_in (i := 1791) (by decide +kernel) (by decide +kernel), tyX12_ok, nmX12, rfl, tyX12_ok 32 (by decide), fun _ => rfl⟩
theorem f_12_82 : FLg 12 82 12 33 := ⟨_, _, _, rfl, by decide, inX12, tblG_in (i := 1792) (by decide +kernel) (by decide +kernel)⟩
theorem p_12_82 : FLp 12 82 12 33 true (tyX12 33) := ⟨_, _, _, tyX12, rfl, by decide, inX12, tblG_in (i := 1792) (by decide +kernel) (by decide +kernel), tyX12_ok, nmX12, rfl, tyX12_ok 33 (by decide), fun _ => rfl⟩
theorem f_12_85 : FLg 12 85 12 34 := ⟨_, _, _, rfl, by decide, inX12, tblG_in (i := 1793) (by decide +kernel) (by decide +kernel)⟩
theorem p_12_85 : FLp 12 85 12 34 true (tyX12 34) := ⟨_, _, _, tyX12, rfl, by decide, inX12, tblG_in (i := 1793) (by decide +kernel) (by decide +kernel), tyX12_ok, nmX12, rfl, tyX12_ok 34 (by decide), fun _ => rfl⟩
theorem f_12_88 : FLg 12 88 12 37 := ⟨_, _, _, rfl, by decide, inX12, tblG_in (i := 1796) (by decide +kernel) (by decide +kernel)⟩
theorem p_12_88 : FLp 12 88 12 37 true (tyX12 37) := ⟨_, _, _, tyX12, rfl, by decide, inX12, tblG_in (i := 1796) (by decide +kernel) (by decide +kernel), tyX12_ok, nmX12, rfl, tyX12_ok 37 (by decide), fun _ => rfl⟩
theorem f_12_91 : FLg 12 91 12 38 := ⟨_, _, _, rfl, by decide, inX12, tblG_in (i := 1797) (by decide +kernel) (by decide +kernel)⟩
theorem p_12_91 : FLp 12 91 12 38 true (tyX12 38) := ⟨_, _, _, tyX12, rfl, by decide, inX12, tblG_in (i := 1797) (by decide +kernel) (by decide +kernel), tyX12_ok, nmX12, rfl, tyX12_ok 38 (by decide), fun _ => rfl⟩
theorem f_12_94 : FLg 12 94 12 39 := ⟨_, _, _, rfl, by decide, inX12, tblG_in (i := 1798) (by decide +kernel) (by decide +kernel)⟩
theorem p_12_94 : FLp 12 94 12 39 true (tyX12 39) := ⟨_, _, _, tyX12, rfl, by decide, inX12, tblG_in (i := 1798) (by decide +kernel) (by decide +kernel), tyX12_ok, nmX12, rfl, tyX12_ok 39 (by decide), fun _ => rfl⟩
theorem f_12_97 : FLg 12 97 12 3 := ⟨_, _, _, rfl, by decide, inX12, tblG_in (i := 1762) (by decide +kernel) (by decide +kernel)⟩
theorem p_12_97 : FLp 12 97 12 3 false (tyX12 3) := ⟨_, _, _, tyX12, rfl, by decide, inX12, tblG_in (i := 1762) (by decide +kernel) (by decide +kernel), tyX12_ok, nmX12, rfl, tyX12_ok 3 (by decide), fun q => by cases q⟩
theorem g_12_100 : Cond.constantLong (cn 12) 100 (200) ∈ tblG := tblG_in (i := 1916) (by decide +kernel) (by decide +kernel)
theorem k_12_102 : MLk 12 102 mX12_within 0 3 := ⟨okX12_within, Or.inl (tblG_in (i := 1889) (by decide +kernel) (by decide +kernel)), Or.inl ⟨rfl, tblG_in (i := 1890) (by decide +kernel) (by decide +kernel)⟩⟩
theorem l_12_102 : Cond.methodLink (cn 12) 102 (my mX12_within) ∈ tblG := tblG_in (i := 1889) (by decide +kernel) (by decide +kernel)
theorem k_12_106 : MLk 12 106 mX12_is 1 2 := ⟨okX12_is, Or.inl (tblG_in (i := 1908) (by decide +kernel) (by decide +kernel)), Or.inr (Or.inl ⟨rfl, tblG_in (i := 1910) (by decide +kernel) (by decide +kernel), tblG_sel (i := 56) (by decide +kernel) (by decide +kernel), rfl⟩)⟩
theorem l_12_106 : Cond.methodLink (cn 12) 106 (my mX12_is) ∈ tblG := tblG_in (i := 1908) (by decide +kernel) (by decide +kernel)
theorem g_12_110 : Cond.constantLong (cn 12) 110 (11) ∈ tblG := tblG_in (i := 1928) (by decide +kernel) (by decide +kernel)
theorem g_12_112 : Cond.constantLong (cn 12) 112 (99) ∈ tblG := tblG_in (i := 1888) (by decide +kernel) (by decide +kernel)
theorem k_12_114 : MLk 12 114 mX12_fails 1 1 := ⟨okX12_fails, Or.inl (tblG_in (i := 1892) (by decide +kernel) (by decide +kernel)), Or.inr (Or.inl ⟨rfl, tblG_in (i := 1894) (by decide +kernel) (by decide +kernel), tblG_sel (i := 53) (by decide +kernel) (by decide +kernel), rfl⟩)⟩
theorem l_12_114 : Cond.methodLink (cn 12) 114 (my mX12_fails) ∈ tblG := tblG_in (i := 1892) (by decide +kernel) (by decide +kernel)
theorem k_12_118 : MLk 12 118 mX12_more 1 1 := ⟨okX12_more, Or.inl (tblG_in (i := 1896) (by decide +kernel) (by decide +kernel)), Or.inr (Or.inl ⟨rfl, tblG_in (i := 1898) (by decide +kernel) (by decide +kernel), tblG_sel (i := 54) (by decide +kernel) (by decide +kernel), rfl⟩)⟩
theorem l_12_118 : Cond.methodLink (cn 12) 118 (my mX12_more) ∈ tblG := tblG_in (i := 1896) (by decide +kernel) (by decide +kernel)
theorem k_12_121 : MLk 12 121 mX12_isPlace 1 1 := ⟨okX12_isPlace, Or.inl (tblG_in (i := 1904) (by decide +kernel) (by decide +kernel)), Or.inr (Or.inl ⟨rfl, tblG_in (i := 1906) (by decide +kernel) (by decide +kernel), tblG_sel (i := 55) (by decide +kernel) (by decide +kernel), rfl⟩)⟩
theorem l_12_121 : Cond.methodLink (cn 12) 121 (my mX12_isPlace) ∈ tblG := tblG_in (i := 1904) (by decide +kernel) (by decide +kernel)
theorem g_12_125 : Cond.constantLong (cn 12) 125 (2) ∈ tblG := tblG_in (i := 1912) (by decide +kernel) (by decide +kernel)
theorem k_12_127 : MLk 12 127 mX12_isYear 0 1 := ⟨okX12_isYear, Or.inl (tblG_in (i := 1913) (by decide +kernel) (by decide +kernel)), Or.inl ⟨rfl, tblG_in (i := 1914) (by decide +kernel) (by decide +kernel)⟩⟩
theorem l_12_127 : Cond.methodLink (cn 12) 127 (my mX12_isYear) ∈ tblG := tblG_in (i := 1913) (by decide +kernel) (by decide +kernel)
theorem k_12_130 : MLk 12 130 mX12_wayOf 1 2 := ⟨okX12_wayOf, Or.inl (tblG_in (i := 1917) (by decide +kernel) (by decide +kernel)), Or.inr (Or.inl ⟨rfl, tblG_in (i := 1919) (by decide +kernel) (by decide +kernel), tblG_sel (i := 57) (by decide +kernel) (by decide +kernel), rfl⟩)⟩
theorem l_12_130 : Cond.methodLink (cn 12) 130 (my mX12_wayOf) ∈ tblG := tblG_in (i := 1917) (by decide +kernel) (by decide +kernel)
theorem k_12_134 : MLk 12 134 mX12_isName 0 1 := ⟨okX12_isName, Or.inl (tblG_in (i := 1925) (by decide +kernel) (by decide +kernel)), Or.inl ⟨rfl, tblG_in (i := 1926) (by decide +kernel) (by decide +kernel)⟩⟩
theorem l_12_134 : Cond.methodLink (cn 12) 134 (my mX12_isName) ∈ tblG := tblG_in (i := 1925) (by decide +kernel) (by decide +kernel)
theorem k_12_137 : MLk 12 137 mX12_endOf 1 2 := ⟨okX12_endOf, Or.inl (tblG_in (i := 1945) (by decide +kernel) (by decide +kernel)), Or.inr (Or.inl ⟨rfl, tblG_in (i := 1947) (by decide +kernel) (by decide +kernel), tblG_sel (i := 60) (by decide +kernel) (by decide +kernel), rfl⟩)⟩
theorem l_12_137 : Cond.methodLink (cn 12) 137 (my mX12_endOf) ∈ tblG := tblG_in (i := 1945) (by decide +kernel) (by decide +kernel)
theorem k_12_140 : MLk 12 140 mX12_isState 1 1 := ⟨okX12_isState, Or.inl (tblG_in (i := 1937) (by decide +kernel) (by decide +kernel)), Or.inr (Or.inl ⟨rfl, tblG_in (i := 1939) (by decide +kernel) (by decide +kernel), tblG_sel (i := 58) (by decide +kernel) (by decide +kernel), rfl⟩)⟩
theorem l_12_140 : Cond.methodLink (cn 12) 140 (my mX12_isState) ∈ tblG := tblG_in (i := 1937) (by decide +kernel) (by decide +kernel)
theorem k_12_143 : MLk 12 143 mX12_placeOf 1 1 := ⟨okX12_placeOf, Or.inl (tblG_in (i := 1941) (by decide +kernel) (by decide +kernel)), Or.inr (Or.inl ⟨rfl, tblG_in (i := 1943) (by decide +kernel) (by decide +kernel), tblG_sel (i := 59) (by decide +kernel) (by decide +kernel), rfl⟩)⟩
theorem l_12_143 : Cond.methodLink (cn 12) 143 (my mX12_placeOf) ∈ tblG := tblG_in (i := 1941) (by decide +kernel) (by decide +kernel)
theorem k_12_146 : MLk 12 146 mX12_isThere 1 2 := ⟨okX12_isThere, Or.inl (tblG_in (i := 1957) (by decide +kernel) (by decide +kernel)), Or.inr (Or.inl ⟨rfl, tblG_in (i := 1959) (by decide +kernel) (by decide +kernel), tblG_sel (i := 62) (by decide +kernel) (by decide +kernel), rfl⟩)⟩
theorem l_12_146 : Cond.methodLink (cn 12) 146 (my mX12_isThere) ∈ tblG := tblG_in (i := 1957) (by decide +kernel) (by decide +kernel)
theorem k_12_149 : MLk 12 149 mX12_alongX 1 1 := ⟨okX12_alongX, Or.inl (tblG_in (i := 1965) (by decide +kernel) (by decide +kernel)), Or.inr (Or.inl ⟨rfl, tblG_in (i := 1967) (by decide +kernel) (by decide +kernel), tblG_sel (i := 64) (by decide +kernel) (by decide +kernel), rfl⟩)⟩
theorem l_12_149 : Cond.methodLink (cn 12) 149 (my mX12_alongX) ∈ tblG := tblG_in (i := 1965) (by decide +kernel) (by decide +kernel)
theorem k_12_152 : MLk 12 152 mX12_alongY 1 1 := ⟨okX12_alongY, Or.inl (tblG_in (i := 1969) (by decide +kernel) (by decide +kernel)), Or.inr (Or.inl ⟨rfl, tblG_in (i := 1971) (by decide +kernel) (by decide +kernel), tblG_sel (i := 65) (by decide +kernel) (by decide +kernel), rfl⟩)⟩
theorem l_12_152 : Cond.methodLink (cn 12) 152 (my mX12_alongY) ∈ tblG := tblG_in (i := 1969) (by decide +kernel) (by decide +kernel)
theorem k_12_155 : MLk 12 155 mX12_dots 1 2 := ⟨okX12_dots, Or.inl (tblG_in (i := 1995) (by decide +kernel) (by decide +kernel)), Or.inr (Or.inl ⟨rfl, tblG_in (i := 1997) (by decide +kernel) (by decide +kernel), tblG_sel (i := 69) (by decide +kernel) (by decide +kernel), rfl⟩)⟩
theorem l_12_155 : Cond.methodLink (cn 12) 155 (my mX12_dots) ∈ tblG := tblG_in (i := 1995) (by decide +kernel) (by decide +kernel)
theorem k_12_159 : MLk 12 159 mX12_sizes 1 1 := ⟨okX12_sizes, Or.inl (tblG_in (i := 1999) (by decide +kernel) (by decide +kernel)), Or.inr (Or.inl ⟨rfl, tblG_in (i := 2001) (by decide +kernel) (by decide +kernel), tblG_sel (i := 70) (by decide +kernel) (by decide +kernel), rfl⟩)⟩
theorem l_12_159 : Cond.methodLink (cn 12) 159 (my mX12_sizes) ∈ tblG := tblG_in (i := 1999) (by decide +kernel) (by decide +kernel)
theorem k_12_163 : MLk 12 163 mX12_isOut 1 3 := ⟨okX12_isOut, Or.inl (tblG_in (i := 1953) (by decide +kernel) (by decide +kernel)), Or.inr (Or.inl ⟨rfl, tblG_in (i := 1955) (by decide +kernel) (by decide +kernel), tblG_sel (i := 61) (by decide +kernel) (by decide +kernel), rfl⟩)⟩
theorem l_12_163 : Cond.methodLink (cn 12) 163 (my mX12_isOut) ∈ tblG := tblG_in (i := 1953) (by decide +kernel) (by decide +kernel)
theorem k_12_167 : MLk 12 167 mX12_cross 1 2 := ⟨okX12_cross, Or.inl (tblG_in (i := 1961) (by decide +kernel) (by decide +kernel)), Or.inr (Or.inl ⟨rfl, tblG_in (i := 1963) (by decide +kernel) (by decide +kernel), tblG_sel (i := 63) (by decide +kernel) (by decide +kernel), rfl⟩)⟩
theorem l_12_167 : Cond.methodLink (cn 12) 167 (my mX12_cross) ∈ tblG := tblG_in (i := 1961) (by decide +kernel) (by decide +kernel)
theorem k_12_170 : MLk 12 170 mX12_layOne 1 2 := ⟨okX12_layOne, Or.inl (tblG_in (i := 1981) (by decide +kernel) (by decide +kernel)), Or.inr (Or.inl ⟨rfl, tblG_in (i := 1983) (by decide +kernel) (by decide +kernel), tblG_sel (i := 67) (by decide +kernel) (by decide +kernel), rfl⟩)⟩
theorem l_12_170 : Cond.methodLink (cn 12) 170 (my mX12_layOne) ∈ tblG := tblG_in (i := 1981) (by decide +kernel) (by decide +kernel)
theorem k_12_174 : MLk 12 174 mX12_sideAt 0 3 := ⟨okX12_sideAt, Or.inl (tblG_in (i := 1985) (by decide +kernel) (by decide +kernel)), Or.inl ⟨rfl, tblG_in (i := 1986) (by decide +kernel) (by decide +kernel)⟩⟩
theorem l_12_174 : Cond.methodLink (cn 12) 174 (my mX12_sideAt) ∈ tblG := tblG_in (i := 1985) (by decide +kernel) (by decide +kernel)
theorem k_12_178 : MLk 12 178 mX12_put 0 3 := ⟨okX12_put, Or.inl (tblG_in (i := 1988) (by decide +kernel) (by decide +kernel)), Or.inl ⟨rfl, tblG_in (i := 1989) (by decide +kernel) (by decide +kernel)⟩⟩
theorem l_12_178 : Cond.methodLink (cn 12) 178 (my mX12_put) ∈ tblG := tblG_in (i := 1988) (by decide +kernel) (by decide +kernel)
theorem k_12_182 : MLk 12 182 mX12_isLessTurned 1 3 := ⟨okX12_isLessTurned, Or.inl (tblG_in (i := 1991) (by decide +kernel) (by decide +kernel)), Or.inr (Or.inl ⟨rfl, tblG_in (i := 1993) (by decide +kernel) (by decide +kernel), tblG_sel (i := 68) (by decide +kernel) (by decide +kernel), rfl⟩)⟩
theorem l_12_182 : Cond.methodLink (cn 12) 182 (my mX12_isLessTurned) ∈ tblG := tblG_in (i := 1991) (by decide +kernel) (by decide +kernel)
theorem k_12_185 : MLk 12 185 mX12_has 0 3 := ⟨okX12_has, Or.inl (tblG_in (i := 2009) (by decide +kernel) (by decide +kernel)), Or.inl ⟨rfl, tblG_in (i := 2010) (by decide +kernel) (by decide +kernel)⟩⟩
theorem l_12_185 : Cond.methodLink (cn 12) 185 (my mX12_has) ∈ tblG := tblG_in (i := 2009) (by decide +kernel) (by decide +kernel)
theorem k_12_189 : MLk 12 189 mX12_sizeOf 0 2 := ⟨okX12_sizeOf, Or.inl (tblG_in (i := 2006) (by decide +kernel) (by decide +kernel)), Or.inl ⟨rfl, tblG_in (i := 2007) (by decide +kernel) (by decide +kernel)⟩⟩
theorem l_12_189 : Cond.methodLink (cn 12) 189 (my mX12_sizeOf) ∈ tblG := tblG_in (i := 2006) (by decide +kernel) (by decide +kernel)
theorem k_12_193 : MLk 12 193 mX12_lay 1 1 := ⟨okX12_lay, Or.inl (tblG_in (i := 1977) (by decide +kernel) (by decide +kernel)), Or.inr (Or.inl ⟨rfl, tblG_in (i := 1979) (by decide +kernel) (by decide +kernel), tblG_sel (i := 66) (by decide +kernel) (by decide +kernel), rfl⟩)⟩
theorem l_12_193 : Cond.methodLink (cn 12) 193 (my mX12_lay) ∈ tblG := tblG_in (i := 1977) (by decide +kernel) (by decide +kernel)
theorem k_12_197 : MLk 12 197 mX12_numberOf 0 3 := ⟨okX12_numberOf, Or.inl (tblG_in (i := 2003) (by decide +kernel) (by decide +kernel)), Or.inl ⟨rfl, tblG_in (i := 2004) (by decide +kernel) (by decide +kernel)⟩⟩
theorem l_12_197 : Cond.methodLink (cn 12) 197 (my mX12_numberOf) ∈ tblG := tblG_in (i := 2003) (by decide +kernel) (by decide +kernel)
theorem g_12_201 : Cond.constantLong (cn 12) 201 (4095) ∈ tblG := tblG_in (i := 2020) (by decide +kernel) (by decide +kernel)
theorem g_12_203 : Cond.constantLong (cn 12) 203 (20) ∈ tblG := tblG_in (i := 2025) (by decide +kernel) (by decide +kernel)
theorem k_12_205 : MLk 12 205 mX12_kindsOf 1 2 := ⟨okX12_kindsOf, Or.inl (tblG_in (i := 2046) (by decide +kernel) (by decide +kernel)), Or.inr (Or.inl ⟨rfl, tblG_in (i := 2048) (by decide +kernel) (by decide +kernel), tblG_sel (i := 75) (by decide +kernel) (by decide +kernel), rfl⟩)⟩
theorem l_12_205 : Cond.methodLink (cn 12) 205 (my mX12_kindsOf) ∈ tblG := tblG_in (i := 2046) (by decide +kernel) (by decide +kernel)
theorem k_12_208 : MLk 12 208 mX12_isMark 1 3 := ⟨okX12_isMark, Or.inl (tblG_in (i := 2050) (by decide +kernel) (by decide +kernel)), Or.inr (Or.inl ⟨rfl, tblG_in (i := 2052) (by decide +kernel) (by decide +kernel), tblG_sel (i := 76) (by decide +kernel) (by decide +kernel), rfl⟩)⟩
theorem l_12_208 : Cond.methodLink (cn 12) 208 (my mX12_isMark) ∈ tblG := tblG_in (i := 2050) (by decide +kernel) (by decide +kernel)
theorem k_12_211 : MLk 12 211 mX12_standsAt 1 4 := ⟨okX12_standsAt, Or.inl (tblG_in (i := 2042) (by decide +kernel) (by decide +kernel)), Or.inr (Or.inl ⟨rfl, tblG_in (i := 2044) (by decide +kernel) (by decide +kernel), tblG_sel (i := 74) (by decide +kernel) (by decide +kernel), rfl⟩)⟩
theorem l_12_211 : Cond.methodLink (cn 12) 211 (my mX12_standsAt) ∈ tblG := tblG_in (i := 2042) (by decide +kernel) (by decide +kernel)
theorem k_12_215 : MLk 12 215 mX12_areJoined 1 3 := ⟨okX12_areJoined, Or.inl (tblG_in (i := 2054) (by decide +kernel) (by decide +kernel)), Or.inr (Or.inl ⟨rfl, tblG_in (i := 2056) (by decide +kernel) (by decide +kernel), tblG_sel (i := 77) (by decide +kernel) (by decide +kernel), rfl⟩)⟩
theorem l_12_215 : Cond.methodLink (cn 12) 215 (my mX12_areJoined) ∈ tblG := tblG_in (i := 2054) (by decide +kernel) (by decide +kernel)
theorem k_12_218 : MLk 12 218 mX12_empty 0 2 := ⟨okX12_empty, Or.inl (tblG_in (i := 2190) (by decide +kernel) (by decide +kernel)), Or.inl ⟨rfl, tblG_in (i := 2191) (by decide +kernel) (by decide +kernel)⟩⟩
theorem l_12_218 : Cond.methodLink (cn 12) 218 (my mX12_empty) ∈ tblG := tblG_in (i := 2190) (by decide +kernel) (by decide +kernel)
theorem k_12_222 : MLk 12 222 mX12_isWalker 1 1 := ⟨okX12_isWalker, Or.inl (tblG_in (i := 2030) (by decide +kernel) (by decide +kernel)), Or.inr (Or.inl ⟨rfl, tblG_in (i := 2032) (by decide +kernel) (by decide +kernel), tblG_sel (i := 71) (by decide +kernel) (by decide +kernel), rfl⟩)⟩
theorem l_12_222 : Cond.methodLink (cn 12) 222 (my mX12_isWalker) ∈ tblG := tblG_in (i := 2030) (by decide +kernel) (by decide +kernel)
theorem k_12_225 : MLk 12 225 mX12_fell 1 1 := ⟨okX12_fell, Or.inl (tblG_in (i := 2034) (by decide +kernel) (by decide +kernel)), Or.inr (Or.inl ⟨rfl, tblG_in (i := 2036) (by decide +kernel) (by decide +kernel), tblG_sel (i := 72) (by decide +kernel) (by decide +kernel), rfl⟩)⟩
theorem l_12_225 : Cond.methodLink (cn 12) 225 (my mX12_fell) ∈ tblG := tblG_in (i := 2034) (by decide +kernel) (by decide +kernel)
theorem k_12_228 : MLk 12 228 mX12_isSeenAt 1 4 := ⟨okX12_isSeenAt, Or.inl (tblG_in (i := 2038) (by decide +kernel) (by decide +kernel)), Or.inr (Or.inl ⟨rfl, tblG_in (i := 2040) (by decide +kernel) (by decide +kernel), tblG_sel (i := 73) (by decide +kernel) (by decide +kernel), rfl⟩)⟩
theorem l_12_228 : Cond.methodLink (cn 12) 228 (my mX12_isSeenAt) ∈ tblG := tblG_in (i := 2038) (by decide +kernel) (by decide +kernel)
theorem f_12_231 : FLg 12 231 12 10 := ⟨_, _, _, rfl, by decide, inX12, tblG_in (i := 1769) (by decide +kernel) (by decide +kernel)⟩
theorem p_12_231 : FLp 12 231 12 10 false (tyX12 10) := ⟨_, _, _, tyX12, rfl, by decide, inX12, tblG_in (i := 1769) (by decide +kernel) (by decide +kernel), tyX12_ok, nmX12, rfl, tyX12_ok 10 (by decide), fun q => by cases q⟩
theorem f_12_234 : FLg 12 234 12 11 := ⟨_, _, _, rfl, by decide, inX12, tblG_in (i := 1770) (by decide +kernel) (by decide +kernel)⟩
theorem p_12_234 : FLp 12 234 12 11 false (tyX12 11) := ⟨_, _, _, tyX12, rfl, by decide, inX12, tblG_in (i := 1770) (by decide +kernel) (by decide +kernel), tyX12_ok, nmX12, rfl, tyX12_ok 11 (by decide), fun q => by cases q⟩
theorem f_12_237 : FLg 12 237 12 12 := ⟨_, _, _, rfl, by decide, inX12, tblG_in (i := 1771) (by decide +kernel) (by decide +kernel)⟩
theorem p_12_237 : FLp 12 237 12 12 false (tyX12 12) := ⟨_, _, _, tyX12, rfl, by decide, inX12, tblG_in (i := 1771) (by decide +kernel) (by decide +kernel), tyX12_ok, nmX12, rfl, tyX12_ok 12 (by decide), fun q => by cases q⟩
theorem f_12_240 : FLg 12 240 12 13 := ⟨_, _, _, rfl, by decide, inX12, tblG_in (i := 1772) (by decide +kernel) (by decide +kernel)⟩
theorem p_12_240 : FLp 12 240 12 13 false (tyX12 13) := ⟨_, _, _, tyX12, rfl, by decide, inX12, tblG_in (i := 1772) (by decide +kernel) (by decide +kernel), tyX12_ok, nmX12, rfl, tyX12_ok 13 (by decide), fun q => by cases q⟩
theorem f_12_243 : FLg 12 243 12 14 := ⟨_, _, _, rfl, by decide, inX12, tblG_in (i := 1773) (by decide +kernel) (by decide +kernel)⟩
theorem p_12_243 : FLp 12 243 12 14 false (tyX12 14) := ⟨_, _, _, tyX12, rfl, by decide, inX12, tblG_in (i := 1773) (by decide +kernel) (by decide +kernel), tyX12_ok, nmX12, rfl, tyX12_ok 14 (by decide), fun q => by cases q⟩
theorem k_12_246 : MLk 12 246 mX12_isLetter 0 1 := ⟨okX12_isLetter, Or.inl (tblG_in (i := 2075) (by decide +kernel) (by decide +kernel)), Or.inl ⟨rfl, tblG_in (i := 2076) (by decide +kernel) (by decide +kernel)⟩⟩
theorem l_12_246 : Cond.methodLink (cn 12) 246 (my mX12_isLetter) ∈ tblG := tblG_in (i := 2075) (by decide +kernel) (by decide +kernel)
theorem k_12_249 : MLk 12 249 mX12_see 1 1 := ⟨okX12_see, Or.inl (tblG_in (i := 2078) (by decide +kernel) (by decide +kernel)), Or.inr (Or.inl ⟨rfl, tblG_in (i := 2080) (by decide +kernel) (by decide +kernel), tblG_sel (i := 79) (by decide +kernel) (by decide +kernel), rfl⟩)⟩
theorem l_12_249 : Cond.methodLink (cn 12) 249 (my mX12_see) ∈ tblG := tblG_in (i := 2078) (by decide +kernel) (by decide +kernel)
theorem k_12_252 : MLk 12 252 mX12_isDigit 0 1 := ⟨okX12_isDigit, Or.inl (tblG_in (i := 2082) (by decide +kernel) (by decide +kernel)), Or.inl ⟨rfl, tblG_in (i := 2083) (by decide +kernel) (by decide +kernel)⟩⟩
theorem l_12_252 : Cond.methodLink (cn 12) 252 (my mX12_isDigit) ∈ tblG := tblG_in (i := 2082) (by decide +kernel) (by decide +kernel)
theorem f_12_255 : FLg 12 255 12 15 := ⟨_, _, _, rfl, by decide, inX12, tblG_in (i := 1774) (by decide +kernel) (by decide +kernel)⟩
theorem p_12_255 : FLp 12 255 12 15 false (tyX12 15) := ⟨_, _, _, tyX12, rfl, by decide, inX12, tblG_in (i := 1774) (by decide +kernel) (by decide +kernel), tyX12_ok, nmX12, rfl, tyX12_ok 15 (by decide), fun q => by cases q⟩
theorem f_12_258 : FLg 12 258 12 16 := ⟨_, _, _, rfl, by decide, inX12, tblG_in (i := 1775) (by decide +kernel) (by decide +kernel)⟩
theorem p_12_258 : FLp 12 258 12 16 false (tyX12 16) := ⟨_, _, _, tyX12, rfl, by decide, inX12, tblG_in (i := 1775) (by decide +kernel) (by decide +kernel), tyX12_ok, nmX12, rfl, tyX12_ok 16 (by decide), fun q => by cases q⟩
theorem f_12_261 : FLg 12 261 12 17 := ⟨_, _, _, rfl, by decide, inX12, tblG_in (i := 1776) (by decide +kernel) (by decide +kernel)⟩
theorem p_12_261 : FLp 12 261 12 17 false (tyX12 17) := ⟨_, _, _, tyX12, rfl, by decide, inX12, tblG_in (i := 1776) (by decide +kernel) (by decide +kernel), tyX12_ok, nmX12, rfl, tyX12_ok 17 (by decide), fun q => by cases q⟩
-- 12 264 -> <java/lang/String|length|()I>
-- 12 270 -> <java/lang/String|charAt|(I)C>
theorem k_12_276 : MLk 12 276 mX12_isWord 1 1 := ⟨okX12_isWord, Or.inl (tblG_in (i := 2094) (by decide +kernel) (by decide +kernel)), Or.inr (Or.inl ⟨rfl, tblG_in (i := 2096) (by decide +kernel) (by decide +kernel), tblG_sel (i := 82) (by decide +kernel) (by decide +kernel), rfl⟩)⟩
theorem l_12_276 : Cond.methodLink (cn 12) 276 (my mX12_isWord) ∈ tblG := tblG_in (i := 2094) (by decide +kernel) (by decide +kernel)
theorem k_12_301 : MLk 12 301 mX12_nameNow 1 0 := ⟨okX12_nameNow, Or.inl (tblG_in (i := 2133) (by decide +kernel) (by decide +kernel)), Or.inr (Or.inl ⟨rfl, tblG_in (i := 2135) (by decide +kernel) (by decide +kernel), tblG_sel (i := 89) (by decide +kernel) (by decide +kernel), rfl⟩)⟩
theorem l_12_301 : Cond.methodLink (cn 12) 301 (my mX12_nameNow) ∈ tblG := tblG_in (i := 2133) (by decide +kernel) (by decide +kernel)
theorem k_12_304 : MLk 12 304 mX12_wrong 1 1 := ⟨okX12_wrong, Or.inl (tblG_in (i := 2112) (by decide +kernel) (by decide +kernel)), Or.inr (Or.inl ⟨rfl, tblG_in (i := 2114) (by decide +kernel) (by decide +kernel), tblG_sel (i := 84) (by decide +kernel) (by decide +kernel), rfl⟩)⟩
theorem l_12_304 : Cond.methodLink (cn 12) 304 (my mX12_wrong) ∈ tblG := tblG_in (i := 2112) (by decide +kernel) (by decide +kernel)
theorem k_12_307 : MLk 12 307 mX12_next 1 0 := ⟨okX12_next, Or.inl (tblG_in (i := 2071) (by decide +kernel) (by decide +kernel)), Or.inr (Or.inl ⟨rfl, tblG_in (i := 2073) (by decide +kernel) (by decide +kernel), tblG_sel (i := 78) (by decide +kernel) (by decide +kernel), rfl⟩)⟩
theorem l_12_307 : Cond.methodLink (cn 12) 307 (my mX12_next) ∈ tblG := tblG_in (i := 2071) (by decide +kernel) (by decide +kernel)
theorem k_12_314 : MLk 12 314 mX12_wordAt 0 2 := ⟨okX12_wordAt, Or.inl (tblG_in (i := 2153) (by decide +kernel) (by decide +kernel)), Or.inl ⟨rfl, tblG_in (i := 2154) (by decide +kernel) (by decide +kernel)⟩⟩
theorem l_12_314 : Cond.methodLink (cn 12) 314 (my mX12_wordAt) ∈ tblG := tblG_in (i := 2153) (by decide +kernel) (by decide +kernel)
theorem k_12_330 : MLk 12 330 mX12_sideNow 1 0 := ⟨okX12_sideNow, Or.inl (tblG_in (i := 2106) (by decide +kernel) (by decide +kernel)), Or.inr (Or.inl ⟨rfl, tblG_in (i := 2108) (by decide +kernel) (by decide +kernel), tblG_sel (i := 83) (by decide +kernel) (by decide +kernel), rfl⟩)⟩
theorem l_12_330 : Cond.methodLink (cn 12) 330 (my mX12_sideNow) ∈ tblG := tblG_in (i := 2106) (by decide +kernel) (by decide +kernel)
theorem k_12_333 : MLk 12 333 mX12_isBegun 1 0 := ⟨okX12_isBegun, Or.inl (tblG_in (i := 2089) (by decide +kernel) (by decide +kernel)), Or.inr (Or.inl ⟨rfl, tblG_in (i := 2091) (by decide +kernel) (by decide +kernel), tblG_sel (i := 81) (by decide +kernel) (by decide +kernel), rfl⟩)⟩
theorem l_12_333 : Cond.methodLink (cn 12) 333 (my mX12_isBegun) ∈ tblG := tblG_in (i := 2089) (by decide +kernel) (by decide +kernel)
theorem k_12_337 : MLk 12 337 mX12_readNth 1 1 := ⟨okX12_readNth, Or.inl (tblG_in (i := 2120) (by decide +kernel) (by decide +kernel)), Or.inr (Or.inl ⟨rfl, tblG_in (i := 2122) (by decide +kernel) (by decide +kernel), tblG_sel (i := 86) (by decide +kernel) (by decide +kernel), rfl⟩)⟩
theorem l_12_337 : Cond.methodLink (cn 12) 337 (my mX12_readNth) ∈ tblG := tblG_in (i := 2120) (by decide +kernel) (by decide +kernel)
theorem k_12_340 : MLk 12 340 mX12_lays 1 4 := ⟨okX12_lays, Or.inl (tblG_in (i := 2149) (by decide +kernel) (by decide +kernel)), Or.inr (Or.inl ⟨rfl, tblG_in (i := 2151) (by decide +kernel) (by decide +kernel), tblG_sel (i := 90) (by decide +kernel) (by decide +kernel), rfl⟩)⟩
theorem l_12_340 : Cond.methodLink (cn 12) 340 (my mX12_lays) ∈ tblG := tblG_in (i := 2149) (by decide +kernel) (by decide +kernel)
theorem k_12_346 : MLk 12 346 mX12_readName 1 0 := ⟨okX12_readName, Or.inl (tblG_in (i := 2129) (by decide +kernel) (by decide +kernel)), Or.inr (Or.inl ⟨rfl, tblG_in (i := 2131) (by decide +kernel) (by decide +kernel), tblG_sel (i := 88) (by decide +kernel) (by decide +kernel), rfl⟩)⟩
theorem l_12_346 : Cond.methodLink (cn 12) 346 (my mX12_readName) ∈ tblG := tblG_in (i := 2129) (by decide +kernel) (by decide +kernel)
theorem k_12_349 : MLk 12 349 mX12_readNumber 1 0 := ⟨okX12_readNumber, Or.inl (tblG_in (i := 2124) (by decide +kernel) (by decide +kernel)), Or.inr (Or.inl ⟨rfl, tblG_in (i := 2126) (by decide +kernel) (by decide +kernel), tblG_sel (i := 87) (by decide +kernel) (by decide +kernel), rfl⟩)⟩
theorem l_12_349 : Cond.methodLink (cn 12) 349 (my mX12_readNumber) ∈ tblG := tblG_in (i := 2124) (by decide +kernel) (by decide +kernel)
theorem k_12_354 : MLk 12 354 mX12_readWord 1 1 := ⟨okX12_readWord, Or.inl (tblG_in (i := 2116) (by decide +kernel) (by decide +kernel)), Or.inr (Or.inl ⟨rfl, tblG_in (i := 2118) (by decide +kernel) (by decide +kernel), tblG_sel (i := 85) (by decide +kernel) (by decide +kernel), rfl⟩)⟩
theorem l_12_354 : Cond.methodLink (cn 12) 354 (my mX12_readWord) ∈ tblG := tblG_in (i := 2116) (by decide +kernel) (by decide +kernel)
theorem g_12_359 : Cond.constantLong (cn 12) 359 (9) ∈ tblG := tblG_in (i := 2070) (by decide +kernel) (by decide +kernel)
theorem k_12_361 : MLk 12 361 mX12_readSaying 1 1 := ⟨okX12_readSaying, Or.inl (tblG_in (i := 2085) (by decide +kernel) (by decide +kernel)), Or.inr (Or.inl ⟨rfl, tblG_in (i := 2087) (by decide +kernel) (by decide +kernel), tblG_sel (i := 80) (by decide +kernel) (by decide +kernel), rfl⟩)⟩
theorem l_12_361 : Cond.methodLink (cn 12) 361 (my mX12_readSaying) ∈ tblG := tblG_in (i := 2085) (by decide +kernel) (by decide +kernel)
theorem f_12_364 : FLg 12 364 12 18 := ⟨_, _, _, rfl, by decide, inX12, tblG_in (i := 1777) (by decide +kernel) (by decide +kernel)⟩
theorem p_12_364 : FLp 12 364 12 18 false (tyX12 18) := ⟨_, _, _, tyX12, rfl, by decide, inX12, tblG_in (i := 1777) (by decide +kernel) (by decide +kernel), tyX12_ok, nmX12, rfl, tyX12_ok 18 (by decide), fun q => by cases q⟩
theorem k_12_367 : MLk 12 367 mX12_keeps 1 3 := ⟨okX12_keeps, Or.inl (tblG_in (i := 2158) (by decide +kernel) (by decide +kernel)), Or.inr (Or.inl ⟨rfl, tblG_in (i := 2160) (by decide +kernel) (by decide +kernel), tblG_sel (i := 91) (by decide +kernel) (by decide +kernel), rfl⟩)⟩
theorem l_12_367 : Cond.methodLink (cn 12) 367 (my mX12_keeps) ∈ tblG := tblG_in (i := 2158) (by decide +kernel) (by decide +kernel)
theorem k_12_371 : MLk 12 371 mX12_isTelling 1 1 := ⟨okX12_isTelling, Or.inl (tblG_in (i := 2170) (by decide +kernel) (by decide +kernel)), Or.inr (Or.inl ⟨rfl, tblG_in (i := 2172) (by decide +kernel) (by decide +kernel), tblG_sel (i := 92) (by decide +kernel) (by decide +kernel), rfl⟩)⟩
theorem l_12_371 : Cond.methodLink (cn 12) 371 (my mX12_isTelling) ∈ tblG := tblG_in (i := 2170) (by decide +kernel) (by decide +kernel)
theorem k_12_374 : MLk 12 374 mX12_sayingsOf 1 1 := ⟨okX12_sayingsOf, Or.inl (tblG_in (i := 2174) (by decide +kernel) (by decide +kernel)), Or.inr (Or.inl ⟨rfl, tblG_in (i := 2176) (by decide +kernel) (by decide +kernel), tblG_sel (i := 93) (by decide +kernel) (by decide +kernel), rfl⟩)⟩
theorem l_12_374 : Cond.methodLink (cn 12) 374 (my mX12_sayingsOf) ∈ tblG := tblG_in (i := 2174) (by decide +kernel) (by decide +kernel)
theorem k_12_377 : MLk 12 377 mX12_join 0 4 := ⟨okX12_join, Or.inl (tblG_in (i := 2216) (by decide +kernel) (by decide +kernel)), Or.inl ⟨rfl, tblG_in (i := 2217) (by decide +kernel) (by decide +kernel)⟩⟩
theorem l_12_377 : Cond.methodLink (cn 12) 377 (my mX12_join) ∈ tblG := tblG_in (i := 2216) (by decide +kernel) (by decide +kernel)
theorem k_12_381 : MLk 12 381 mX12_onTimes 1 6 := ⟨okX12_onTimes, Or.inl (tblG_in (i := 2201) (by decide +kernel) (by decide +kernel)), Or.inr (Or.inl ⟨rfl, tblG_in (i := 2203) (by decide +kernel) (by decide +kernel), tblG_sel (i := 98) (by decide +kernel) (by decide +kernel), rfl⟩)⟩
theorem l_12_381 : Cond.methodLink (cn 12) 381 (my mX12_onTimes) ∈ tblG := tblG_in (i := 2201) (by decide +kernel) (by decide +kernel)
theorem k_12_385 : MLk 12 385 mX12_until 1 7 := ⟨okX12_until, Or.inl (tblG_in (i := 2219) (by decide +kernel) (by decide +kernel)), Or.inr (Or.inl ⟨rfl, tblG_in (i := 2221) (by decide +kernel) (by decide +kernel), tblG_sel (i := 101) (by decide +kernel) (by decide +kernel), rfl⟩)⟩
theorem l_12_385 : Cond.methodLink (cn 12) 385 (my mX12_until) ∈ tblG := tblG_in (i := 2219) (by decide +kernel) (by decide +kernel)
theorem k_12_388 : MLk 12 388 mX12_far 1 6 := ⟨okX12_far, Or.inl (tblG_in (i := 2231) (by decide +kernel) (by decide +kernel)), Or.inr (Or.inl ⟨rfl, tblG_in (i := 2233) (by decide +kernel) (by decide +kernel), tblG_sel (i := 103) (by decide +kernel) (by decide +kernel), rfl⟩)⟩
theorem l_12_388 : Cond.methodLink (cn 12) 388 (my mX12_far) ∈ tblG := tblG_in (i := 2231) (by decide +kernel) (by decide +kernel)
theorem k_12_390 : MLk 12 390 mX12_isOver 1 3 := ⟨okX12_isOver, Or.inl (tblG_in (i := 2239) (by decide +kernel) (by decide +kernel)), Or.inr (Or.inl ⟨rfl, tblG_in (i := 2241) (by decide +kernel) (by decide +kernel), tblG_sel (i := 105) (by decide +kernel) (by decide +kernel), rfl⟩)⟩
theorem l_12_390 : Cond.methodLink (cn 12) 390 (my mX12_isOver) ∈ tblG := tblG_in (i := 2239) (by decide +kernel) (by decide +kernel)
theorem k_12_393 : MLk 12 393 mX12_sideOf 1 2 := ⟨okX12_sideOf, Or.inl (tblG_in (i := 2243) (by decide +kernel) (by decide +kernel)), Or.inr (Or.inl ⟨rfl, tblG_in (i := 2245) (by decide +kernel) (by decide +kernel), tblG_sel (i := 106) (by decide +kernel) (by decide +kernel), rfl⟩)⟩
theorem l_12_393 : Cond.methodLink (cn 12) 393 (my mX12_sideOf) ∈ tblG := tblG_in (i := 2243) (by decide +kernel) (by decide +kernel)
theorem k_12_396 : MLk 12 396 mX12_nth 1 8 := ⟨okX12_nth, Or.inl (tblG_in (i := 2247) (by decide +kernel) (by decide +kernel)), Or.inr (Or.inl ⟨rfl, tblG_in (i := 2249) (by decide +kernel) (by decide +kernel), tblG_sel (i := 107) (by decide +kernel) (by decide +kernel), rfl⟩)⟩
theorem l_12_396 : Cond.methodLink (cn 12) 396 (my mX12_nth) ∈ tblG := tblG_in (i := 2247) (by decide +kernel) (by decide +kernel)
theorem k_12_400 : MLk 12 400 mX12_patience 1 1 := ⟨okX12_patience, Or.inl (tblG_in (i := 2205) (by decide +kernel) (by decide +kernel)), Or.inr (Or.inl ⟨rfl, tblG_in (i := 2207) (by decide +kernel) (by decide +kernel), tblG_sel (i := 99) (by decide +kernel) (by decide +kernel), rfl⟩)⟩
theorem l_12_400 : Cond.methodLink (cn 12) 400 (my mX12_patience) ∈ tblG := tblG_in (i := 2205) (by decide +kernel) (by decide +kernel)
theorem k_12_403 : MLk 12 403 mX12_copy 0 4 := ⟨okX12_copy, Or.inl (tblG_in (i := 2209) (by decide +kernel) (by decide +kernel)), Or.inl ⟨rfl, tblG_in (i := 2210) (by decide +kernel) (by decide +kernel)⟩⟩
theorem l_12_403 : Cond.methodLink (cn 12) 403 (my mX12_copy) ∈ tblG := tblG_in (i := 2209) (by decide +kernel) (by decide +kernel)
theorem k_12_406 : MLk 12 406 mX12_goOn 1 4 := ⟨okX12_goOn, Or.inl (tblG_in (i := 2212) (by decide +kernel) (by decide +kernel)), Or.inr (Or.inl ⟨rfl, tblG_in (i := 2214) (by decide +kernel) (by decide +kernel), tblG_sel (i := 100) (by decide +kernel) (by decide +kernel), rfl⟩)⟩
theorem l_12_406 : Cond.methodLink (cn 12) 406 (my mX12_goOn) ∈ tblG := tblG_in (i := 2212) (by decide +kernel) (by decide +kernel)
theorem k_12_409 : MLk 12 409 mX12_standing 1 2 := ⟨okX12_standing, Or.inl (tblG_in (i := 2223) (by decide +kernel) (by decide +kernel)), Or.inr (Or.inl ⟨rfl, tblG_in (i := 2225) (by decide +kernel) (by decide +kernel), tblG_sel (i := 102) (by decide +kernel) (by decide +kernel), rfl⟩)⟩
theorem l_12_409 : Cond.methodLink (cn 12) 409 (my mX12_standing) ∈ tblG := tblG_in (i := 2223) (by decide +kernel) (by decide +kernel)
theorem k_12_411 : MLk 12 411 mX12_isNone 0 2 := ⟨okX12_isNone, Or.inl (tblG_in (i := 2227) (by decide +kernel) (by decide +kernel)), Or.inl ⟨rfl, tblG_in (i := 2228) (by decide +kernel) (by decide +kernel)⟩⟩
theorem l_12_411 : Cond.methodLink (cn 12) 411 (my mX12_isNone) ∈ tblG := tblG_in (i := 2227) (by decide +kernel) (by decide +kernel)
theorem g_12_415 : Cond.constantLong (cn 12) 415 (-1) ∈ tblG := tblG_in (i := 2230) (by decide +kernel) (by decide +kernel)
theorem k_12_417 : MLk 12 417 mX12_goOnFar 1 2 := ⟨okX12_goOnFar, Or.inl (tblG_in (i := 2235) (by decide +kernel) (by decide +kernel)), Or.inr (Or.inl ⟨rfl, tblG_in (i := 2237) (by decide +kernel) (by decide +kernel), tblG_sel (i := 104) (by decide +kernel) (by decide +kernel), rfl⟩)⟩
theorem l_12_417 : Cond.methodLink (cn 12) 417 (my mX12_goOnFar) ∈ tblG := tblG_in (i := 2235) (by decide +kernel) (by decide +kernel)
theorem k_12_420 : MLk 12 420 mX12_countsPaths 1 1 := ⟨okX12_countsPaths, Or.inl (tblG_in (i := 2251) (by decide +kernel) (by decide +kernel)), Or.inr (Or.inl ⟨rfl, tblG_in (i := 2253) (by decide +kernel) (by decide +kernel), tblG_sel (i := 108) (by decide +kernel) (by decide +kernel), rfl⟩)⟩
theorem l_12_420 : Cond.methodLink (cn 12) 420 (my mX12_countsPaths) ∈ tblG := tblG_in (i := 2251) (by decide +kernel) (by decide +kernel)
theorem k_12_423 : MLk 12 423 mX12_word 1 8 := ⟨okX12_word, Or.inl (tblG_in (i := 2197) (by decide +kernel) (by decide +kernel)), Or.inr (Or.inl ⟨rfl, tblG_in (i := 2199) (by decide +kernel) (by decide +kernel), tblG_sel (i := 97) (by decide +kernel) (by decide +kernel), rfl⟩)⟩
theorem l_12_423 : Cond.methodLink (cn 12) 423 (my mX12_word) ∈ tblG := tblG_in (i := 2197) (by decide +kernel) (by decide +kernel)
theorem k_12_426 : MLk 12 426 mX12_says 1 3 := ⟨okX12_says, Or.inl (tblG_in (i := 2193) (by decide +kernel) (by decide +kernel)), Or.inr (Or.inl ⟨rfl, tblG_in (i := 2195) (by decide +kernel) (by decide +kernel), tblG_sel (i := 96) (by decide +kernel) (by decide +kernel), rfl⟩)⟩
theorem l_12_426 : Cond.methodLink (cn 12) 426 (my mX12_says) ∈ tblG := tblG_in (i := 2193) (by decide +kernel) (by decide +kernel)
theorem k_12_430 : MLk 12 430 mX12_goes 1 5 := ⟨okX12_goes, Or.inl (tblG_in (i := 2186) (by decide +kernel) (by decide +kernel)), Or.inr (Or.inl ⟨rfl, tblG_in (i := 2188) (by decide +kernel) (by decide +kernel), tblG_sel (i := 95) (by decide +kernel) (by decide +kernel), rfl⟩)⟩
theorem l_12_430 : Cond.methodLink (cn 12) 430 (my mX12_goes) ∈ tblG := tblG_in (i := 2186) (by decide +kernel) (by decide +kernel)
theorem k_12_434 : MLk 12 434 mX12_placesOf 1 1 := ⟨okX12_placesOf, Or.inl (tblG_in (i := 2263) (by decide +kernel) (by decide +kernel)), Or.inr (Or.inl ⟨rfl, tblG_in (i := 2265) (by decide +kernel) (by decide +kernel), tblG_sel (i := 109) (by decide +kernel) (by decide +kernel), rfl⟩)⟩
theorem l_12_434 : Cond.methodLink (cn 12) 434 (my mX12_placesOf) ∈ tblG := tblG_in (i := 2263) (by decide +kernel) (by decide +kernel)
theorem k_12_438 : MLk 12 438 mX12_goalOf 1 1 := ⟨okX12_goalOf, Or.inl (tblG_in (i := 2275) (by decide +kernel) (by decide +kernel)), Or.inr (Or.inl ⟨rfl, tblG_in (i := 2277) (by decide +kernel) (by decide +kernel), tblG_sel (i := 111) (by decide +kernel) (by decide +kernel), rfl⟩)⟩
theorem l_12_438 : Cond.methodLink (cn 12) 438 (my mX12_goalOf) ∈ tblG := tblG_in (i := 2275) (by decide +kernel) (by decide +kernel)
theorem k_12_441 : MLk 12 441 mX12_areThere 1 3 := ⟨okX12_areThere, Or.inl (tblG_in (i := 2182) (by decide +kernel) (by decide +kernel)), Or.inr (Or.inl ⟨rfl, tblG_in (i := 2184) (by decide +kernel) (by decide +kernel), tblG_sel (i := 94) (by decide +kernel) (by decide +kernel), rfl⟩)⟩
theorem l_12_441 : Cond.methodLink (cn 12) 441 (my mX12_areThere) ∈ tblG := tblG_in (i := 2182) (by decide +kernel) (by decide +kernel)
theorem k_12_444 : MLk 12 444 mX12_isRight 1 4 := ⟨okX12_isRight, Or.inl (tblG_in (i := 2271) (by decide +kernel) (by decide +kernel)), Or.inr (Or.inl ⟨rfl, tblG_in (i := 2273) (by decide +kernel) (by decide +kernel), tblG_sel (i := 110) (by decide +kernel) (by decide +kernel), rfl⟩)⟩
theorem l_12_444 : Cond.methodLink (cn 12) 444 (my mX12_isRight) ∈ tblG := tblG_in (i := 2271) (by decide +kernel) (by decide +kernel)
theorem k_12_447 : MLk 12 447 mX12_parted 1 3 := ⟨okX12_parted, Or.inl (tblG_in (i := 2292) (by decide +kernel) (by decide +kernel)), Or.inr (Or.inl ⟨rfl, tblG_in (i := 2294) (by decide +kernel) (by decide +kernel), tblG_sel (i := 114) (by decide +kernel) (by decide +kernel), rfl⟩)⟩
theorem l_12_447 : Cond.methodLink (cn 12) 447 (my mX12_parted) ∈ tblG := tblG_in (i := 2292) (by decide +kernel) (by decide +kernel)
theorem g_12_451 : Cond.constant (cn 12) 451 (1000000) ∈ tblG := tblG_in (i := 2287) (by decide +kernel) (by decide +kernel)
theorem k_12_452 : MLk 12 452 mX12_oddsOn 1 3 := ⟨okX12_oddsOn, Or.inl (tblG_in (i := 2288) (by decide +kernel) (by decide +kernel)), Or.inr (Or.inl ⟨rfl, tblG_in (i := 2290) (by decide +kernel) (by decide +kernel), tblG_sel (i := 113) (by decide +kernel) (by decide +kernel), rfl⟩)⟩
theorem l_12_452 : Cond.methodLink (cn 12) 452 (my mX12_oddsOn) ∈ tblG := tblG_in (i := 2288) (by decide +kernel) (by decide +kernel)
theorem k_12_455 : MLk 12 455 mX12_oddsFrom 1 4 := ⟨okX12_oddsFrom, Or.inl (tblG_in (i := 2283) (by decide +kernel) (by decide +kernel)), Or.inr (Or.inl ⟨rfl, tblG_in (i := 2285) (by decide +kernel) (by decide +kernel), tblG_sel (i := 112) (by decide +kernel) (by decide +kernel), rfl⟩)⟩
theorem l_12_455 : Cond.methodLink (cn 12) 455 (my mX12_oddsFrom) ∈ tblG := tblG_in (i := 2283) (by decide +kernel) (by decide +kernel)
theorem k_12_458 : MLk 12 458 mX12_shareAt 1 1 := ⟨okX12_shareAt, Or.inl (tblG_in (i := 2296) (by decide +kernel) (by decide +kernel)), Or.inr (Or.inl ⟨rfl, tblG_in (i := 2298) (by decide +kernel) (by decide +kernel), tblG_sel (i := 115) (by decide +kernel) (by decide +kernel), rfl⟩)⟩
theorem l_12_458 : Cond.methodLink (cn 12) 458 (my mX12_shareAt) ∈ tblG := tblG_in (i := 2296) (by decide +kernel) (by decide +kernel)
theorem g_12_461 : Cond.constantLong (cn 12) 461 (1000000) ∈ tblG := tblG_in (i := 2316) (by decide +kernel) (by decide +kernel)
theorem f_12_463 : FLg 12 463 12 36 := ⟨_, _, _, rfl, by decide, inX12, tblG_in (i := 1795) (by decide +kernel) (by decide +kernel)⟩
theorem p_12_463 : FLp 12 463 12 36 false (tyX12 36) := ⟨_, _, _, tyX12, rfl, by decide, inX12, tblG_in (i := 1795) (by decide +kernel) (by decide +kernel), tyX12_ok, nmX12, rfl, tyX12_ok 36 (by decide), fun q => by cases q⟩
theorem f_12_466 : FLg 12 466 12 35 := ⟨_, _, _, rfl, by decide, inX12, tblG_in (i := 1794) (by decide +kernel) (by decide +kernel)⟩
theorem p_12_466 : FLp 12 466 12 35 false (tyX12 35) := ⟨_, _, _, tyX12, rfl, by decide, inX12, tblG_in (i := 1794) (by decide +kernel) (by decide +kernel), tyX12_ok, nmX12, rfl, tyX12_ok 35 (by decide), fun q => by cases q⟩
theorem k_12_469 : MLk 12 469 mX12_areAll 1 1 := ⟨okX12_areAll, Or.inl (tblG_in (i := 2330) (by decide +kernel) (by decide +kernel)), Or.inr (Or.inl ⟨rfl, tblG_in (i := 2332) (by decide +kernel) (by decide +kernel), tblG_sel (i := 117) (by decide +kernel) (by decide +kernel), rfl⟩)⟩
theorem l_12_469 : Cond.methodLink (cn 12) 469 (my mX12_areAll) ∈ tblG := tblG_in (i := 2330) (by decide +kernel) (by decide +kernel)
theorem k_12_472 : MLk 12 472 mX12_tries 1 2 := ⟨okX12_tries, Or.inl (tblG_in (i := 2334) (by decide +kernel) (by decide +kernel)), Or.inr (Or.inl ⟨rfl, tblG_in (i := 2336) (by decide +kernel) (by decide +kernel), tblG_sel (i := 118) (by decide +kernel) (by decide +kernel), rfl⟩)⟩
theorem l_12_472 : Cond.methodLink (cn 12) 472 (my mX12_tries) ∈ tblG := tblG_in (i := 2334) (by decide +kernel) (by decide +kernel)
theorem k_12_475 : MLk 12 475 mX12_seek 1 2 := ⟨okX12_seek, Or.inl (tblG_in (i := 2326) (by decide +kernel) (by decide +kernel)), Or.inr (Or.inl ⟨rfl, tblG_in (i := 2328) (by decide +kernel) (by decide +kernel), tblG_sel (i := 116) (by decide +kernel) (by decide +kernel), rfl⟩)⟩
theorem l_12_475 : Cond.methodLink (cn 12) 475 (my mX12_seek) ∈ tblG := tblG_in (i := 2326) (by decide +kernel) (by decide +kernel)
theorem g_12_478 : Cond.constantLong (cn 12) 478 (3) ∈ tblG := tblG_in (i := 2325) (by decide +kernel) (by decide +kernel)
theorem k_12_480 : MLk 12 480 mX12_isAsWent 1 1 := ⟨okX12_isAsWent, Or.inl (tblG_in (i := 2346) (by decide +kernel) (by decide +kernel)), Or.inr (Or.inl ⟨rfl, tblG_in (i := 2348) (by decide +kernel) (by decide +kernel), tblG_sel (i := 119) (by decide +kernel) (by decide +kernel), rfl⟩)⟩
theorem l_12_480 : Cond.methodLink (cn 12) 480 (my mX12_isAsWent) ∈ tblG := tblG_in (i := 2346) (by decide +kernel) (by decide +kernel)
theorem k_12_483 : MLk 12 483 mX12_records 1 2 := ⟨okX12_records, Or.inl (tblG_in (i := 2354) (by decide +kernel) (by decide +kernel)), Or.inr (Or.inl ⟨rfl, tblG_in (i := 2356) (by decide +kernel) (by decide +kernel), tblG_sel (i := 120) (by decide +kernel) (by decide +kernel), rfl⟩)⟩
theorem l_12_483 : Cond.methodLink (cn 12) 483 (my mX12_records) ∈ tblG := tblG_in (i := 2354) (by decide +kernel) (by decide +kernel)
theorem k_12_487 : MLk 12 487 mX12_isTray 0 1 := ⟨okX12_isTray, Or.inl (tblG_in (i := 2366) (by decide +kernel) (by decide +kernel)), Or.inl ⟨rfl, tblG_in (i := 2367) (by decide +kernel) (by decide +kernel)⟩⟩
theorem l_12_487 : Cond.methodLink (cn 12) 487 (my mX12_isTray) ∈ tblG := tblG_in (i := 2366) (by decide +kernel) (by decide +kernel)
theorem g_12_490 : Cond.constantLong (cn 12) 490 (12) ∈ tblG := tblG_in (i := 2369) (by decide +kernel) (by decide +kernel)
theorem g_12_492 : Cond.constantLong (cn 12) 492 (30) ∈ tblG := tblG_in (i := 2378) (by decide +kernel) (by decide +kernel)
theorem g_12_494 : Cond.constantLong (cn 12) 494 (6) ∈ tblG := tblG_in (i := 2391) (by decide +kernel) (by decide +kernel)
theorem k_13_7 : MLk 13 7 mX11_place 1 2 := ⟨okX11_place, Or.inl (tblG_in (i := 604) (by decide +kernel) (by decide +kernel)), Or.inr (Or.inl ⟨rfl, tblG_in (i := 605) (by decide +kernel) (by decide +kernel), tblG_in (i := 606) (by decide +kernel) (by decide +kernel), rfl⟩)⟩
theorem l_13_7 : Cond.methodLink (cn 13) 7 (my mX11_place) ∈ tblG := tblG_in (i := 604) (by decide +kernel) (by decide +kernel)
theorem n_13_8 : CLn 13 8 11 [.null, .null, .null, .null, .null, .null, .null, .null, .null, .null, .null, .null] := ⟨_, _, _, tyX11, rfl, inX11, tyX11_ok, tblG_in (i := 34) (by decide +kernel) (by decide +kernel), tblG_in (i := 35) (by decide +kernel) (by decide +kernel), iniG11, by decide +kernel, rfl⟩
theorem k_13_15 : MLk 13 15 mX11_way 1 6 := ⟨okX11_way, Or.inl (tblG_in (i := 686) (by decide +kernel) (by decide +kernel)), Or.inr (Or.inl ⟨rfl, tblG_in (i := 687) (by decide +kernel) (by decide +kernel), tblG_in (i := 688) (by decide +kernel) (by decide +kernel), rfl⟩)⟩
theorem l_13_15 : Cond.methodLink (cn 13) 15 (my mX11_way) ∈ tblG := tblG_in (i := 686) (by decide +kernel) (by decide +kernel)
theorem k_13_21 : MLk 13 21 mX11_mark 1 5 := ⟨okX11_mark, Or.inl (tblG_in (i := 728) (by decide +kernel) (by decide +kernel)), Or.inr (Or.inl ⟨rfl, tblG_in (i := 729) (by decide +kernel) (by decide +kernel), tblG_in (i := 730) (by decide +kernel) (by decide +kernel), rfl⟩)⟩
theorem l_13_21 : Cond.methodLink (cn 13) 21 (my mX11_mark) ∈ tblG := tblG_in (i := 728) (by decide +kernel) (by decide +kernel)
theorem k_13_25 : MLk 13 25 mX11_ends 1 3 := ⟨okX11_ends, Or.inl (tblG_in (i := 739) (by decide +kernel) (by decide +kernel)), Or.inr (Or.inl ⟨rfl, tblG_in (i := 740) (by decide +kernel) (by decide +kernel), tblG_in (i := 741) (by decide +kernel) (by decide +kernel), rfl⟩)⟩
theorem l_13_25 : Cond.methodLink (cn 13) 25 (my mX11_ends) ∈ tblG := tblG_in (i := 739) (by decide +kernel) (by decide +kernel)
theorem k_13_29 : MLk 13 29 mX11_state 1 2 := ⟨okX11_state, Or.inl (tblG_in (i := 746) (by decide +kernel) (by decide +kernel)), Or.inr (Or.inl ⟨rfl, tblG_in (i := 747) (by decide +kernel) (by decide +kernel), tblG_in (i := 748) (by decide +kernel) (by decide +kernel), rfl⟩)⟩
theorem l_13_29 : Cond.methodLink (cn 13) 29 (my mX11_state) ∈ tblG := tblG_in (i := 746) (by decide +kernel) (by decide +kernel)
theorem k_13_32 : MLk 13 32 mX11_out 1 3 := ⟨okX11_out, Or.inl (tblG_in (i := 757) (by decide +kernel) (by decide +kernel)), Or.inr (Or.inl ⟨rfl, tblG_in (i := 758) (by decide +kernel) (by decide +kernel), tblG_in (i := 759) (by decide +kernel) (by decide +kernel), rfl⟩)⟩
theorem l_13_32 : Cond.methodLink (cn 13) 32 (my mX11_out) ∈ tblG := tblG_in (i := 757) (by decide +kernel) (by decide +kernel)
theorem k_13_36 : MLk 13 36 mX11_on 1 3 := ⟨okX11_on, Or.inl (tblG_in (i := 1099) (by decide +kernel) (by decide +kernel)), Or.inr (Or.inl ⟨rfl, tblG_in (i := 1100) (by decide +kernel) (by decide +kernel), tblG_in (i := 1101) (by decide +kernel) (by decide +kernel), rfl⟩)⟩
theorem l_13_36 : Cond.methodLink (cn 13) 36 (my mX11_on) ∈ tblG := tblG_in (i := 1099) (by decide +kernel) (by decide +kernel)
theorem k_13_39 : MLk 13 39 mX11_means 1 3 := ⟨okX11_means, Or.inl (tblG_in (i := 1125) (by decide +kernel) (by decide +kernel)), Or.inr (Or.inl ⟨rfl, tblG_in (i := 1126) (by decide +kernel) (by decide +kernel), tblG_in (i := 1127) (by decide +kernel) (by decide +kernel), rfl⟩)⟩
theorem l_13_39 : Cond.methodLink (cn 13) 39 (my mX11_means) ∈ tblG := tblG_in (i := 1125) (by decide +kernel) (by decide +kernel)
theorem k_13_42 : MLk 13 42 mX11_walker 1 5 := ⟨okX11_walker, Or.inl (tblG_in (i := 1144) (by decide +kernel) (by decide +kernel)), Or.inr (Or.inl ⟨rfl, tblG_in (i := 1145) (by decide +kernel) (by decide +kernel), tblG_in (i := 1146) (by decide +kernel) (by decide +kernel), rfl⟩)⟩
theorem l_13_42 : Cond.methodLink (cn 13) 42 (my mX11_walker) ∈ tblG := tblG_in (i := 1144) (by decide +kernel) (by decide +kernel)
theorem k_13_46 : MLk 13 46 mX11_stands 1 5 := ⟨okX11_stands, Or.inl (tblG_in (i := 1155) (by decide +kernel) (by decide +kernel)), Or.inr (Or.inl ⟨rfl, tblG_in (i := 1156) (by decide +kernel) (by decide +kernel), tblG_in (i := 1157) (by decide +kernel) (by decide +kernel), rfl⟩)⟩
theorem l_13_46 : Cond.methodLink (cn 13) 46 (my mX11_stands) ∈ tblG := tblG_in (i := 1155) (by decide +kernel) (by decide +kernel)
theorem k_13_50 : MLk 13 50 mX11_worth 1 4 := ⟨okX11_worth, Or.inl (tblG_in (i := 1200) (by decide +kernel) (by decide +kernel)), Or.inr (Or.inl ⟨rfl, tblG_in (i := 1201) (by decide +kernel) (by decide +kernel), tblG_in (i := 1202) (by decide +kernel) (by decide +kernel), rfl⟩)⟩
theorem l_13_50 : Cond.methodLink (cn 13) 50 (my mX11_worth) ∈ tblG := tblG_in (i := 1200) (by decide +kernel) (by decide +kernel)
theorem k_13_54 : MLk 13 54 mX11_telling 1 3 := ⟨okX11_telling, Or.inl (tblG_in (i := 1221) (by decide +kernel) (by decide +kernel)), Or.inr (Or.inl ⟨rfl, tblG_in (i := 1222) (by decide +kernel) (by decide +kernel), tblG_in (i := 1223) (by decide +kernel) (by decide +kernel), rfl⟩)⟩
theorem l_13_54 : Cond.methodLink (cn 13) 54 (my mX11_telling) ∈ tblG := tblG_in (i := 1221) (by decide +kernel) (by decide +kernel)
theorem k_13_57 : MLk 13 57 mX11_sayings 1 1 := ⟨okX11_sayings, Or.inl (tblG_in (i := 1324) (by decide +kernel) (by decide +kernel)), Or.inr (Or.inl ⟨rfl, tblG_in (i := 1325) (by decide +kernel) (by decide +kernel), tblG_in (i := 1326) (by decide +kernel) (by decide +kernel), rfl⟩)⟩
theorem l_13_57 : Cond.methodLink (cn 13) 57 (my mX11_sayings) ∈ tblG := tblG_in (i := 1324) (by decide +kernel) (by decide +kernel)
theorem k_13_61 : MLk 13 61 mX11_leads 1 6 := ⟨okX11_leads, Or.inl (tblG_in (i := 1335) (by decide +kernel) (by decide +kernel)), Or.inr (Or.inl ⟨rfl, tblG_in (i := 1336) (by decide +kernel) (by decide +kernel), tblG_in (i := 1337) (by decide +kernel) (by decide +kernel), rfl⟩)⟩
theorem l_13_61 : Cond.methodLink (cn 13) 61 (my mX11_leads) ∈ tblG := tblG_in (i := 1335) (by decide +kernel) (by decide +kernel)
theorem k_13_64 : MLk 13 64 mX11_holds 1 4 := ⟨okX11_holds, Or.inl (tblG_in (i := 1433) (by decide +kernel) (by decide +kernel)), Or.inr (Or.inl ⟨rfl, tblG_in (i := 1434) (by decide +kernel) (by decide +kernel), tblG_in (i := 1435) (by decide +kernel) (by decide +kernel), rfl⟩)⟩
theorem l_13_64 : Cond.methodLink (cn 13) 64 (my mX11_holds) ∈ tblG := tblG_in (i := 1433) (by decide +kernel) (by decide +kernel)
theorem k_13_67 : MLk 13 67 mX11_end 1 5 := ⟨okX11_end, Or.inl (tblG_in (i := 1440) (by decide +kernel) (by decide +kernel)), Or.inr (Or.inl ⟨rfl, tblG_in (i := 1441) (by decide +kernel) (by decide +kernel), tblG_in (i := 1442) (by decide +kernel) (by decide +kernel), rfl⟩)⟩
theorem l_13_67 : Cond.methodLink (cn 13) 67 (my mX11_end) ∈ tblG := tblG_in (i := 1440) (by decide +kernel) (by decide +kernel)
theorem k_13_71 : MLk 13 71 mX11_right 1 4 := ⟨okX11_right, Or.inl (tblG_in (i := 1462) (by decide +kernel) (by decide +kernel)), Or.inr (Or.inl ⟨rfl, tblG_in (i := 1463) (by decide +kernel) (by decide +kernel), tblG_in (i := 1464) (by decide +kernel) (by decide +kernel), rfl⟩)⟩
theorem l_13_71 : Cond.methodLink (cn 13) 71 (my mX11_right) ∈ tblG := tblG_in (i := 1462) (by decide +kernel) (by decide +kernel)
theorem k_13_75 : MLk 13 75 mX11_odds 1 5 := ⟨okX11_odds, Or.inl (tblG_in (i := 1473) (by decide +kernel) (by decide +kernel)), Or.inr (Or.inl ⟨rfl, tblG_in (i := 1474) (by decide +kernel) (by decide +kernel), tblG_in (i := 1475) (by decide +kernel) (by decide +kernel), rfl⟩)⟩
theorem l_13_75 : Cond.methodLink (cn 13) 75 (my mX11_odds) ∈ tblG := tblG_in (i := 1473) (by decide +kernel) (by decide +kernel)
theorem k_13_78 : MLk 13 78 mX11_parts 1 4 := ⟨okX11_parts, Or.inl (tblG_in (i := 1501) (by decide +kernel) (by decide +kernel)), Or.inr (Or.inl ⟨rfl, tblG_in (i := 1502) (by decide +kernel) (by decide +kernel), tblG_in (i := 1503) (by decide +kernel) (by decide +kernel), rfl⟩)⟩
theorem l_13_78 : Cond.methodLink (cn 13) 78 (my mX11_parts) ∈ tblG := tblG_in (i := 1501) (by decide +kernel) (by decide +kernel)
theorem k_13_81 : MLk 13 81 mX11_hangs 1 5 := ⟨okX11_hangs, Or.inl (tblG_in (i := 1508) (by decide +kernel) (by decide +kernel)), Or.inr (Or.inl ⟨rfl, tblG_in (i := 1509) (by decide +kernel) (by decide +kernel), tblG_in (i := 1510) (by decide +kernel) (by decide +kernel), rfl⟩)⟩
theorem l_13_81 : Cond.methodLink (cn 13) 81 (my mX11_hangs) ∈ tblG := tblG_in (i := 1508) (by decide +kernel) (by decide +kernel)
theorem k_13_85 : MLk 13 85 mX11_years 1 4 := ⟨okX11_years, Or.inl (tblG_in (i := 1515) (by decide +kernel) (by decide +kernel)), Or.inr (Or.inl ⟨rfl, tblG_in (i := 1516) (by decide +kernel) (by decide +kernel), tblG_in (i := 1517) (by decide +kernel) (by decide +kernel), rfl⟩)⟩
theorem l_13_85 : Cond.methodLink (cn 13) 85 (my mX11_years) ∈ tblG := tblG_in (i := 1515) (by decide +kernel) (by decide +kernel)
theorem k_13_88 : MLk 13 88 mX11_two 1 7 := ⟨okX11_two, Or.inl (tblG_in (i := 1523) (by decide +kernel) (by decide +kernel)), Or.inr (Or.inl ⟨rfl, tblG_in (i := 1524) (by decide +kernel) (by decide +kernel), tblG_in (i := 1525) (by decide +kernel) (by decide +kernel), rfl⟩)⟩
theorem l_13_88 : Cond.methodLink (cn 13) 88 (my mX11_two) ∈ tblG := tblG_in (i := 1523) (by decide +kernel) (by decide +kernel)
theorem k_13_92 : MLk 13 92 mX11_ask 1 7 := ⟨okX11_ask, Or.inl (tblG_in (i := 1541) (by decide +kernel) (by decide +kernel)), Or.inr (Or.inl ⟨rfl, tblG_in (i := 1542) (by decide +kernel) (by decide +kernel), tblG_in (i := 1543) (by decide +kernel) (by decide +kernel), rfl⟩)⟩
theorem l_13_92 : Cond.methodLink (cn 13) 92 (my mX11_ask) ∈ tblG := tblG_in (i := 1541) (by decide +kernel) (by decide +kernel)
theorem k_13_96 : MLk 13 96 mX11_shortest 1 6 := ⟨okX11_shortest, Or.inl (tblG_in (i := 1558) (by decide +kernel) (by decide +kernel)), Or.inr (Or.inl ⟨rfl, tblG_in (i := 1559) (by decide +kernel) (by decide +kernel), tblG_in (i := 1560) (by decide +kernel) (by decide +kernel), rfl⟩)⟩
theorem l_13_96 : Cond.methodLink (cn 13) 96 (my mX11_shortest) ∈ tblG := tblG_in (i := 1558) (by decide +kernel) (by decide +kernel)
theorem k_13_99 : MLk 13 99 mX11_went 1 5 := ⟨okX11_went, Or.inl (tblG_in (i := 1609) (by decide +kernel) (by decide +kernel)), Or.inr (Or.inl ⟨rfl, tblG_in (i := 1610) (by decide +kernel) (by decide +kernel), tblG_in (i := 1611) (by decide +kernel) (by decide +kernel), rfl⟩)⟩
theorem l_13_99 : Cond.methodLink (cn 13) 99 (my mX11_went) ∈ tblG := tblG_in (i := 1609) (by decide +kernel) (by decide +kernel)
theorem k_13_102 : MLk 13 102 mX11_learned 1 2 := ⟨okX11_learned, Or.inl (tblG_in (i := 1620) (by decide +kernel) (by decide +kernel)), Or.inr (Or.inl ⟨rfl, tblG_in (i := 1621) (by decide +kernel) (by decide +kernel), tblG_in (i := 1622) (by decide +kernel) (by decide +kernel), rfl⟩)⟩
theorem l_13_102 : Cond.methodLink (cn 13) 102 (my mX11_learned) ∈ tblG := tblG_in (i := 1620) (by decide +kernel) (by decide +kernel)
theorem k_13_105 : MLk 13 105 mX11_told 1 2 := ⟨okX11_told, Or.inl (tblG_in (i := 1636) (by decide +kernel) (by decide +kernel)), Or.inr (Or.inl ⟨rfl, tblG_in (i := 1637) (by decide +kernel) (by decide +kernel), tblG_in (i := 1638) (by decide +kernel) (by decide +kernel), rfl⟩)⟩
theorem l_13_105 : Cond.methodLink (cn 13) 105 (my mX11_told) ∈ tblG := tblG_in (i := 1636) (by decide +kernel) (by decide +kernel)
theorem k_13_109 : MLk 13 109 mX11_tray 1 3 := ⟨okX11_tray, Or.inl (tblG_in (i := 1643) (by decide +kernel) (by decide +kernel)), Or.inr (Or.inl ⟨rfl, tblG_in (i := 1644) (by decide +kernel) (by decide +kernel), tblG_in (i := 1645) (by decide +kernel) (by decide +kernel), rfl⟩)⟩
theorem l_13_109 : Cond.methodLink (cn 13) 109 (my mX11_tray) ∈ tblG := tblG_in (i := 1643) (by decide +kernel) (by decide +kernel)
theorem k_13_113 : MLk 13 113 mX11_write 1 3 := ⟨okX11_write, Or.inl (tblG_in (i := 1661) (by decide +kernel) (by decide +kernel)), Or.inr (Or.inl ⟨rfl, tblG_in (i := 1662) (by decide +kernel) (by decide +kernel), tblG_in (i := 1663) (by decide +kernel) (by decide +kernel), rfl⟩)⟩
theorem l_13_113 : Cond.methodLink (cn 13) 113 (my mX11_write) ∈ tblG := tblG_in (i := 1661) (by decide +kernel) (by decide +kernel)
theorem k_13_121 : MLk 13 121 mX11_say 1 3 := ⟨okX11_say, Or.inl (tblG_in (i := 1706) (by decide +kernel) (by decide +kernel)), Or.inr (Or.inl ⟨rfl, tblG_in (i := 1707) (by decide +kernel) (by decide +kernel), tblG_in (i := 1708) (by decide +kernel) (by decide +kernel), rfl⟩)⟩
theorem l_13_121 : Cond.methodLink (cn 13) 121 (my mX11_say) ∈ tblG := tblG_in (i := 1706) (by decide +kernel) (by decide +kernel)
theorem k_13_124 : MLk 13 124 mX11_image 1 1 := ⟨okX11_image, Or.inl (tblG_in (i := 1724) (by decide +kernel) (by decide +kernel)), Or.inr (Or.inl ⟨rfl, tblG_in (i := 1725) (by decide +kernel) (by decide +kernel), tblG_in (i := 1726) (by decide +kernel) (by decide +kernel), rfl⟩)⟩
theorem l_13_124 : Cond.methodLink (cn 13) 124 (my mX11_image) ∈ tblG := tblG_in (i := 1724) (by decide +kernel) (by decide +kernel)
theorem k_13_128 : MLk 13 128 mX11_restore 1 1 := ⟨okX11_restore, Or.inl (tblG_in (i := 1749) (by decide +kernel) (by decide +kernel)), Or.inr (Or.inl ⟨rfl, tblG_in (i := 1750) (by decide +kernel) (by decide +kernel), tblG_in (i := 1751) (by decide +kernel) (by decide +kernel), rfl⟩)⟩
theorem l_13_128 : Cond.methodLink (cn 13) 128 (my mX11_restore) ∈ tblG := tblG_in (i := 1749) (by decide +kernel) (by decide +kernel)
theorem k_13_131 : MLk 13 131 mX11_init 2 0 := ⟨okX11_init, Or.inl (tblG_in (i := 36) (by decide +kernel) (by decide +kernel)), Or.inr (Or.inr ⟨rfl, rfl, tblG_in (i := 37) (by decide +kernel) (by decide +kernel), rfl, rfl⟩)⟩
theorem l_13_131 : Cond.methodLink (cn 13) 131 (my mX11_init) ∈ tblG := tblG_in (i := 36) (by decide +kernel) (by decide +kernel)
theorem n_13_132 : CLn 13 132 12 [.null, .null, .null, .int 0, .int 0, .null, .null, .null, .null, .null, .int 0, .int 0, .int 0, .int 0, .int 0, .int 0, .int 0, .int 0, .int 0, .int 0, .null, .null, .null, .null, .null, .null, .null, .null, .null, .null, .null, .null, .null, .null, .null, .int 0, .int 0, .null, .null, .null] := ⟨_, _, _, tyX12, rfl, inX12, tyX12_ok, tblG_in (i := 1753) (by decide +kernel) (by decide +kernel), tblG_in (i := 1754) (by decide +kernel) (by decide +kernel), iniG12, by decide +kernel, rfl⟩
theorem k_13_134 : MLk 13 134 mX12_init 2 0 := ⟨okX12_init, Or.inl (tblG_in (i := 1755) (by decide +kernel) (by decide +kernel)), Or.inr (Or.inr ⟨rfl, rfl, tblG_in (i := 1756) (by decide +kernel) (by decide +kernel), rfl, rfl⟩)⟩
theorem l_13_134 : Cond.methodLink (cn 13) 134 (my mX12_init) ∈ tblG := tblG_in (i := 1755) (by decide +kernel) (by decide +kernel)
theorem k_13_135 : MLk 13 135 mL_place 0 4 := ⟨okL_place, Or.inl (tblG_in (i := 600) (by decide +kernel) (by decide +kernel)), Or.inl ⟨rfl, tblG_in (i := 601) (by decide +kernel) (by decide +kernel)⟩⟩
theorem l_13_135 : Cond.methodLink (cn 13) 135 (my mL_place) ∈ tblG := tblG_in (i := 600) (by decide +kernel) (by decide +kernel)
theorem k_13_140 : MLk 13 140 mX12_place 1 2 := ⟨okX12_place, Or.inl (tblG_in (i := 1884) (by decide +kernel) (by decide +kernel)), Or.inr (Or.inl ⟨rfl, tblG_in (i := 1885) (by decide +kernel) (by decide +kernel), tblG_in (i := 1886) (by decide +kernel) (by decide +kernel), rfl⟩)⟩
theorem l_13_140 : Cond.methodLink (cn 13) 140 (my mX12_place) ∈ tblG := tblG_in (i := 1884) (by decide +kernel) (by decide +kernel)
theorem k_13_141 : MLk 13 141 mX12_thrown 1 0 := ⟨okX12_thrown, Or.inl (tblG_in (i := 1880) (by decide +kernel) (by decide +kernel)), Or.inr (Or.inl ⟨rfl, tblG_in (i := 1881) (by decide +kernel) (by decide +kernel), tblG_in (i := 1882) (by decide +kernel) (by decide +kernel), rfl⟩)⟩
theorem l_13_141 : Cond.methodLink (cn 13) 141 (my mX12_thrown) ∈ tblG := tblG_in (i := 1880) (by decide +kernel) (by decide +kernel)
theorem k_13_145 : MLk 13 145 mL_way 0 8 := ⟨okL_way, Or.inl (tblG_in (i := 682) (by decide +kernel) (by decide +kernel)), Or.inl ⟨rfl, tblG_in (i := 683) (by decide +kernel) (by decide +kernel)⟩⟩
theorem l_13_145 : Cond.methodLink (cn 13) 145 (my mL_way) ∈ tblG := tblG_in (i := 682) (by decide +kernel) (by decide +kernel)
theorem k_13_148 : MLk 13 148 mX12_way 1 6 := ⟨okX12_way, Or.inl (tblG_in (i := 1900) (by decide +kernel) (by decide +kernel)), Or.inr (Or.inl ⟨rfl, tblG_in (i := 1901) (by decide +kernel) (by decide +kernel), tblG_in (i := 1902) (by decide +kernel) (by decide +kernel), rfl⟩)⟩
theorem l_13_148 : Cond.methodLink (cn 13) 148 (my mX12_way) ∈ tblG := tblG_in (i := 1900) (by decide +kernel) (by decide +kernel)
theorem k_13_149 : MLk 13 149 mL_mark 0 7 := ⟨okL_mark, Or.inl (tblG_in (i := 725) (by decide +kernel) (by decide +kernel)), Or.inl ⟨rfl, tblG_in (i := 726) (by decide +kernel) (by decide +kernel)⟩⟩
theorem l_13_149 : Cond.methodLink (cn 13) 149 (my mL_mark) ∈ tblG := tblG_in (i := 725) (by decide +kernel) (by decide +kernel)
theorem k_13_152 : MLk 13 152 mX12_mark 1 5 := ⟨okX12_mark, Or.inl (tblG_in (i := 1921) (by decide +kernel) (by decide +kernel)), Or.inr (Or.inl ⟨rfl, tblG_in (i := 1922) (by decide +kernel) (by decide +kernel), tblG_in (i := 1923) (by decide +kernel) (by decide +kernel), rfl⟩)⟩
theorem l_13_152 : Cond.methodLink (cn 13) 152 (my mX12_mark) ∈ tblG := tblG_in (i := 1921) (by decide +kernel) (by decide +kernel)
theorem k_13_153 : MLk 13 153 mL_ends 0 5 := ⟨okL_ends, Or.inl (tblG_in (i := 736) (by decide +kernel) (by decide +kernel)), Or.inl ⟨rfl, tblG_in (i := 737) (by decide +kernel) (by decide +kernel)⟩⟩
theorem l_13_153 : Cond.methodLink (cn 13) 153 (my mL_ends) ∈ tblG := tblG_in (i := 736) (by decide +kernel) (by decide +kernel)
theorem k_13_156 : MLk 13 156 mX12_ends 1 3 := ⟨okX12_ends, Or.inl (tblG_in (i := 1929) (by decide +kernel) (by decide +kernel)), Or.inr (Or.inl ⟨rfl, tblG_in (i := 1930) (by decide +kernel) (by decide +kernel), tblG_in (i := 1931) (by decide +kernel) (by decide +kernel), rfl⟩)⟩
theorem l_13_156 : Cond.methodLink (cn 13) 156 (my mX12_ends) ∈ tblG := tblG_in (i := 1929) (by decide +kernel) (by decide +kernel)
theorem k_13_157 : MLk 13 157 mL_state 0 4 := ⟨okL_state, Or.inl (tblG_in (i := 743) (by decide +kernel) (by decide +kernel)), Or.inl ⟨rfl, tblG_in (i := 744) (by decide +kernel) (by decide +kernel)⟩⟩
theorem l_13_157 : Cond.methodLink (cn 13) 157 (my mL_state) ∈ tblG := tblG_in (i := 743) (by decide +kernel) (by decide +kernel)
theorem k_13_159 : MLk 13 159 mX12_state 1 2 := ⟨okX12_state, Or.inl (tblG_in (i := 1933) (by decide +kernel) (by decide +kernel)), Or.inr (Or.inl ⟨rfl, tblG_in (i := 1934) (by decide +kernel) (by decide +kernel), tblG_in (i := 1935) (by decide +kernel) (by decide +kernel), rfl⟩)⟩
theorem l_13_159 : Cond.methodLink (cn 13) 159 (my mX12_state) ∈ tblG := tblG_in (i := 1933) (by decide +kernel) (by decide +kernel)
theorem k_13_160 : MLk 13 160 mL_out 0 5 := ⟨okL_out, Or.inl (tblG_in (i := 754) (by decide +kernel) (by decide +kernel)), Or.inl ⟨rfl, tblG_in (i := 755) (by decide +kernel) (by decide +kernel)⟩⟩
theorem l_13_160 : Cond.methodLink (cn 13) 160 (my mL_out) ∈ tblG := tblG_in (i := 754) (by decide +kernel) (by decide +kernel)
theorem k_13_163 : MLk 13 163 mX12_out 1 3 := ⟨okX12_out, Or.inl (tblG_in (i := 1949) (by decide +kernel) (by decide +kernel)), Or.inr (Or.inl ⟨rfl, tblG_in (i := 1950) (by decide +kernel) (by decide +kernel), tblG_in (i := 1951) (by decide +kernel) (by decide +kernel), rfl⟩)⟩
theorem l_13_163 : Cond.methodLink (cn 13) 163 (my mX12_out) ∈ tblG := tblG_in (i := 1949) (by decide +kernel) (by decide +kernel)
theorem k_13_164 : MLk 13 164 mL_on 0 5 := ⟨okL_on, Or.inl (tblG_in (i := 1096) (by decide +kernel) (by decide +kernel)), Or.inl ⟨rfl, tblG_in (i := 1097) (by decide +kernel) (by decide +kernel)⟩⟩
theorem l_13_164 : Cond.methodLink (cn 13) 164 (my mL_on) ∈ tblG := tblG_in (i := 1096) (by decide +kernel) (by decide +kernel)
theorem k_13_166 : MLk 13 166 mX12_on 1 3 := ⟨okX12_on, Or.inl (tblG_in (i := 1973) (by decide +kernel) (by decide +kernel)), Or.inr (Or.inl ⟨rfl, tblG_in (i := 1974) (by decide +kernel) (by decide +kernel), tblG_in (i := 1975) (by decide +kernel) (by decide +kernel), rfl⟩)⟩
theorem l_13_166 : Cond.methodLink (cn 13) 166 (my mX12_on) ∈ tblG := tblG_in (i := 1973) (by decide +kernel) (by decide +kernel)
theorem k_13_167 : MLk 13 167 mX11_tongue 1 0 := ⟨okX11_tongue, Or.inl (tblG_in (i := 568) (by decide +kernel) (by decide +kernel)), Or.inr (Or.inl ⟨rfl, tblG_in (i := 569) (by decide +kernel) (by decide +kernel), tblG_in (i := 570) (by decide +kernel) (by decide +kernel), rfl⟩)⟩
theorem l_13_167 : Cond.methodLink (cn 13) 167 (my mX11_tongue) ∈ tblG := tblG_in (i := 568) (by decide +kernel) (by decide +kernel)
theorem k_13_170 : MLk 13 170 mX12_tongue 1 0 := ⟨okX12_tongue, Or.inl (tblG_in (i := 2012) (by decide +kernel) (by decide +kernel)), Or.inr (Or.inl ⟨rfl, tblG_in (i := 2013) (by decide +kernel) (by decide +kernel), tblG_in (i := 2014) (by decide +kernel) (by decide +kernel), rfl⟩)⟩
theorem l_13_170 : Cond.methodLink (cn 13) 170 (my mX12_tongue) ∈ tblG := tblG_in (i := 2012) (by decide +kernel) (by decide +kernel)
theorem k_13_171 : MLk 13 171 mL_means 0 5 := ⟨okL_means, Or.inl (tblG_in (i := 1122) (by decide +kernel) (by decide +kernel)), Or.inl ⟨rfl, tblG_in (i := 1123) (by decide +kernel) (by decide +kernel)⟩⟩
theorem l_13_171 : Cond.methodLink (cn 13) 171 (my mL_means) ∈ tblG := tblG_in (i := 1122) (by decide +kernel) (by decide +kernel)
theorem k_13_173 : MLk 13 173 mX12_means 1 3 := ⟨okX12_means, Or.inl (tblG_in (i := 2016) (by decide +kernel) (by decide +kernel)), Or.inr (Or.inl ⟨rfl, tblG_in (i := 2017) (by decide +kernel) (by decide +kernel), tblG_in (i := 2018) (by decide +kernel) (by decide +kernel), rfl⟩)⟩
theorem l_13_173 : Cond.methodLink (cn 13) 173 (my mX12_means) ∈ tblG := tblG_in (i := 2016) (by decide +kernel) (by decide +kernel)
theorem k_13_174 : MLk 13 174 mL_walker 0 7 := ⟨okL_walker, Or.inl (tblG_in (i := 1141) (by decide +kernel) (by decide +kernel)), Or.inl ⟨rfl, tblG_in (i := 1142) (by decide +kernel) (by decide +kernel)⟩⟩
theorem l_13_174 : Cond.methodLink (cn 13) 174 (my mL_walker) ∈ tblG := tblG_in (i := 1141) (by decide +kernel) (by decide +kernel)
theorem k_13_177 : MLk 13 177 mX12_walker 1 5 := ⟨okX12_walker, Or.inl (tblG_in (i := 2021) (by decide +kernel) (by decide +kernel)), Or.inr (Or.inl ⟨rfl, tblG_in (i := 2022) (by decide +kernel) (by decide +kernel), tblG_in (i := 2023) (by decide +kernel) (by decide +kernel), rfl⟩)⟩
theorem l_13_177 : Cond.methodLink (cn 13) 177 (my mX12_walker) ∈ tblG := tblG_in (i := 2021) (by decide +kernel) (by decide +kernel)
theorem k_13_178 : MLk 13 178 mL_stands 0 7 := ⟨okL_stands, Or.inl (tblG_in (i := 1152) (by decide +kernel) (by decide +kernel)), Or.inl ⟨rfl, tblG_in (i := 1153) (by decide +kernel) (by decide +kernel)⟩⟩
theorem l_13_178 : Cond.methodLink (cn 13) 178 (my mL_stands) ∈ tblG := tblG_in (i := 1152) (by decide +kernel) (by decide +kernel)
theorem k_13_181 : MLk 13 181 mX12_stands 1 5 := ⟨okX12_stands, Or.inl (tblG_in (i := 2026) (by decide +kernel) (by decide +kernel)), Or.inr (Or.inl ⟨rfl, tblG_in (i := 2027) (by decide +kernel) (by decide +kernel), tblG_in (i := 2028) (by decide +kernel) (by decide +kernel), rfl⟩)⟩
theorem l_13_181 : Cond.methodLink (cn 13) 181 (my mX12_stands) ∈ tblG := tblG_in (i := 2026) (by decide +kernel) (by decide +kernel)
theorem k_13_182 : MLk 13 182 mL_worth 0 6 := ⟨okL_worth, Or.inl (tblG_in (i := 1197) (by decide +kernel) (by decide +kernel)), Or.inl ⟨rfl, tblG_in (i := 1198) (by decide +kernel) (by decide +kernel)⟩⟩
theorem l_13_182 : Cond.methodLink (cn 13) 182 (my mL_worth) ∈ tblG := tblG_in (i := 1197) (by decide +kernel) (by decide +kernel)
theorem k_13_185 : MLk 13 185 mX12_worth 1 4 := ⟨okX12_worth, Or.inl (tblG_in (i := 2058) (by decide +kernel) (by decide +kernel)), Or.inr (Or.inl ⟨rfl, tblG_in (i := 2059) (by decide +kernel) (by decide +kernel), tblG_in (i := 2060) (by decide +kernel) (by decide +kernel), rfl⟩)⟩
theorem l_13_185 : Cond.methodLink (cn 13) 185 (my mX12_worth) ∈ tblG := tblG_in (i := 2058) (by decide +kernel) (by decide +kernel)
theorem k_13_186 : MLk 13 186 mX11_feed 1 5 := ⟨okX11_feed, Or.inl (tblG_in (i := 576) (by decide +kernel) (by decide +kernel)), Or.inr (Or.inl ⟨rfl, tblG_in (i := 577) (by decide +kernel) (by decide +kernel), tblG_in (i := 578) (by decide +kernel) (by decide +kernel), rfl⟩)⟩
theorem l_13_186 : Cond.methodLink (cn 13) 186 (my mX11_feed) ∈ tblG := tblG_in (i := 576) (by decide +kernel) (by decide +kernel)
theorem k_13_189 : MLk 13 189 mX12_feed 1 5 := ⟨okX12_feed, Or.inl (tblG_in (i := 2062) (by decide +kernel) (by decide +kernel)), Or.inr (Or.inl ⟨rfl, tblG_in (i := 2063) (by decide +kernel) (by decide +kernel), tblG_in (i := 2064) (by decide +kernel) (by decide +kernel), rfl⟩)⟩
theorem l_13_189 : Cond.methodLink (cn 13) 189 (my mX12_feed) ∈ tblG := tblG_in (i := 2062) (by decide +kernel) (by decide +kernel)
theorem k_13_190 : MLk 13 190 mL_telling 0 5 := ⟨okL_telling, Or.inl (tblG_in (i := 1218) (by decide +kernel) (by decide +kernel)), Or.inl ⟨rfl, tblG_in (i := 1219) (by decide +kernel) (by decide +kernel)⟩⟩
theorem l_13_190 : Cond.methodLink (cn 13) 190 (my mL_telling) ∈ tblG := tblG_in (i := 1218) (by decide +kernel) (by decide +kernel)
theorem k_13_192 : MLk 13 192 mX12_telling 1 3 := ⟨okX12_telling, Or.inl (tblG_in (i := 2066) (by decide +kernel) (by decide +kernel)), Or.inr (Or.inl ⟨rfl, tblG_in (i := 2067) (by decide +kernel) (by decide +kernel), tblG_in (i := 2068) (by decide +kernel) (by decide +kernel), rfl⟩)⟩
theorem l_13_192 : Cond.methodLink (cn 13) 192 (my mX12_telling) ∈ tblG := tblG_in (i := 2066) (by decide +kernel) (by decide +kernel)
theorem k_13_193 : MLk 13 193 mX11_fault 1 1 := ⟨okX11_fault, Or.inl (tblG_in (i := 584) (by decide +kernel) (by decide +kernel)), Or.inr (Or.inl ⟨rfl, tblG_in (i := 585) (by decide +kernel) (by decide +kernel), tblG_in (i := 586) (by decide +kernel) (by decide +kernel), rfl⟩)⟩
theorem l_13_193 : Cond.methodLink (cn 13) 193 (my mX11_fault) ∈ tblG := tblG_in (i := 584) (by decide +kernel) (by decide +kernel)
theorem k_13_196 : MLk 13 196 mX12_fault 1 1 := ⟨okX12_fault, Or.inl (tblG_in (i := 2162) (by decide +kernel) (by decide +kernel)), Or.inr (Or.inl ⟨rfl, tblG_in (i := 2163) (by decide +kernel) (by decide +kernel), tblG_in (i := 2164) (by decide +kernel) (by decide +kernel), rfl⟩)⟩
theorem l_13_196 : Cond.methodLink (cn 13) 196 (my mX12_fault) ∈ tblG := tblG_in (i := 2162) (by decide +kernel) (by decide +kernel)
theorem k_13_197 : MLk 13 197 mL_sayings 0 3 := ⟨okL_sayings, Or.inl (tblG_in (i := 1321) (by decide +kernel) (by decide +kernel)), Or.inl ⟨rfl, tblG_in (i := 1322) (by decide +kernel) (by decide +kernel)⟩⟩
theorem l_13_197 : Cond.methodLink (cn 13) 197 (my mL_sayings) ∈ tblG := tblG_in (i := 1321) (by decide +kernel) (by decide +kernel)
theorem k_13_200 : MLk 13 200 mX12_sayings 1 1 := ⟨okX12_sayings, Or.inl (tblG_in (i := 2166) (by decide +kernel) (by decide +kernel)), Or.inr (Or.inl ⟨rfl, tblG_in (i := 2167) (by decide +kernel) (by decide +kernel), tblG_in (i := 2168) (by decide +kernel) (by decide +kernel), rfl⟩)⟩
theorem l_13_200 : Cond.methodLink (cn 13) 200 (my mX12_sayings) ∈ tblG := tblG_in (i := 2166) (by decide +kernel) (by decide +kernel)
theorem k_13_201 : MLk 13 201 mL_leads 0 8 := ⟨okL_leads, Or.inl (tblG_in (i := 1332) (by decide +kernel) (by decide +kernel)), Or.inl ⟨rfl, tblG_in (i := 1333) (by decide +kernel) (by decide +kernel)⟩⟩
theorem l_13_201 : Cond.methodLink (cn 13) 201 (my mL_leads) ∈ tblG := tblG_in (i := 1332) (by decide +kernel) (by decide +kernel)
theorem k_13_203 : MLk 13 203 mX12_leads 1 6 := ⟨okX12_leads, Or.inl (tblG_in (i := 2178) (by decide +kernel) (by decide +kernel)), Or.inr (Or.inl ⟨rfl, tblG_in (i := 2179) (by decide +kernel) (by decide +kernel), tblG_in (i := 2180) (by decide +kernel) (by decide +kernel), rfl⟩)⟩
theorem l_13_203 : Cond.methodLink (cn 13) 203 (my mX12_leads) ∈ tblG := tblG_in (i := 2178) (by decide +kernel) (by decide +kernel)
theorem k_13_204 : MLk 13 204 mL_holds 0 6 := ⟨okL_holds, Or.inl (tblG_in (i := 1430) (by decide +kernel) (by decide +kernel)), Or.inl ⟨rfl, tblG_in (i := 1431) (by decide +kernel) (by decide +kernel)⟩⟩
theorem l_13_204 : Cond.methodLink (cn 13) 204 (my mL_holds) ∈ tblG := tblG_in (i := 1430) (by decide +kernel) (by decide +kernel)
theorem k_13_206 : MLk 13 206 mX12_holds 1 4 := ⟨okX12_holds, Or.inl (tblG_in (i := 2255) (by decide +kernel) (by decide +kernel)), Or.inr (Or.inl ⟨rfl, tblG_in (i := 2256) (by decide +kernel) (by decide +kernel), tblG_in (i := 2257) (by decide +kernel) (by decide +kernel), rfl⟩)⟩
theorem l_13_206 : Cond.methodLink (cn 13) 206 (my mX12_holds) ∈ tblG := tblG_in (i := 2255) (by decide +kernel) (by decide +kernel)
theorem k_13_207 : MLk 13 207 mL_end 0 7 := ⟨okL_end, Or.inl (tblG_in (i := 1437) (by decide +kernel) (by decide +kernel)), Or.inl ⟨rfl, tblG_in (i := 1438) (by decide +kernel) (by decide +kernel)⟩⟩
theorem l_13_207 : Cond.methodLink (cn 13) 207 (my mL_end) ∈ tblG := tblG_in (i := 1437) (by decide +kernel) (by decide +kernel)
theorem k_13_210 : MLk 13 210 mX12_end 1 5 := ⟨okX12_end, Or.inl (tblG_in (i := 2259) (by decide +kernel) (by decide +kernel)), Or.inr (Or.inl ⟨rfl, tblG_in (i := 2260) (by decide +kernel) (by decide +kernel), tblG_in (i := 2261) (by decide +kernel) (by decide +kernel), rfl⟩)⟩
theorem l_13_210 : Cond.methodLink (cn 13) 210 (my mX12_end) ∈ tblG := tblG_in (i := 2259) (by decide +kernel) (by decide +kernel)
theorem k_13_211 : MLk 13 211 mL_right 0 6 := ⟨okL_right, Or.inl (tblG_in (i := 1459) (by decide +kernel) (by decide +kernel)), Or.inl ⟨rfl, tblG_in (i := 1460) (by decide +kernel) (by decide +kernel)⟩⟩
theorem l_13_211 : Cond.methodLink (cn 13) 211 (my mL_right) ∈ tblG := tblG_in (i := 1459) (by decide +kernel) (by decide +kernel)
theorem k_13_213 : MLk 13 213 mX12_right 1 4 := ⟨okX12_right, Or.inl (tblG_in (i := 2267) (by decide +kernel) (by decide +kernel)), Or.inr (Or.inl ⟨rfl, tblG_in (i := 2268) (by decide +kernel) (by decide +kernel), tblG_in (i := 2269) (by decide +kernel) (by decide +kernel), rfl⟩)⟩
theorem l_13_213 : Cond.methodLink (cn 13) 213 (my mX12_right) ∈ tblG := tblG_in (i := 2267) (by decide +kernel) (by decide +kernel)
theorem k_13_214 : MLk 13 214 mL_odds 0 7 := ⟨okL_odds, Or.inl (tblG_in (i := 1470) (by decide +kernel) (by decide +kernel)), Or.inl ⟨rfl, tblG_in (i := 1471) (by decide +kernel) (by decide +kernel)⟩⟩
theorem l_13_214 : Cond.methodLink (cn 13) 214 (my mL_odds) ∈ tblG := tblG_in (i := 1470) (by decide +kernel) (by decide +kernel)
theorem k_13_216 : MLk 13 216 mX12_odds 1 5 := ⟨okX12_odds, Or.inl (tblG_in (i := 2279) (by decide +kernel) (by decide +kernel)), Or.inr (Or.inl ⟨rfl, tblG_in (i := 2280) (by decide +kernel) (by decide +kernel), tblG_in (i := 2281) (by decide +kernel) (by decide +kernel), rfl⟩)⟩
theorem l_13_216 : Cond.methodLink (cn 13) 216 (my mX12_odds) ∈ tblG := tblG_in (i := 2279) (by decide +kernel) (by decide +kernel)
theorem k_13_217 : MLk 13 217 mL_parts 0 6 := ⟨okL_parts, Or.inl (tblG_in (i := 1498) (by decide +kernel) (by decide +kernel)), Or.inl ⟨rfl, tblG_in (i := 1499) (by decide +kernel) (by decide +kernel)⟩⟩
theorem l_13_217 : Cond.methodLink (cn 13) 217 (my mL_parts) ∈ tblG := tblG_in (i := 1498) (by decide +kernel) (by decide +kernel)
theorem k_13_219 : MLk 13 219 mX12_parts 1 4 := ⟨okX12_parts, Or.inl (tblG_in (i := 2300) (by decide +kernel) (by decide +kernel)), Or.inr (Or.inl ⟨rfl, tblG_in (i := 2301) (by decide +kernel) (by decide +kernel), tblG_in (i := 2302) (by decide +kernel) (by decide +kernel), rfl⟩)⟩
theorem l_13_219 : Cond.methodLink (cn 13) 219 (my mX12_parts) ∈ tblG := tblG_in (i := 2300) (by decide +kernel) (by decide +kernel)
theorem k_13_220 : MLk 13 220 mL_hangs 0 7 := ⟨okL_hangs, Or.inl (tblG_in (i := 1505) (by decide +kernel) (by decide +kernel)), Or.inl ⟨rfl, tblG_in (i := 1506) (by decide +kernel) (by decide +kernel)⟩⟩
theorem l_13_220 : Cond.methodLink (cn 13) 220 (my mL_hangs) ∈ tblG := tblG_in (i := 1505) (by decide +kernel) (by decide +kernel)
theorem k_13_222 : MLk 13 222 mX12_hangs 1 5 := ⟨okX12_hangs, Or.inl (tblG_in (i := 2304) (by decide +kernel) (by decide +kernel)), Or.inr (Or.inl ⟨rfl, tblG_in (i := 2305) (by decide +kernel) (by decide +kernel), tblG_in (i := 2306) (by decide +kernel) (by decide +kernel), rfl⟩)⟩
theorem l_13_222 : Cond.methodLink (cn 13) 222 (my mX12_hangs) ∈ tblG := tblG_in (i := 2304) (by decide +kernel) (by decide +kernel)
theorem k_13_223 : MLk 13 223 mL_years 0 6 := ⟨okL_years, Or.inl (tblG_in (i := 1512) (by decide +kernel) (by decide +kernel)), Or.inl ⟨rfl, tblG_in (i := 1513) (by decide +kernel) (by decide +kernel)⟩⟩
theorem l_13_223 : Cond.methodLink (cn 13) 223 (my mL_years) ∈ tblG := tblG_in (i := 1512) (by decide +kernel) (by decide +kernel)
theorem k_13_225 : MLk 13 225 mX12_years 1 4 := ⟨okX12_years, Or.inl (tblG_in (i := 2308) (by decide +kernel) (by decide +kernel)), Or.inr (Or.inl ⟨rfl, tblG_in (i := 2309) (by decide +kernel) (by decide +kernel), tblG_in (i := 2310) (by decide +kernel) (by decide +kernel), rfl⟩)⟩
theorem l_13_225 : Cond.methodLink (cn 13) 225 (my mX12_years) ∈ tblG := tblG_in (i := 2308) (by decide +kernel) (by decide +kernel)
theorem k_13_226 : MLk 13 226 mL_two 0 9 := ⟨okL_two, Or.inl (tblG_in (i := 1520) (by decide +kernel) (by decide +kernel)), Or.inl ⟨rfl, tblG_in (i := 1521) (by decide +kernel) (by decide +kernel)⟩⟩
theorem l_13_226 : Cond.methodLink (cn 13) 226 (my mL_two) ∈ tblG := tblG_in (i := 1520) (by decide +kernel) (by decide +kernel)
theorem k_13_229 : MLk 13 229 mX12_two 1 7 := ⟨okX12_two, Or.inl (tblG_in (i := 2312) (by decide +kernel) (by decide +kernel)), Or.inr (Or.inl ⟨rfl, tblG_in (i := 2313) (by decide +kernel) (by decide +kernel), tblG_in (i := 2314) (by decide +kernel) (by decide +kernel), rfl⟩)⟩
theorem l_13_229 : Cond.methodLink (cn 13) 229 (my mX12_two) ∈ tblG := tblG_in (i := 2312) (by decide +kernel) (by decide +kernel)
theorem k_13_230 : MLk 13 230 mL_ask 0 9 := ⟨okL_ask, Or.inl (tblG_in (i := 1538) (by decide +kernel) (by decide +kernel)), Or.inl ⟨rfl, tblG_in (i := 1539) (by decide +kernel) (by decide +kernel)⟩⟩
theorem l_13_230 : Cond.methodLink (cn 13) 230 (my mL_ask) ∈ tblG := tblG_in (i := 1538) (by decide +kernel) (by decide +kernel)
theorem k_13_233 : MLk 13 233 mX12_ask 1 7 := ⟨okX12_ask, Or.inl (tblG_in (i := 2317) (by decide +kernel) (by decide +kernel)), Or.inr (Or.inl ⟨rfl, tblG_in (i := 2318) (by decide +kernel) (by decide +kernel), tblG_in (i := 2319) (by decide +kernel) (by decide +kernel), rfl⟩)⟩
theorem l_13_233 : Cond.methodLink (cn 13) 233 (my mX12_ask) ∈ tblG := tblG_in (i := 2317) (by decide +kernel) (by decide +kernel)
theorem k_13_234 : MLk 13 234 mL_shortest 0 8 := ⟨okL_shortest, Or.inl (tblG_in (i := 1555) (by decide +kernel) (by decide +kernel)), Or.inl ⟨rfl, tblG_in (i := 1556) (by decide +kernel) (by decide +kernel)⟩⟩
theorem l_13_234 : Cond.methodLink (cn 13) 234 (my mL_shortest) ∈ tblG := tblG_in (i := 1555) (by decide +kernel) (by decide +kernel)
theorem k_13_236 : MLk 13 236 mX12_shortest 1 6 := ⟨okX12_shortest, Or.inl (tblG_in (i := 2321) (by decide +kernel) (by decide +kernel)), Or.inr (Or.inl ⟨rfl, tblG_in (i := 2322) (by decide +kernel) (by decide +kernel), tblG_in (i := 2323) (by decide +kernel) (by decide +kernel), rfl⟩)⟩
theorem l_13_236 : Cond.methodLink (cn 13) 236 (my mX12_shortest) ∈ tblG := tblG_in (i := 2321) (by decide +kernel) (by decide +kernel)
theorem k_13_237 : MLk 13 237 mL_went 0 7 := ⟨okL_went, Or.inl (tblG_in (i := 1606) (by decide +kernel) (by decide +kernel)), Or.inl ⟨rfl, tblG_in (i := 1607) (by decide +kernel) (by decide +kernel)⟩⟩
theorem l_13_237 : Cond.methodLink (cn 13) 237 (my mL_went) ∈ tblG := tblG_in (i := 1606) (by decide +kernel) (by decide +kernel)
theorem k_13_239 : MLk 13 239 mX12_went 1 5 := ⟨okX12_went, Or.inl (tblG_in (i := 2338) (by decide +kernel) (by decide +kernel)), Or.inr (Or.inl ⟨rfl, tblG_in (i := 2339) (by decide +kernel) (by decide +kernel), tblG_in (i := 2340) (by decide +kernel) (by decide +kernel), rfl⟩)⟩
theorem l_13_239 : Cond.methodLink (cn 13) 239 (my mX12_went) ∈ tblG := tblG_in (i := 2338) (by decide +kernel) (by decide +kernel)
theorem k_13_240 : MLk 13 240 mL_learned 0 4 := ⟨okL_learned, Or.inl (tblG_in (i := 1617) (by decide +kernel) (by decide +kernel)), Or.inl ⟨rfl, tblG_in (i := 1618) (by decide +kernel) (by decide +kernel)⟩⟩
theorem l_13_240 : Cond.methodLink (cn 13) 240 (my mL_learned) ∈ tblG := tblG_in (i := 1617) (by decide +kernel) (by decide +kernel)
theorem k_13_242 : MLk 13 242 mX12_learned 1 2 := ⟨okX12_learned, Or.inl (tblG_in (i := 2342) (by decide +kernel) (by decide +kernel)), Or.inr (Or.inl ⟨rfl, tblG_in (i := 2343) (by decide +kernel) (by decide +kernel), tblG_in (i := 2344) (by decide +kernel) (by decide +kernel), rfl⟩)⟩
theorem l_13_242 : Cond.methodLink (cn 13) 242 (my mX12_learned) ∈ tblG := tblG_in (i := 2342) (by decide +kernel) (by decide +kernel)
theorem k_13_243 : MLk 13 243 mX11_teller 1 0 := ⟨okX11_teller, Or.inl (tblG_in (i := 588) (by decide +kernel) (by decide +kernel)), Or.inr (Or.inl ⟨rfl, tblG_in (i := 589) (by decide +kernel) (by decide +kernel), tblG_in (i := 590) (by decide +kernel) (by decide +kernel), rfl⟩)⟩
theorem l_13_243 : Cond.methodLink (cn 13) 243 (my mX11_teller) ∈ tblG := tblG_in (i := 588) (by decide +kernel) (by decide +kernel)
theorem k_13_246 : MLk 13 246 mX12_teller 1 0 := ⟨okX12_teller, Or.inl (tblG_in (i := 2350) (by decide +kernel) (by decide +kernel)), Or.inr (Or.inl ⟨rfl, tblG_in (i := 2351) (by decide +kernel) (by decide +kernel), tblG_in (i := 2352) (by decide +kernel) (by decide +kernel), rfl⟩)⟩
theorem l_13_246 : Cond.methodLink (cn 13) 246 (my mX12_teller) ∈ tblG := tblG_in (i := 2350) (by decide +kernel) (by decide +kernel)
theorem k_13_247 : MLk 13 247 mL_told 0 4 := ⟨okL_told, Or.inl (tblG_in (i := 1633) (by decide +kernel) (by decide +kernel)), Or.inl ⟨rfl, tblG_in (i := 1634) (by decide +kernel) (by decide +kernel)⟩⟩
theorem l_13_247 : Cond.methodLink (cn 13) 247 (my mL_told) ∈ tblG := tblG_in (i := 1633) (by decide +kernel) (by decide +kernel)
theorem k_13_250 : MLk 13 250 mX12_told 1 2 := ⟨okX12_told, Or.inl (tblG_in (i := 2358) (by decide +kernel) (by decide +kernel)), Or.inr (Or.inl ⟨rfl, tblG_in (i := 2359) (by decide +kernel) (by decide +kernel), tblG_in (i := 2360) (by decide +kernel) (by decide +kernel), rfl⟩)⟩
theorem l_13_250 : Cond.methodLink (cn 13) 250 (my mX12_told) ∈ tblG := tblG_in (i := 2358) (by decide +kernel) (by decide +kernel)
theorem k_13_251 : MLk 13 251 mL_tray 0 4 := ⟨okL_tray, Or.inl (tblG_in (i := 1640) (by decide +kernel) (by decide +kernel)), Or.inl ⟨rfl, tblG_in (i := 1641) (by decide +kernel) (by decide +kernel)⟩⟩
theorem l_13_251 : Cond.methodLink (cn 13) 251 (my mL_tray) ∈ tblG := tblG_in (i := 1640) (by decide +kernel) (by decide +kernel)
theorem k_13_254 : MLk 13 254 mX12_tray 1 3 := ⟨okX12_tray, Or.inl (tblG_in (i := 2362) (by decide +kernel) (by decide +kernel)), Or.inr (Or.inl ⟨rfl, tblG_in (i := 2363) (by decide +kernel) (by decide +kernel), tblG_in (i := 2364) (by decide +kernel) (by decide +kernel), rfl⟩)⟩
theorem l_13_254 : Cond.methodLink (cn 13) 254 (my mX12_tray) ∈ tblG := tblG_in (i := 2362) (by decide +kernel) (by decide +kernel)
theorem g_13_255 : Cond.constantLong (cn 13) 255 (4294967295) ∈ tblG := tblG_in (i := 2392) (by decide +kernel) (by decide +kernel)
theorem k_13_257 : MLk 13 257 mL_write 0 5 := ⟨okL_write, Or.inl (tblG_in (i := 1656) (by decide +kernel) (by decide +kernel)), Or.inl ⟨rfl, tblG_in (i := 1657) (by decide +kernel) (by decide +kernel)⟩⟩
theorem l_13_257 : Cond.methodLink (cn 13) 257 (my mL_write) ∈ tblG := tblG_in (i := 1656) (by decide +kernel) (by decide +kernel)
theorem k_13_260 : MLk 13 260 mX12_write 1 3 := ⟨okX12_write, Or.inl (tblG_in (i := 2370) (by decide +kernel) (by decide +kernel)), Or.inr (Or.inl ⟨rfl, tblG_in (i := 2371) (by decide +kernel) (by decide +kernel), tblG_in (i := 2372) (by decide +kernel) (by decide +kernel), rfl⟩)⟩
theorem l_13_260 : Cond.methodLink (cn 13) 260 (my mX12_write) ∈ tblG := tblG_in (i := 2370) (by decide +kernel) (by decide +kernel)
theorem k_13_261 : MLk 13 261 mL_say 0 5 := ⟨okL_say, Or.inl (tblG_in (i := 1703) (by decide +kernel) (by decide +kernel)), Or.inl ⟨rfl, tblG_in (i := 1704) (by decide +kernel) (by decide +kernel)⟩⟩
theorem l_13_261 : Cond.methodLink (cn 13) 261 (my mL_say) ∈ tblG := tblG_in (i := 1703) (by decide +kernel) (by decide +kernel)
theorem k_13_263 : MLk 13 263 mX12_say 1 3 := ⟨okX12_say, Or.inl (tblG_in (i := 2374) (by decide +kernel) (by decide +kernel)), Or.inr (Or.inl ⟨rfl, tblG_in (i := 2375) (by decide +kernel) (by decide +kernel), tblG_in (i := 2376) (by decide +kernel) (by decide +kernel), rfl⟩)⟩
theorem l_13_263 : Cond.methodLink (cn 13) 263 (my mX12_say) ∈ tblG := tblG_in (i := 2374) (by decide +kernel) (by decide +kernel)
theorem k_13_264 : MLk 13 264 mL_image 0 2 := ⟨okL_image, Or.inl (tblG_in (i := 1721) (by decide +kernel) (by decide +kernel)), Or.inl ⟨rfl, tblG_in (i := 1722) (by decide +kernel) (by decide +kernel)⟩⟩
theorem l_13_264 : Cond.methodLink (cn 13) 264 (my mL_image) ∈ tblG := tblG_in (i := 1721) (by decide +kernel) (by decide +kernel)
theorem k_13_267 : MLk 13 267 mX12_image 1 1 := ⟨okX12_image, Or.inl (tblG_in (i := 2379) (by decide +kernel) (by decide +kernel)), Or.inr (Or.inl ⟨rfl, tblG_in (i := 2380) (by decide +kernel) (by decide +kernel), tblG_in (i := 2381) (by decide +kernel) (by decide +kernel), rfl⟩)⟩
theorem l_13_267 : Cond.methodLink (cn 13) 267 (my mX12_image) ∈ tblG := tblG_in (i := 2379) (by decide +kernel) (by decide +kernel)
theorem k_13_268 : MLk 13 268 mL_restore 0 2 := ⟨okL_restore, Or.inl (tblG_in (i := 1746) (by decide +kernel) (by decide +kernel)), Or.inl ⟨rfl, tblG_in (i := 1747) (by decide +kernel) (by decide +kernel)⟩⟩
theorem l_13_268 : Cond.methodLink (cn 13) 268 (my mL_restore) ∈ tblG := tblG_in (i := 1746) (by decide +kernel) (by decide +kernel)
theorem k_13_270 : MLk 13 270 mX12_restore 1 1 := ⟨okX12_restore, Or.inl (tblG_in (i := 2383) (by decide +kernel) (by decide +kernel)), Or.inr (Or.inl ⟨rfl, tblG_in (i := 2384) (by decide +kernel) (by decide +kernel), tblG_in (i := 2385) (by decide +kernel) (by decide +kernel), rfl⟩)⟩
theorem l_13_270 : Cond.methodLink (cn 13) 270 (my mX12_restore) ∈ tblG := tblG_in (i := 2383) (by decide +kernel) (by decide +kernel)
theorem k_13_271 : MLk 13 271 mX11_count 1 1 := ⟨okX11_count, Or.inl (tblG_in (i := 596) (by decide +kernel) (by decide +kernel)), Or.inr (Or.inl ⟨rfl, tblG_in (i := 597) (by decide +kernel) (by decide +kernel), tblG_in (i := 598) (by decide +kernel) (by decide +kernel), rfl⟩)⟩
theorem l_13_271 : Cond.methodLink (cn 13) 271 (my mX11_count) ∈ tblG := tblG_in (i := 596) (by decide +kernel) (by decide +kernel)
theorem k_13_274 : MLk 13 274 mX12_count 1 1 := ⟨okX12_count, Or.inl (tblG_in (i := 2387) (by decide +kernel) (by decide +kernel)), Or.inr (Or.inl ⟨rfl, tblG_in (i := 2388) (by decide +kernel) (by decide +kernel), tblG_in (i := 2389) (by decide +kernel) (by decide +kernel), rfl⟩)⟩
theorem l_13_274 : Cond.methodLink (cn 13) 274 (my mX12_count) ∈ tblG := tblG_in (i := 2387) (by decide +kernel) (by decide +kernel)
