def yJ7_rangeCheck_23922 : MethodName := ⟨"java/util/Arrays", "rangeCheck", "(III)V"⟩
abbrev cJ7_rangeCheck_23922 : ByteArray := prog_32_method_30_code
def mJ7_rangeCheck_23922 : Mth := (yJ7_rangeCheck_23922, cJ7_rangeCheck_23922, 3, none, 14, [])
set_option maxRecDepth 100000 in
theorem okJ7_rangeCheck_23922 : MOk mJ7_rangeCheck_23922 3 := ⟨rfl, (by decide +kernel), ⟨(by decide +kernel), (by decide +kernel)⟩, (by decide +kernel), tblG_in (i := 810) (by rfl) rfl, tblG_in (i := 20) (by decide +kernel) (by decide +kernel), by decide⟩
def yJ7_fill_d0a16 : MethodName := ⟨"java/util/Arrays", "fill", "([JJ)V"⟩
abbrev cJ7_fill_d0a16 : ByteArray := prog_32_method_101_code
def mJ7_fill_d0a16 : Mth := (yJ7_fill_d0a16, cJ7_fill_d0a16, 5, none, 14, [])
set_option maxRecDepth 100000 in
theorem okJ7_fill_d0a16 : MOk mJ7_fill_d0a16 2 := ⟨rfl, (by decide +kernel), ⟨(by decide +kernel), (by decide +kernel)⟩, (by decide +kernel), tblG_in (i := 789) (by rfl) rfl, tblG_in (i := 20) (by decide +kernel) (by decide +kernel), by decide⟩
def yJ7_fill_bad5a : MethodName := ⟨"java/util/Arrays", "fill", "([JIIJ)V"⟩
abbrev cJ7_fill_bad5a : ByteArray := prog_32_method_102_code
def mJ7_fill_bad5a : Mth := (yJ7_fill_bad5a, cJ7_fill_bad5a, 6, none, 14, [])
set_option maxRecDepth 100000 in
theorem okJ7_fill_bad5a : MOk mJ7_fill_bad5a 4 := ⟨rfl, (by decide +kernel), ⟨(by decide +kernel), (by decide +kernel)⟩, (by decide +kernel), tblG_in (i := 807) (by rfl) rfl, tblG_in (i := 20) (by decide +kernel) (by decide +kernel), by decide⟩
def yJ7_fill_53178 : MethodName := ⟨"java/util/Arrays", "fill", "([II)V"⟩
abbrev cJ7_fill_53178 : ByteArray := prog_32_method_103_code
def mJ7_fill_53178 : Mth := (yJ7_fill_53178, cJ7_fill_53178, 4, none, 14, [])
set_option maxRecDepth 100000 in
theorem okJ7_fill_53178 : MOk mJ7_fill_53178 2 := ⟨rfl, (by decide +kernel), ⟨(by decide +kernel), (by decide +kernel)⟩, (by decide +kernel), tblG_in (i := 1235) (by rfl) rfl, tblG_in (i := 20) (by decide +kernel) (by decide +kernel), by decide⟩
def yJ7_fill_fda19 : MethodName := ⟨"java/util/Arrays", "fill", "([IIII)V"⟩
abbrev cJ7_fill_fda19 : ByteArray := prog_32_method_104_code
def mJ7_fill_fda19 : Mth := (yJ7_fill_fda19, cJ7_fill_fda19, 5, none, 14, [])
set_option maxRecDepth 100000 in
theorem okJ7_fill_fda19 : MOk mJ7_fill_fda19 4 := ⟨rfl, (by decide +kernel), ⟨(by decide +kernel), (by decide +kernel)⟩, (by decide +kernel), tblG_in (i := 1569) (by rfl) rfl, tblG_in (i := 20) (by decide +kernel) (by decide +kernel), by decide⟩
def yJ13_bitCount_95d88 : MethodName := ⟨"java/lang/Long", "bitCount", "(J)I"⟩
abbrev cJ13_bitCount_95d88 : ByteArray := prog_23_method_50_code
def mJ13_bitCount_95d88 : Mth := (yJ13_bitCount_95d88, cJ13_bitCount_95d88, 2, (some .int), 15, [])
set_option maxRecDepth 100000 in
theorem okJ13_bitCount_95d88 : MOk mJ13_bitCount_95d88 1 := ⟨rfl, (by decide +kernel), ⟨(by decide +kernel), (by decide +kernel)⟩, (by decide +kernel), tblG_in (i := 1088) (by rfl) rfl, tblG_in (i := 32) (by decide +kernel) (by decide +kernel), by decide⟩
def yJ6_bitCount_0f7a4 : MethodName := ⟨"java/lang/Integer", "bitCount", "(I)I"⟩
abbrev cJ6_bitCount_0f7a4 : ByteArray := prog_22_method_49_code
def mJ6_bitCount_0f7a4 : Mth := (yJ6_bitCount_0f7a4, cJ6_bitCount_0f7a4, 1, (some .int), 16, [])
set_option maxRecDepth 100000 in
theorem okJ6_bitCount_0f7a4 : MOk mJ6_bitCount_0f7a4 1 := ⟨rfl, (by decide +kernel), ⟨(by decide +kernel), (by decide +kernel)⟩, (by decide +kernel), tblG_in (i := 1585) (by rfl) rfl, tblG_in (i := 29) (by decide +kernel) (by decide +kernel), by decide⟩
theorem jl_0_43 : Cond.methodLink (cn 0) 43 arraycopyName ∈ tblG ∧ Cond.native arraycopyName ∈ tblG ∧ Cond.static arraycopyName ∈ tblG ∧ Cond.initialized "java/lang/System" ∈ tblG := ⟨tblG_in (i := 1320) (by decide +kernel) (by decide +kernel), tblG_in (i := 885) (by decide +kernel) (by decide +kernel), tblG_in (i := 884) (by decide +kernel) (by decide +kernel), tblG_in (i := 26) (by decide +kernel) (by decide +kernel)⟩
theorem k_0_49 : MLk 0 49 mJ7_fill_fda19 0 4 := ⟨okJ7_fill_fda19, Or.inl (tblG_in (i := 1719) (by decide +kernel) (by decide +kernel)), Or.inl ⟨rfl, tblG_in (i := 1568) (by decide +kernel) (by decide +kernel)⟩⟩
theorem k_1_74 : MLk 1 74 mJ7_fill_fda19 0 4 := ⟨okJ7_fill_fda19, Or.inl (tblG_in (i := 1567) (by decide +kernel) (by decide +kernel)), Or.inl ⟨rfl, tblG_in (i := 1568) (by decide +kernel) (by decide +kernel)⟩⟩
theorem k_1_121 : MLk 1 121 mJ6_bitCount_0f7a4 0 1 := ⟨okJ6_bitCount_0f7a4, Or.inl (tblG_in (i := 1583) (by decide +kernel) (by decide +kernel)), Or.inl ⟨rfl, tblG_in (i := 1584) (by decide +kernel) (by decide +kernel)⟩⟩
theorem jl_2_46 : Cond.methodLink (cn 2) 46 arraycopyName ∈ tblG ∧ Cond.native arraycopyName ∈ tblG ∧ Cond.static arraycopyName ∈ tblG ∧ Cond.initialized "java/lang/System" ∈ tblG := ⟨tblG_in (i := 1741) (by decide +kernel) (by decide +kernel), tblG_in (i := 885) (by decide +kernel) (by decide +kernel), tblG_in (i := 884) (by decide +kernel) (by decide +kernel), tblG_in (i := 26) (by decide +kernel) (by decide +kernel)⟩
theorem jl_3_65 : Cond.methodLink (cn 3) 65 arraycopyName ∈ tblG ∧ Cond.native arraycopyName ∈ tblG ∧ Cond.static arraycopyName ∈ tblG ∧ Cond.initialized "java/lang/System" ∈ tblG := ⟨tblG_in (i := 1736) (by decide +kernel) (by decide +kernel), tblG_in (i := 885) (by decide +kernel) (by decide +kernel), tblG_in (i := 884) (by decide +kernel) (by decide +kernel), tblG_in (i := 26) (by decide +kernel) (by decide +kernel)⟩
theorem k_4_41 : MLk 4 41 mJ7_fill_53178 0 2 := ⟨okJ7_fill_53178, Or.inl (tblG_in (i := 1481) (by decide +kernel) (by decide +kernel)), Or.inl ⟨rfl, tblG_in (i := 1234) (by decide +kernel) (by decide +kernel)⟩⟩
theorem k_5_26 : MLk 5 26 mJ7_fill_53178 0 2 := ⟨okJ7_fill_53178, Or.inl (tblG_in (i := 1233) (by decide +kernel) (by decide +kernel)), Or.inl ⟨rfl, tblG_in (i := 1234) (by decide +kernel) (by decide +kernel)⟩⟩
theorem jl_5_76 : Cond.methodLink (cn 5) 76 yChr ∈ tblG := tblG_in (i := 1253) (by decide +kernel) (by decide +kernel)
theorem k_6_15 : MLk 6 15 mJ7_fill_d0a16 0 2 := ⟨okJ7_fill_d0a16, Or.inl (tblG_in (i := 1107) (by decide +kernel) (by decide +kernel)), Or.inl ⟨rfl, tblG_in (i := 788) (by decide +kernel) (by decide +kernel)⟩⟩
theorem k_6_21 : MLk 6 21 mJ13_bitCount_95d88 0 1 := ⟨okJ13_bitCount_95d88, Or.inl (tblG_in (i := 1116) (by decide +kernel) (by decide +kernel)), Or.inl ⟨rfl, tblG_in (i := 1087) (by decide +kernel) (by decide +kernel)⟩⟩
theorem k_7_65 : MLk 7 65 mJ13_bitCount_95d88 0 1 := ⟨okJ13_bitCount_95d88, Or.inl (tblG_in (i := 1387) (by decide +kernel) (by decide +kernel)), Or.inl ⟨rfl, tblG_in (i := 1087) (by decide +kernel) (by decide +kernel)⟩⟩
theorem k_8_26 : MLk 8 26 mJ7_fill_d0a16 0 2 := ⟨okJ7_fill_d0a16, Or.inl (tblG_in (i := 1655) (by decide +kernel) (by decide +kernel)), Or.inl ⟨rfl, tblG_in (i := 788) (by decide +kernel) (by decide +kernel)⟩⟩
theorem k_10_76 : MLk 10 76 mJ7_fill_d0a16 0 2 := ⟨okJ7_fill_d0a16, Or.inl (tblG_in (i := 787) (by decide +kernel) (by decide +kernel)), Or.inl ⟨rfl, tblG_in (i := 788) (by decide +kernel) (by decide +kernel)⟩⟩
theorem jl_10_112 : Cond.methodLink (cn 10) 112 Lib.Math.min.name ∈ tblG ∧ Cond.static Lib.Math.min.name ∈ tblG ∧ Cond.initialized "java/lang/Math" ∈ tblG ∧ Cond.code Lib.Math.min.name Lib.Math.min.code 2 (some .int) ∈ tblG := ⟨tblG_in (i := 777) (by decide +kernel) (by decide +kernel), tblG_in (i := 778) (by decide +kernel) (by decide +kernel), tblG_in (i := 19) (by decide +kernel) (by decide +kernel), tblG_in (i := 779) (by decide +kernel) rfl⟩
theorem jl_10_118 : Cond.methodLink (cn 10) 118 Lib.Math.max.name ∈ tblG ∧ Cond.static Lib.Math.max.name ∈ tblG ∧ Cond.initialized "java/lang/Math" ∈ tblG ∧ Cond.code Lib.Math.max.name Lib.Math.max.code 2 (some .int) ∈ tblG := ⟨tblG_in (i := 780) (by decide +kernel) (by decide +kernel), tblG_in (i := 781) (by decide +kernel) (by decide +kernel), tblG_in (i := 19) (by decide +kernel) (by decide +kernel), tblG_in (i := 782) (by decide +kernel) rfl⟩
theorem k_10_134 : MLk 10 134 mJ7_fill_bad5a 0 4 := ⟨okJ7_fill_bad5a, Or.inl (tblG_in (i := 805) (by decide +kernel) (by decide +kernel)), Or.inl ⟨rfl, tblG_in (i := 806) (by decide +kernel) (by decide +kernel)⟩⟩
theorem k_10_143 : MLk 10 143 mJ13_bitCount_95d88 0 1 := ⟨okJ13_bitCount_95d88, Or.inl (tblG_in (i := 1086) (by decide +kernel) (by decide +kernel)), Or.inl ⟨rfl, tblG_in (i := 1087) (by decide +kernel) (by decide +kernel)⟩⟩
theorem jl_10_149 : Cond.methodLink (cn 10) 149 Lib.MathLoose.abs_long.x ∈ tblG ∧ Cond.static Lib.MathLoose.abs_long.x ∈ tblG ∧ Cond.initialized "java/lang/Math" ∈ tblG ∧ Cond.code Lib.MathLoose.abs_long.x Lib.MathLoose.abs_long.code 2 (some .long) ∈ tblG := ⟨tblG_in (i := 1092) (by decide +kernel) (by decide +kernel), tblG_in (i := 1093) (by decide +kernel) (by decide +kernel), tblG_in (i := 19) (by decide +kernel) (by decide +kernel), tblG_in (i := 1094) (by decide +kernel) rfl⟩
theorem k_11_167 : MLk 11 167 mJ13_bitCount_95d88 0 1 := ⟨okJ13_bitCount_95d88, Or.inl (tblG_in (i := 1095) (by decide +kernel) (by decide +kernel)), Or.inl ⟨rfl, tblG_in (i := 1087) (by decide +kernel) (by decide +kernel)⟩⟩
theorem jl_12_264 : Cond.methodLink (cn 12) 264 yLen ∈ tblG := tblG_in (i := 2098) (by decide +kernel) (by decide +kernel)
theorem jl_12_270 : Cond.methodLink (cn 12) 270 yChr ∈ tblG := tblG_in (i := 2099) (by decide +kernel) (by decide +kernel)
theorem g_16_265 : Cond.constant (cn 16) 265 (1431655765) ∈ tblG := tblG_in (i := 1586) (by decide +kernel) (by decide +kernel)
theorem g_16_266 : Cond.constant (cn 16) 266 (858993459) ∈ tblG := tblG_in (i := 1587) (by decide +kernel) (by decide +kernel)
theorem g_16_267 : Cond.constant (cn 16) 267 (252645135) ∈ tblG := tblG_in (i := 1588) (by decide +kernel) (by decide +kernel)
theorem g_15_314 : Cond.constantLong (cn 15) 314 (6148914691236517205) ∈ tblG := tblG_in (i := 1089) (by decide +kernel) (by decide +kernel)
theorem g_15_316 : Cond.constantLong (cn 15) 316 (3689348814741910323) ∈ tblG := tblG_in (i := 1090) (by decide +kernel) (by decide +kernel)
theorem g_15_318 : Cond.constantLong (cn 15) 318 (1085102592571150095) ∈ tblG := tblG_in (i := 1091) (by decide +kernel) (by decide +kernel)
theorem k_14_13 : MLk 14 13 mJ7_rangeCheck_23922 0 3 := ⟨okJ7_rangeCheck_23922, Or.inl (tblG_in (i := 808) (by decide +kernel) (by decide +kernel)), Or.inl ⟨rfl, tblG_in (i := 809) (by decide +kernel) (by decide +kernel)⟩⟩
