theorem eL_law_986 : dc mL_law 986 (.iaload) 1 987 := ⟨d_iaload (bL (p := 986) (v := 46) (by decide) (by decide +kernel)), rfl⟩
theorem eL_law_987 : dc mL_law 987 (.aload_n 0) 1 988 := ⟨d_aload_0 (bL (p := 987) (v := 42) (by decide) (by decide +kernel)), rfl⟩
theorem eL_law_988 : dc mL_law 988 (.iload 4) 2 990 := ⟨d_iload (bL (p := 988) (v := 21) (by decide) (by decide +kernel)) (bL (p := 989) (v := 4) (by decide) (by decide +kernel)), rfl⟩
theorem eL_law_990 : dc mL_law 990 (.iconst 2) 1 991 := ⟨d_iconst_2 (bL (p := 990) (v := 5) (by decide) (by decide +kernel)), rfl⟩
theorem eL_law_991 : dc mL_law 991 (.iadd) 1 992 := ⟨d_iadd (bL (p := 991) (v := 96) (by decide) (by decide +kernel)), rfl⟩
theorem eL_law_992 : dc mL_law 992 (.iaload) 1 993 := ⟨d_iaload (bL (p := 992) (v := 46) (by decide) (by decide +kernel)), rfl⟩
theorem eL_law_993 : dc mL_law 993 (.aload_n 0) 1 994 := ⟨d_aload_0 (bL (p := 993) (v := 42) (by decide) (by decide +kernel)), rfl⟩
theorem eL_law_994 : dc mL_law 994 (.iload 4) 2 996 := ⟨d_iload (bL (p := 994) (v := 21) (by decide) (by decide +kernel)) (bL (p := 995) (v := 4) (by decide) (by decide +kernel)), rfl⟩
theorem eL_law_996 : dc mL_law 996 (.iconst 3) 1 997 := ⟨d_iconst_3 (bL (p := 996) (v := 6) (by decide) (by decide +kernel)), rfl⟩
theorem eL_law_997 : dc mL_law 997 (.iadd) 1 998 := ⟨d_iadd (bL (p := 997) (v := 96) (by decide) (by decide +kernel)), rfl⟩
theorem eL_law_998 : dc mL_law 998 (.iaload) 1 999 := ⟨d_iaload (bL (p := 998) (v := 46) (by decide) (by decide +kernel)), rfl⟩
theorem eL_law_999 : dc mL_law 999 (.ifCond .eq 7) 3 1002 := ⟨d_ifCond_eq (bL (p := 999) (v := 153) (by decide) (by decide +kernel)) (bL (p := 1000) (v := 0) (by decide) (by decide +kernel)) (bL (p := 1001) (v := 7) (by decide) (by decide +kernel)) (by decide +kernel), rfl⟩
theorem eL_law_1002 : dc mL_law 1002 (.iconst 1) 1 1003 := ⟨d_iconst_1 (bL (p := 1002) (v := 4) (by decide) (by decide +kernel)), rfl⟩
theorem eL_law_1003 : dc mL_law 1003 (.goto 4) 3 1006 := ⟨d_goto (bL (p := 1003) (v := 167) (by decide) (by decide +kernel)) (bL (p := 1004) (v := 0) (by decide) (by decide +kernel)) (bL (p := 1005) (v := 4) (by decide) (by decide +kernel)) (by decide +kernel), rfl⟩
theorem eL_law_1006 : dc mL_law 1006 (.iconst 0) 1 1007 := ⟨d_iconst_0 (bL (p := 1006) (v := 3) (by decide) (by decide +kernel)), rfl⟩
theorem eL_law_1007 : dc mL_law 1007 (.aload_n 0) 1 1008 := ⟨d_aload_0 (bL (p := 1007) (v := 42) (by decide) (by decide +kernel)), rfl⟩
theorem eL_law_1008 : dc mL_law 1008 (.iload 4) 2 1010 := ⟨d_iload (bL (p := 1008) (v := 21) (by decide) (by decide +kernel)) (bL (p := 1009) (v := 4) (by decide) (by decide +kernel)), rfl⟩
theorem eL_law_1010 : dc mL_law 1010 (.iconst 4) 1 1011 := ⟨d_iconst_4 (bL (p := 1010) (v := 7) (by decide) (by decide +kernel)), rfl⟩
theorem eL_law_1011 : dc mL_law 1011 (.iadd) 1 1012 := ⟨d_iadd (bL (p := 1011) (v := 96) (by decide) (by decide +kernel)), rfl⟩
theorem eL_law_1012 : dc mL_law 1012 (.iaload) 1 1013 := ⟨d_iaload (bL (p := 1012) (v := 46) (by decide) (by decide +kernel)), rfl⟩
theorem eL_law_1013 : dc mL_law 1013 (.ifCond .eq 7) 3 1016 := ⟨d_ifCond_eq (bL (p := 1013) (v := 153) (by decide) (by decide +kernel)) (bL (p := 1014) (v := 0) (by decide) (by decide +kernel)) (bL (p := 1015) (v := 7) (by decide) (by decide +kernel)) (by decide +kernel), rfl⟩
theorem eL_law_1016 : dc mL_law 1016 (.iconst 1) 1 1017 := ⟨d_iconst_1 (bL (p := 1016) (v := 4) (by decide) (by decide +kernel)), rfl⟩
theorem eL_law_1017 : dc mL_law 1017 (.goto 4) 3 1020 := ⟨d_goto (bL (p := 1017) (v := 167) (by decide) (by decide +kernel)) (bL (p := 1018) (v := 0) (by decide) (by decide +kernel)) (bL (p := 1019) (v := 4) (by decide) (by decide +kernel)) (by decide +kernel), rfl⟩
theorem eL_law_1020 : dc mL_law 1020 (.iconst 0) 1 1021 := ⟨d_iconst_0 (bL (p := 1020) (v := 3) (by decide) (by decide +kernel)), rfl⟩
theorem eL_law_1021 : dc mL_law 1021 (.aload_n 0) 1 1022 := ⟨d_aload_0 (bL (p := 1021) (v := 42) (by decide) (by decide +kernel)), rfl⟩
theorem eL_law_1022 : dc mL_law 1022 (.iload 4) 2 1024 := ⟨d_iload (bL (p := 1022) (v := 21) (by decide) (by decide +kernel)) (bL (p := 1023) (v := 4) (by decide) (by decide +kernel)), rfl⟩
theorem eL_law_1024 : dc mL_law 1024 (.iconst 5) 1 1025 := ⟨d_iconst_5 (bL (p := 1024) (v := 8) (by decide) (by decide +kernel)), rfl⟩
theorem eL_law_1025 : dc mL_law 1025 (.iadd) 1 1026 := ⟨d_iadd (bL (p := 1025) (v := 96) (by decide) (by decide +kernel)), rfl⟩
theorem eL_law_1026 : dc mL_law 1026 (.iaload) 1 1027 := ⟨d_iaload (bL (p := 1026) (v := 46) (by decide) (by decide +kernel)), rfl⟩
theorem eL_law_1027 : dc mL_law 1027 (.invokevirtual 177) 3 1030 := ⟨d_invokevirtual (bL (p := 1027) (v := 182) (by decide) (by decide +kernel)) (bL (p := 1028) (v := 0) (by decide) (by decide +kernel)) (bL (p := 1029) (v := 177) (by decide) (by decide +kernel)) (by decide), rfl⟩
theorem eL_law_1030 : dc mL_law 1030 (.istore 6) 2 1032 := ⟨d_istore (bL (p := 1030) (v := 54) (by decide) (by decide +kernel)) (bL (p := 1031) (v := 6) (by decide) (by decide +kernel)), rfl⟩
theorem eL_law_1032 : dc mL_law 1032 (.aload_n 2) 1 1033 := ⟨d_aload_2 (bL (p := 1032) (v := 44) (by decide) (by decide +kernel)), rfl⟩
theorem eL_law_1033 : dc mL_law 1033 (.invokevirtual 141) 3 1036 := ⟨d_invokevirtual (bL (p := 1033) (v := 182) (by decide) (by decide +kernel)) (bL (p := 1034) (v := 0) (by decide) (by decide +kernel)) (bL (p := 1035) (v := 141) (by decide) (by decide +kernel)) (by decide), rfl⟩
theorem eL_law_1036 : dc mL_law 1036 (.iload 5) 2 1038 := ⟨d_iload (bL (p := 1036) (v := 21) (by decide) (by decide +kernel)) (bL (p := 1037) (v := 5) (by decide) (by decide +kernel)), rfl⟩
theorem eL_law_1038 : dc mL_law 1038 (.if_icmp .eq 5) 3 1041 := ⟨d_if_icmp_eq (bL (p := 1038) (v := 159) (by decide) (by decide +kernel)) (bL (p := 1039) (v := 0) (by decide) (by decide +kernel)) (bL (p := 1040) (v := 5) (by decide) (by decide +kernel)) (by decide +kernel), rfl⟩
theorem eL_law_1041 : dc mL_law 1041 (.iconst 0) 1 1042 := ⟨d_iconst_0 (bL (p := 1041) (v := 3) (by decide) (by decide +kernel)), rfl⟩
theorem eL_law_1042 : dc mL_law 1042 (.ireturn) 1 1043 := ⟨d_ireturn (bL (p := 1042) (v := 172) (by decide) (by decide +kernel)), rfl⟩
theorem eL_law_1043 : dc mL_law 1043 (.iload 5) 2 1045 := ⟨d_iload (bL (p := 1043) (v := 21) (by decide) (by decide +kernel)) (bL (p := 1044) (v := 5) (by decide) (by decide +kernel)), rfl⟩
theorem eL_law_1045 : dc mL_law 1045 (.ifCond .ne 15) 3 1048 := ⟨d_ifCond_ne (bL (p := 1045) (v := 154) (by decide) (by decide +kernel)) (bL (p := 1046) (v := 0) (by decide) (by decide +kernel)) (bL (p := 1047) (v := 15) (by decide) (by decide +kernel)) (by decide +kernel), rfl⟩
theorem eL_law_1048 : dc mL_law 1048 (.aload_n 3) 1 1049 := ⟨d_aload_3 (bL (p := 1048) (v := 45) (by decide) (by decide +kernel)), rfl⟩
theorem eL_law_1049 : dc mL_law 1049 (.iconst 0) 1 1050 := ⟨d_iconst_0 (bL (p := 1049) (v := 3) (by decide) (by decide +kernel)), rfl⟩
theorem eL_law_1050 : dc mL_law 1050 (.laload) 1 1051 := ⟨d_laload (bL (p := 1050) (v := 47) (by decide) (by decide +kernel)), rfl⟩
theorem eL_law_1051 : dc mL_law 1051 (.iload 6) 2 1053 := ⟨d_iload (bL (p := 1051) (v := 21) (by decide) (by decide +kernel)) (bL (p := 1052) (v := 6) (by decide) (by decide +kernel)), rfl⟩
theorem eL_law_1053 : dc mL_law 1053 (.i2l) 1 1054 := ⟨d_i2l (bL (p := 1053) (v := 133) (by decide) (by decide +kernel)), rfl⟩
theorem eL_law_1054 : dc mL_law 1054 (.lcmp) 1 1055 := ⟨d_lcmp (bL (p := 1054) (v := 148) (by decide) (by decide +kernel)), rfl⟩
theorem eL_law_1055 : dc mL_law 1055 (.ifCond .eq 5) 3 1058 := ⟨d_ifCond_eq (bL (p := 1055) (v := 153) (by decide) (by decide +kernel)) (bL (p := 1056) (v := 0) (by decide) (by decide +kernel)) (bL (p := 1057) (v := 5) (by decide) (by decide +kernel)) (by decide +kernel), rfl⟩
theorem eL_law_1058 : dc mL_law 1058 (.iconst 0) 1 1059 := ⟨d_iconst_0 (bL (p := 1058) (v := 3) (by decide) (by decide +kernel)), rfl⟩
theorem eL_law_1059 : dc mL_law 1059 (.ireturn) 1 1060 := ⟨d_ireturn (bL (p := 1059) (v := 172) (by decide) (by decide +kernel)), rfl⟩
theorem eL_law_1060 : dc mL_law 1060 (.goto 2292) 3 1063 := ⟨d_goto (bL (p := 1060) (v := 167) (by decide) (by decide +kernel)) (bL (p := 1061) (v := 8) (by decide) (by decide +kernel)) (bL (p := 1062) (v := 244) (by decide) (by decide +kernel)) (by decide +kernel), rfl⟩
theorem eL_law_1063 : dc mL_law 1063 (.aload_n 1) 1 1064 := ⟨d_aload_1 (bL (p := 1063) (v := 43) (by decide) (by decide +kernel)), rfl⟩
theorem eL_law_1064 : dc mL_law 1064 (.aload_n 0) 1 1065 := ⟨d_aload_0 (bL (p := 1064) (v := 42) (by decide) (by decide +kernel)), rfl⟩
theorem eL_law_1065 : dc mL_law 1065 (.iload 4) 2 1067 := ⟨d_iload (bL (p := 1065) (v := 21) (by decide) (by decide +kernel)) (bL (p := 1066) (v := 4) (by decide) (by decide +kernel)), rfl⟩
theorem eL_law_1067 : dc mL_law 1067 (.iconst 1) 1 1068 := ⟨d_iconst_1 (bL (p := 1067) (v := 4) (by decide) (by decide +kernel)), rfl⟩
theorem eL_law_1068 : dc mL_law 1068 (.iadd) 1 1069 := ⟨d_iadd (bL (p := 1068) (v := 96) (by decide) (by decide +kernel)), rfl⟩
theorem eL_law_1069 : dc mL_law 1069 (.iaload) 1 1070 := ⟨d_iaload (bL (p := 1069) (v := 46) (by decide) (by decide +kernel)), rfl⟩
theorem eL_law_1070 : dc mL_law 1070 (.aload_n 0) 1 1071 := ⟨d_aload_0 (bL (p := 1070) (v := 42) (by decide) (by decide +kernel)), rfl⟩
theorem eL_law_1071 : dc mL_law 1071 (.iload 4) 2 1073 := ⟨d_iload (bL (p := 1071) (v := 21) (by decide) (by decide +kernel)) (bL (p := 1072) (v := 4) (by decide) (by decide +kernel)), rfl⟩
theorem eL_law_1073 : dc mL_law 1073 (.iconst 2) 1 1074 := ⟨d_iconst_2 (bL (p := 1073) (v := 5) (by decide) (by decide +kernel)), rfl⟩
theorem eL_law_1074 : dc mL_law 1074 (.iadd) 1 1075 := ⟨d_iadd (bL (p := 1074) (v := 96) (by decide) (by decide +kernel)), rfl⟩
theorem eL_law_1075 : dc mL_law 1075 (.iaload) 1 1076 := ⟨d_iaload (bL (p := 1075) (v := 46) (by decide) (by decide +kernel)), rfl⟩
theorem eL_law_1076 : dc mL_law 1076 (.aload_n 0) 1 1077 := ⟨d_aload_0 (bL (p := 1076) (v := 42) (by decide) (by decide +kernel)), rfl⟩
theorem eL_law_1077 : dc mL_law 1077 (.iload 4) 2 1079 := ⟨d_iload (bL (p := 1077) (v := 21) (by decide) (by decide +kernel)) (bL (p := 1078) (v := 4) (by decide) (by decide +kernel)), rfl⟩
theorem eL_law_1079 : dc mL_law 1079 (.iconst 3) 1 1080 := ⟨d_iconst_3 (bL (p := 1079) (v := 6) (by decide) (by decide +kernel)), rfl⟩
theorem eL_law_1080 : dc mL_law 1080 (.iadd) 1 1081 := ⟨d_iadd (bL (p := 1080) (v := 96) (by decide) (by decide +kernel)), rfl⟩
theorem eL_law_1081 : dc mL_law 1081 (.iaload) 1 1082 := ⟨d_iaload (bL (p := 1081) (v := 46) (by decide) (by decide +kernel)), rfl⟩
theorem eL_law_1082 : dc mL_law 1082 (.aload_n 0) 1 1083 := ⟨d_aload_0 (bL (p := 1082) (v := 42) (by decide) (by decide +kernel)), rfl⟩
theorem eL_law_1083 : dc mL_law 1083 (.iload 4) 2 1085 := ⟨d_iload (bL (p := 1083) (v := 21) (by decide) (by decide +kernel)) (bL (p := 1084) (v := 4) (by decide) (by decide +kernel)), rfl⟩
theorem eL_law_1085 : dc mL_law 1085 (.iconst 4) 1 1086 := ⟨d_iconst_4 (bL (p := 1085) (v := 7) (by decide) (by decide +kernel)), rfl⟩
theorem eL_law_1086 : dc mL_law 1086 (.iadd) 1 1087 := ⟨d_iadd (bL (p := 1086) (v := 96) (by decide) (by decide +kernel)), rfl⟩
theorem eL_law_1087 : dc mL_law 1087 (.iaload) 1 1088 := ⟨d_iaload (bL (p := 1087) (v := 46) (by decide) (by decide +kernel)), rfl⟩
theorem eL_law_1088 : dc mL_law 1088 (.aload_n 0) 1 1089 := ⟨d_aload_0 (bL (p := 1088) (v := 42) (by decide) (by decide +kernel)), rfl⟩
theorem eL_law_1089 : dc mL_law 1089 (.iload 4) 2 1091 := ⟨d_iload (bL (p := 1089) (v := 21) (by decide) (by decide +kernel)) (bL (p := 1090) (v := 4) (by decide) (by decide +kernel)), rfl⟩
theorem eL_law_1091 : dc mL_law 1091 (.iconst 5) 1 1092 := ⟨d_iconst_5 (bL (p := 1091) (v := 8) (by decide) (by decide +kernel)), rfl⟩
theorem eL_law_1092 : dc mL_law 1092 (.iadd) 1 1093 := ⟨d_iadd (bL (p := 1092) (v := 96) (by decide) (by decide +kernel)), rfl⟩
theorem eL_law_1093 : dc mL_law 1093 (.iaload) 1 1094 := ⟨d_iaload (bL (p := 1093) (v := 46) (by decide) (by decide +kernel)), rfl⟩
theorem eL_law_1094 : dc mL_law 1094 (.ifCond .eq 7) 3 1097 := ⟨d_ifCond_eq (bL (p := 1094) (v := 153) (by decide) (by decide +kernel)) (bL (p := 1095) (v := 0) (by decide) (by decide +kernel)) (bL (p := 1096) (v := 7) (by decide) (by decide +kernel)) (by decide +kernel), rfl⟩
theorem eL_law_1097 : dc mL_law 1097 (.iconst 1) 1 1098 := ⟨d_iconst_1 (bL (p := 1097) (v := 4) (by decide) (by decide +kernel)), rfl⟩
theorem eL_law_1098 : dc mL_law 1098 (.goto 4) 3 1101 := ⟨d_goto (bL (p := 1098) (v := 167) (by decide) (by decide +kernel)) (bL (p := 1099) (v := 0) (by decide) (by decide +kernel)) (bL (p := 1100) (v := 4) (by decide) (by decide +kernel)) (by decide +kernel), rfl⟩
theorem eL_law_1101 : dc mL_law 1101 (.iconst 0) 1 1102 := ⟨d_iconst_0 (bL (p := 1101) (v := 3) (by decide) (by decide +kernel)), rfl⟩
theorem eL_law_1102 : dc mL_law 1102 (.aload_n 3) 1 1103 := ⟨d_aload_3 (bL (p := 1102) (v := 45) (by decide) (by decide +kernel)), rfl⟩
theorem eL_law_1103 : dc mL_law 1103 (.invokestatic 178) 3 1106 := ⟨d_invokestatic (bL (p := 1103) (v := 184) (by decide) (by decide +kernel)) (bL (p := 1104) (v := 0) (by decide) (by decide +kernel)) (bL (p := 1105) (v := 178) (by decide) (by decide +kernel)) (by decide), rfl⟩
theorem eL_law_1106 : dc mL_law 1106 (.istore 5) 2 1108 := ⟨d_istore (bL (p := 1106) (v := 54) (by decide) (by decide +kernel)) (bL (p := 1107) (v := 5) (by decide) (by decide +kernel)), rfl⟩
theorem eL_law_1108 : dc mL_law 1108 (.aload_n 2) 1 1109 := ⟨d_aload_2 (bL (p := 1108) (v := 44) (by decide) (by decide +kernel)), rfl⟩
theorem eL_law_1109 : dc mL_law 1109 (.aload_n 0) 1 1110 := ⟨d_aload_0 (bL (p := 1109) (v := 42) (by decide) (by decide +kernel)), rfl⟩
theorem eL_law_1110 : dc mL_law 1110 (.iload 4) 2 1112 := ⟨d_iload (bL (p := 1110) (v := 21) (by decide) (by decide +kernel)) (bL (p := 1111) (v := 4) (by decide) (by decide +kernel)), rfl⟩
theorem eL_law_1112 : dc mL_law 1112 (.iconst 1) 1 1113 := ⟨d_iconst_1 (bL (p := 1112) (v := 4) (by decide) (by decide +kernel)), rfl⟩
theorem eL_law_1113 : dc mL_law 1113 (.iadd) 1 1114 := ⟨d_iadd (bL (p := 1113) (v := 96) (by decide) (by decide +kernel)), rfl⟩
theorem eL_law_1114 : dc mL_law 1114 (.iaload) 1 1115 := ⟨d_iaload (bL (p := 1114) (v := 46) (by decide) (by decide +kernel)), rfl⟩
theorem eL_law_1115 : dc mL_law 1115 (.aload_n 0) 1 1116 := ⟨d_aload_0 (bL (p := 1115) (v := 42) (by decide) (by decide +kernel)), rfl⟩
theorem eL_law_1116 : dc mL_law 1116 (.iload 4) 2 1118 := ⟨d_iload (bL (p := 1116) (v := 21) (by decide) (by decide +kernel)) (bL (p := 1117) (v := 4) (by decide) (by decide +kernel)), rfl⟩
theorem eL_law_1118 : dc mL_law 1118 (.iconst 2) 1 1119 := ⟨d_iconst_2 (bL (p := 1118) (v := 5) (by decide) (by decide +kernel)), rfl⟩
theorem eL_law_1119 : dc mL_law 1119 (.iadd) 1 1120 := ⟨d_iadd (bL (p := 1119) (v := 96) (by decide) (by decide +kernel)), rfl⟩
theorem eL_law_1120 : dc mL_law 1120 (.iaload) 1 1121 := ⟨d_iaload (bL (p := 1120) (v := 46) (by decide) (by decide +kernel)), rfl⟩
theorem eL_law_1121 : dc mL_law 1121 (.aload_n 0) 1 1122 := ⟨d_aload_0 (bL (p := 1121) (v := 42) (by decide) (by decide +kernel)), rfl⟩
theorem eL_law_1122 : dc mL_law 1122 (.iload 4) 2 1124 := ⟨d_iload (bL (p := 1122) (v := 21) (by decide) (by decide +kernel)) (bL (p := 1123) (v := 4) (by decide) (by decide +kernel)), rfl⟩
theorem eL_law_1124 : dc mL_law 1124 (.iconst 3) 1 1125 := ⟨d_iconst_3 (bL (p := 1124) (v := 6) (by decide) (by decide +kernel)), rfl⟩
theorem eL_law_1125 : dc mL_law 1125 (.iadd) 1 1126 := ⟨d_iadd (bL (p := 1125) (v := 96) (by decide) (by decide +kernel)), rfl⟩
theorem eL_law_1126 : dc mL_law 1126 (.iaload) 1 1127 := ⟨d_iaload (bL (p := 1126) (v := 46) (by decide) (by decide +kernel)), rfl⟩
theorem eL_law_1127 : dc mL_law 1127 (.aload_n 0) 1 1128 := ⟨d_aload_0 (bL (p := 1127) (v := 42) (by decide) (by decide +kernel)), rfl⟩
theorem eL_law_1128 : dc mL_law 1128 (.iload 4) 2 1130 := ⟨d_iload (bL (p := 1128) (v := 21) (by decide) (by decide +kernel)) (bL (p := 1129) (v := 4) (by decide) (by decide +kernel)), rfl⟩
theorem eL_law_1130 : dc mL_law 1130 (.iconst 4) 1 1131 := ⟨d_iconst_4 (bL (p := 1130) (v := 7) (by decide) (by decide +kernel)), rfl⟩
theorem eL_law_1131 : dc mL_law 1131 (.iadd) 1 1132 := ⟨d_iadd (bL (p := 1131) (v := 96) (by decide) (by decide +kernel)), rfl⟩
theorem eL_law_1132 : dc mL_law 1132 (.iaload) 1 1133 := ⟨d_iaload (bL (p := 1132) (v := 46) (by decide) (by decide +kernel)), rfl⟩
theorem eL_law_1133 : dc mL_law 1133 (.aload_n 0) 1 1134 := ⟨d_aload_0 (bL (p := 1133) (v := 42) (by decide) (by decide +kernel)), rfl⟩
theorem eL_law_1134 : dc mL_law 1134 (.iload 4) 2 1136 := ⟨d_iload (bL (p := 1134) (v := 21) (by decide) (by decide +kernel)) (bL (p := 1135) (v := 4) (by decide) (by decide +kernel)), rfl⟩
theorem eL_law_1136 : dc mL_law 1136 (.iconst 5) 1 1137 := ⟨d_iconst_5 (bL (p := 1136) (v := 8) (by decide) (by decide +kernel)), rfl⟩
theorem eL_law_1137 : dc mL_law 1137 (.iadd) 1 1138 := ⟨d_iadd (bL (p := 1137) (v := 96) (by decide) (by decide +kernel)), rfl⟩
theorem eL_law_1138 : dc mL_law 1138 (.iaload) 1 1139 := ⟨d_iaload (bL (p := 1138) (v := 46) (by decide) (by decide +kernel)), rfl⟩
theorem eL_law_1139 : dc mL_law 1139 (.ifCond .eq 7) 3 1142 := ⟨d_ifCond_eq (bL (p := 1139) (v := 153) (by decide) (by decide +kernel)) (bL (p := 1140) (v := 0) (by decide) (by decide +kernel)) (bL (p := 1141) (v := 7) (by decide) (by decide +kernel)) (by decide +kernel), rfl⟩
theorem eL_law_1142 : dc mL_law 1142 (.iconst 1) 1 1143 := ⟨d_iconst_1 (bL (p := 1142) (v := 4) (by decide) (by decide +kernel)), rfl⟩
theorem eL_law_1143 : dc mL_law 1143 (.goto 4) 3 1146 := ⟨d_goto (bL (p := 1143) (v := 167) (by decide) (by decide +kernel)) (bL (p := 1144) (v := 0) (by decide) (by decide +kernel)) (bL (p := 1145) (v := 4) (by decide) (by decide +kernel)) (by decide +kernel), rfl⟩
theorem eL_law_1146 : dc mL_law 1146 (.iconst 0) 1 1147 := ⟨d_iconst_0 (bL (p := 1146) (v := 3) (by decide) (by decide +kernel)), rfl⟩
theorem eL_law_1147 : dc mL_law 1147 (.invokevirtual 181) 3 1150 := ⟨d_invokevirtual (bL (p := 1147) (v := 182) (by decide) (by decide +kernel)) (bL (p := 1148) (v := 0) (by decide) (by decide +kernel)) (bL (p := 1149) (v := 181) (by decide) (by decide +kernel)) (by decide), rfl⟩
theorem eL_law_1150 : dc mL_law 1150 (.istore 6) 2 1152 := ⟨d_istore (bL (p := 1150) (v := 54) (by decide) (by decide +kernel)) (bL (p := 1151) (v := 6) (by decide) (by decide +kernel)), rfl⟩
theorem eL_law_1152 : dc mL_law 1152 (.aload_n 2) 1 1153 := ⟨d_aload_2 (bL (p := 1152) (v := 44) (by decide) (by decide +kernel)), rfl⟩
theorem eL_law_1153 : dc mL_law 1153 (.invokevirtual 141) 3 1156 := ⟨d_invokevirtual (bL (p := 1153) (v := 182) (by decide) (by decide +kernel)) (bL (p := 1154) (v := 0) (by decide) (by decide +kernel)) (bL (p := 1155) (v := 141) (by decide) (by decide +kernel)) (by decide), rfl⟩
theorem eL_law_1156 : dc mL_law 1156 (.iload 5) 2 1158 := ⟨d_iload (bL (p := 1156) (v := 21) (by decide) (by decide +kernel)) (bL (p := 1157) (v := 5) (by decide) (by decide +kernel)), rfl⟩
theorem eL_law_1158 : dc mL_law 1158 (.if_icmp .eq 5) 3 1161 := ⟨d_if_icmp_eq (bL (p := 1158) (v := 159) (by decide) (by decide +kernel)) (bL (p := 1159) (v := 0) (by decide) (by decide +kernel)) (bL (p := 1160) (v := 5) (by decide) (by decide +kernel)) (by decide +kernel), rfl⟩
theorem eL_law_1161 : dc mL_law 1161 (.iconst 0) 1 1162 := ⟨d_iconst_0 (bL (p := 1161) (v := 3) (by decide) (by decide +kernel)), rfl⟩
theorem eL_law_1162 : dc mL_law 1162 (.ireturn) 1 1163 := ⟨d_ireturn (bL (p := 1162) (v := 172) (by decide) (by decide +kernel)), rfl⟩
theorem eL_law_1163 : dc mL_law 1163 (.iload 5) 2 1165 := ⟨d_iload (bL (p := 1163) (v := 21) (by decide) (by decide +kernel)) (bL (p := 1164) (v := 5) (by decide) (by decide +kernel)), rfl⟩
theorem eL_law_1165 : dc mL_law 1165 (.ifCond .ne 22) 3 1168 := ⟨d_ifCond_ne (bL (p := 1165) (v := 154) (by decide) (by decide +kernel)) (bL (p := 1166) (v := 0) (by decide) (by decide +kernel)) (bL (p := 1167) (v := 22) (by decide) (by decide +kernel)) (by decide +kernel), rfl⟩
theorem eL_law_1168 : dc mL_law 1168 (.aload_n 3) 1 1169 := ⟨d_aload_3 (bL (p := 1168) (v := 45) (by decide) (by decide +kernel)), rfl⟩
theorem eL_law_1169 : dc mL_law 1169 (.iconst 0) 1 1170 := ⟨d_iconst_0 (bL (p := 1169) (v := 3) (by decide) (by decide +kernel)), rfl⟩
theorem eL_law_1170 : dc mL_law 1170 (.laload) 1 1171 := ⟨d_laload (bL (p := 1170) (v := 47) (by decide) (by decide +kernel)), rfl⟩
theorem eL_law_1171 : dc mL_law 1171 (.iload 6) 2 1173 := ⟨d_iload (bL (p := 1171) (v := 21) (by decide) (by decide +kernel)) (bL (p := 1172) (v := 6) (by decide) (by decide +kernel)), rfl⟩
theorem eL_law_1173 : dc mL_law 1173 (.ifCond .eq 7) 3 1176 := ⟨d_ifCond_eq (bL (p := 1173) (v := 153) (by decide) (by decide +kernel)) (bL (p := 1174) (v := 0) (by decide) (by decide +kernel)) (bL (p := 1175) (v := 7) (by decide) (by decide +kernel)) (by decide +kernel), rfl⟩
theorem eL_law_1176 : dc mL_law 1176 (.lconst 1) 1 1177 := ⟨d_lconst_1 (bL (p := 1176) (v := 10) (by decide) (by decide +kernel)), rfl⟩
theorem eL_law_1177 : dc mL_law 1177 (.goto 4) 3 1180 := ⟨d_goto (bL (p := 1177) (v := 167) (by decide) (by decide +kernel)) (bL (p := 1178) (v := 0) (by decide) (by decide +kernel)) (bL (p := 1179) (v := 4) (by decide) (by decide +kernel)) (by decide +kernel), rfl⟩
theorem eL_law_1180 : dc mL_law 1180 (.lconst 0) 1 1181 := ⟨d_lconst_0 (bL (p := 1180) (v := 9) (by decide) (by decide +kernel)), rfl⟩
theorem eL_law_1181 : dc mL_law 1181 (.lcmp) 1 1182 := ⟨d_lcmp (bL (p := 1181) (v := 148) (by decide) (by decide +kernel)), rfl⟩
theorem eL_law_1182 : dc mL_law 1182 (.ifCond .eq 5) 3 1185 := ⟨d_ifCond_eq (bL (p := 1182) (v := 153) (by decide) (by decide +kernel)) (bL (p := 1183) (v := 0) (by decide) (by decide +kernel)) (bL (p := 1184) (v := 5) (by decide) (by decide +kernel)) (by decide +kernel), rfl⟩
theorem eL_law_1185 : dc mL_law 1185 (.iconst 0) 1 1186 := ⟨d_iconst_0 (bL (p := 1185) (v := 3) (by decide) (by decide +kernel)), rfl⟩
theorem eL_law_1186 : dc mL_law 1186 (.ireturn) 1 1187 := ⟨d_ireturn (bL (p := 1186) (v := 172) (by decide) (by decide +kernel)), rfl⟩
theorem eL_law_1187 : dc mL_law 1187 (.goto 2165) 3 1190 := ⟨d_goto (bL (p := 1187) (v := 167) (by decide) (by decide +kernel)) (bL (p := 1188) (v := 8) (by decide) (by decide +kernel)) (bL (p := 1189) (v := 117) (by decide) (by decide +kernel)) (by decide +kernel), rfl⟩
theorem eL_law_1190 : dc mL_law 1190 (.aload_n 1) 1 1191 := ⟨d_aload_1 (bL (p := 1190) (v := 43) (by decide) (by decide +kernel)), rfl⟩
theorem eL_law_1191 : dc mL_law 1191 (.aload_n 0) 1 1192 := ⟨d_aload_0 (bL (p := 1191) (v := 42) (by decide) (by decide +kernel)), rfl⟩
theorem eL_law_1192 : dc mL_law 1192 (.iload 4) 2 1194 := ⟨d_iload (bL (p := 1192) (v := 21) (by decide) (by decide +kernel)) (bL (p := 1193) (v := 4) (by decide) (by decide +kernel)), rfl⟩
theorem eL_law_1194 : dc mL_law 1194 (.iconst 1) 1 1195 := ⟨d_iconst_1 (bL (p := 1194) (v := 4) (by decide) (by decide +kernel)), rfl⟩
theorem eL_law_1195 : dc mL_law 1195 (.iadd) 1 1196 := ⟨d_iadd (bL (p := 1195) (v := 96) (by decide) (by decide +kernel)), rfl⟩
theorem eL_law_1196 : dc mL_law 1196 (.iaload) 1 1197 := ⟨d_iaload (bL (p := 1196) (v := 46) (by decide) (by decide +kernel)), rfl⟩
theorem eL_law_1197 : dc mL_law 1197 (.aload_n 0) 1 1198 := ⟨d_aload_0 (bL (p := 1197) (v := 42) (by decide) (by decide +kernel)), rfl⟩
theorem eL_law_1198 : dc mL_law 1198 (.iload 4) 2 1200 := ⟨d_iload (bL (p := 1198) (v := 21) (by decide) (by decide +kernel)) (bL (p := 1199) (v := 4) (by decide) (by decide +kernel)), rfl⟩
theorem eL_law_1200 : dc mL_law 1200 (.iconst 2) 1 1201 := ⟨d_iconst_2 (bL (p := 1200) (v := 5) (by decide) (by decide +kernel)), rfl⟩
theorem eL_law_1201 : dc mL_law 1201 (.iadd) 1 1202 := ⟨d_iadd (bL (p := 1201) (v := 96) (by decide) (by decide +kernel)), rfl⟩
theorem eL_law_1202 : dc mL_law 1202 (.iaload) 1 1203 := ⟨d_iaload (bL (p := 1202) (v := 46) (by decide) (by decide +kernel)), rfl⟩
theorem eL_law_1203 : dc mL_law 1203 (.aload_n 0) 1 1204 := ⟨d_aload_0 (bL (p := 1203) (v := 42) (by decide) (by decide +kernel)), rfl⟩
theorem eL_law_1204 : dc mL_law 1204 (.iload 4) 2 1206 := ⟨d_iload (bL (p := 1204) (v := 21) (by decide) (by decide +kernel)) (bL (p := 1205) (v := 4) (by decide) (by decide +kernel)), rfl⟩
theorem eL_law_1206 : dc mL_law 1206 (.iconst 3) 1 1207 := ⟨d_iconst_3 (bL (p := 1206) (v := 6) (by decide) (by decide +kernel)), rfl⟩
theorem eL_law_1207 : dc mL_law 1207 (.iadd) 1 1208 := ⟨d_iadd (bL (p := 1207) (v := 96) (by decide) (by decide +kernel)), rfl⟩
theorem eL_law_1208 : dc mL_law 1208 (.iaload) 1 1209 := ⟨d_iaload (bL (p := 1208) (v := 46) (by decide) (by decide +kernel)), rfl⟩
theorem eL_law_1209 : dc mL_law 1209 (.aload_n 0) 1 1210 := ⟨d_aload_0 (bL (p := 1209) (v := 42) (by decide) (by decide +kernel)), rfl⟩
theorem eL_law_1210 : dc mL_law 1210 (.iload 4) 2 1212 := ⟨d_iload (bL (p := 1210) (v := 21) (by decide) (by decide +kernel)) (bL (p := 1211) (v := 4) (by decide) (by decide +kernel)), rfl⟩
theorem eL_law_1212 : dc mL_law 1212 (.iconst 4) 1 1213 := ⟨d_iconst_4 (bL (p := 1212) (v := 7) (by decide) (by decide +kernel)), rfl⟩
theorem eL_law_1213 : dc mL_law 1213 (.iadd) 1 1214 := ⟨d_iadd (bL (p := 1213) (v := 96) (by decide) (by decide +kernel)), rfl⟩
theorem eL_law_1214 : dc mL_law 1214 (.iaload) 1 1215 := ⟨d_iaload (bL (p := 1214) (v := 46) (by decide) (by decide +kernel)), rfl⟩
theorem eL_law_1215 : dc mL_law 1215 (.aload_n 3) 1 1216 := ⟨d_aload_3 (bL (p := 1215) (v := 45) (by decide) (by decide +kernel)), rfl⟩
theorem eL_law_1216 : dc mL_law 1216 (.invokestatic 182) 3 1219 := ⟨d_invokestatic (bL (p := 1216) (v := 184) (by decide) (by decide +kernel)) (bL (p := 1217) (v := 0) (by decide) (by decide +kernel)) (bL (p := 1218) (v := 182) (by decide) (by decide +kernel)) (by decide), rfl⟩
theorem eL_law_1219 : dc mL_law 1219 (.istore 5) 2 1221 := ⟨d_istore (bL (p := 1219) (v := 54) (by decide) (by decide +kernel)) (bL (p := 1220) (v := 5) (by decide) (by decide +kernel)), rfl⟩
theorem eL_law_1221 : dc mL_law 1221 (.aload_n 2) 1 1222 := ⟨d_aload_2 (bL (p := 1221) (v := 44) (by decide) (by decide +kernel)), rfl⟩
theorem eL_law_1222 : dc mL_law 1222 (.aload_n 0) 1 1223 := ⟨d_aload_0 (bL (p := 1222) (v := 42) (by decide) (by decide +kernel)), rfl⟩
theorem eL_law_1223 : dc mL_law 1223 (.iload 4) 2 1225 := ⟨d_iload (bL (p := 1223) (v := 21) (by decide) (by decide +kernel)) (bL (p := 1224) (v := 4) (by decide) (by decide +kernel)), rfl⟩
theorem eL_law_1225 : dc mL_law 1225 (.iconst 1) 1 1226 := ⟨d_iconst_1 (bL (p := 1225) (v := 4) (by decide) (by decide +kernel)), rfl⟩
theorem eL_law_1226 : dc mL_law 1226 (.iadd) 1 1227 := ⟨d_iadd (bL (p := 1226) (v := 96) (by decide) (by decide +kernel)), rfl⟩
theorem eL_law_1227 : dc mL_law 1227 (.iaload) 1 1228 := ⟨d_iaload (bL (p := 1227) (v := 46) (by decide) (by decide +kernel)), rfl⟩
theorem eL_law_1228 : dc mL_law 1228 (.aload_n 0) 1 1229 := ⟨d_aload_0 (bL (p := 1228) (v := 42) (by decide) (by decide +kernel)), rfl⟩
theorem eL_law_1229 : dc mL_law 1229 (.iload 4) 2 1231 := ⟨d_iload (bL (p := 1229) (v := 21) (by decide) (by decide +kernel)) (bL (p := 1230) (v := 4) (by decide) (by decide +kernel)), rfl⟩
theorem eL_law_1231 : dc mL_law 1231 (.iconst 2) 1 1232 := ⟨d_iconst_2 (bL (p := 1231) (v := 5) (by decide) (by decide +kernel)), rfl⟩
theorem eL_law_1232 : dc mL_law 1232 (.iadd) 1 1233 := ⟨d_iadd (bL (p := 1232) (v := 96) (by decide) (by decide +kernel)), rfl⟩
theorem eL_law_1233 : dc mL_law 1233 (.iaload) 1 1234 := ⟨d_iaload (bL (p := 1233) (v := 46) (by decide) (by decide +kernel)), rfl⟩
theorem eL_law_1234 : dc mL_law 1234 (.aload_n 0) 1 1235 := ⟨d_aload_0 (bL (p := 1234) (v := 42) (by decide) (by decide +kernel)), rfl⟩
theorem eL_law_1235 : dc mL_law 1235 (.iload 4) 2 1237 := ⟨d_iload (bL (p := 1235) (v := 21) (by decide) (by decide +kernel)) (bL (p := 1236) (v := 4) (by decide) (by decide +kernel)), rfl⟩
theorem eL_law_1237 : dc mL_law 1237 (.iconst 3) 1 1238 := ⟨d_iconst_3 (bL (p := 1237) (v := 6) (by decide) (by decide +kernel)), rfl⟩
theorem eL_law_1238 : dc mL_law 1238 (.iadd) 1 1239 := ⟨d_iadd (bL (p := 1238) (v := 96) (by decide) (by decide +kernel)), rfl⟩
theorem eL_law_1239 : dc mL_law 1239 (.iaload) 1 1240 := ⟨d_iaload (bL (p := 1239) (v := 46) (by decide) (by decide +kernel)), rfl⟩
theorem eL_law_1240 : dc mL_law 1240 (.aload_n 0) 1 1241 := ⟨d_aload_0 (bL (p := 1240) (v := 42) (by decide) (by decide +kernel)), rfl⟩
theorem eL_law_1241 : dc mL_law 1241 (.iload 4) 2 1243 := ⟨d_iload (bL (p := 1241) (v := 21) (by decide) (by decide +kernel)) (bL (p := 1242) (v := 4) (by decide) (by decide +kernel)), rfl⟩
theorem eL_law_1243 : dc mL_law 1243 (.iconst 4) 1 1244 := ⟨d_iconst_4 (bL (p := 1243) (v := 7) (by decide) (by decide +kernel)), rfl⟩
theorem eL_law_1244 : dc mL_law 1244 (.iadd) 1 1245 := ⟨d_iadd (bL (p := 1244) (v := 96) (by decide) (by decide +kernel)), rfl⟩
theorem eL_law_1245 : dc mL_law 1245 (.iaload) 1 1246 := ⟨d_iaload (bL (p := 1245) (v := 46) (by decide) (by decide +kernel)), rfl⟩
theorem eL_law_1246 : dc mL_law 1246 (.invokevirtual 185) 3 1249 := ⟨d_invokevirtual (bL (p := 1246) (v := 182) (by decide) (by decide +kernel)) (bL (p := 1247) (v := 0) (by decide) (by decide +kernel)) (bL (p := 1248) (v := 185) (by decide) (by decide +kernel)) (by decide), rfl⟩
theorem eL_law_1249 : dc mL_law 1249 (.istore 6) 2 1251 := ⟨d_istore (bL (p := 1249) (v := 54) (by decide) (by decide +kernel)) (bL (p := 1250) (v := 6) (by decide) (by decide +kernel)), rfl⟩
theorem eL_law_1251 : dc mL_law 1251 (.aload_n 2) 1 1252 := ⟨d_aload_2 (bL (p := 1251) (v := 44) (by decide) (by decide +kernel)), rfl⟩
theorem eL_law_1252 : dc mL_law 1252 (.invokevirtual 141) 3 1255 := ⟨d_invokevirtual (bL (p := 1252) (v := 182) (by decide) (by decide +kernel)) (bL (p := 1253) (v := 0) (by decide) (by decide +kernel)) (bL (p := 1254) (v := 141) (by decide) (by decide +kernel)) (by decide), rfl⟩
theorem eL_law_1255 : dc mL_law 1255 (.iload 5) 2 1257 := ⟨d_iload (bL (p := 1255) (v := 21) (by decide) (by decide +kernel)) (bL (p := 1256) (v := 5) (by decide) (by decide +kernel)), rfl⟩
theorem eL_law_1257 : dc mL_law 1257 (.if_icmp .eq 5) 3 1260 := ⟨d_if_icmp_eq (bL (p := 1257) (v := 159) (by decide) (by decide +kernel)) (bL (p := 1258) (v := 0) (by decide) (by decide +kernel)) (bL (p := 1259) (v := 5) (by decide) (by decide +kernel)) (by decide +kernel), rfl⟩
theorem eL_law_1260 : dc mL_law 1260 (.iconst 0) 1 1261 := ⟨d_iconst_0 (bL (p := 1260) (v := 3) (by decide) (by decide +kernel)), rfl⟩
theorem eL_law_1261 : dc mL_law 1261 (.ireturn) 1 1262 := ⟨d_ireturn (bL (p := 1261) (v := 172) (by decide) (by decide +kernel)), rfl⟩
theorem eL_law_1262 : dc mL_law 1262 (.iload 5) 2 1264 := ⟨d_iload (bL (p := 1262) (v := 21) (by decide) (by decide +kernel)) (bL (p := 1263) (v := 5) (by decide) (by decide +kernel)), rfl⟩
theorem eL_law_1264 : dc mL_law 1264 (.ifCond .ne 15) 3 1267 := ⟨d_ifCond_ne (bL (p := 1264) (v := 154) (by decide) (by decide +kernel)) (bL (p := 1265) (v := 0) (by decide) (by decide +kernel)) (bL (p := 1266) (v := 15) (by decide) (by decide +kernel)) (by decide +kernel), rfl⟩
theorem eL_law_1267 : dc mL_law 1267 (.aload_n 3) 1 1268 := ⟨d_aload_3 (bL (p := 1267) (v := 45) (by decide) (by decide +kernel)), rfl⟩
theorem eL_law_1268 : dc mL_law 1268 (.iconst 0) 1 1269 := ⟨d_iconst_0 (bL (p := 1268) (v := 3) (by decide) (by decide +kernel)), rfl⟩
theorem eL_law_1269 : dc mL_law 1269 (.laload) 1 1270 := ⟨d_laload (bL (p := 1269) (v := 47) (by decide) (by decide +kernel)), rfl⟩
theorem eL_law_1270 : dc mL_law 1270 (.iload 6) 2 1272 := ⟨d_iload (bL (p := 1270) (v := 21) (by decide) (by decide +kernel)) (bL (p := 1271) (v := 6) (by decide) (by decide +kernel)), rfl⟩
theorem eL_law_1272 : dc mL_law 1272 (.i2l) 1 1273 := ⟨d_i2l (bL (p := 1272) (v := 133) (by decide) (by decide +kernel)), rfl⟩
theorem eL_law_1273 : dc mL_law 1273 (.lcmp) 1 1274 := ⟨d_lcmp (bL (p := 1273) (v := 148) (by decide) (by decide +kernel)), rfl⟩
theorem eL_law_1274 : dc mL_law 1274 (.ifCond .eq 5) 3 1277 := ⟨d_ifCond_eq (bL (p := 1274) (v := 153) (by decide) (by decide +kernel)) (bL (p := 1275) (v := 0) (by decide) (by decide +kernel)) (bL (p := 1276) (v := 5) (by decide) (by decide +kernel)) (by decide +kernel), rfl⟩
theorem eL_law_1277 : dc mL_law 1277 (.iconst 0) 1 1278 := ⟨d_iconst_0 (bL (p := 1277) (v := 3) (by decide) (by decide +kernel)), rfl⟩
theorem eL_law_1278 : dc mL_law 1278 (.ireturn) 1 1279 := ⟨d_ireturn (bL (p := 1278) (v := 172) (by decide) (by decide +kernel)), rfl⟩
theorem eL_law_1279 : dc mL_law 1279 (.goto 2073) 3 1282 := ⟨d_goto (bL (p := 1279) (v := 167) (by decide) (by decide +kernel)) (bL (p := 1280) (v := 8) (by decide) (by decide +kernel)) (bL (p := 1281) (v := 25) (by decide) (by decide +kernel)) (by decide +kernel), rfl⟩
theorem eL_law_1282 : dc mL_law 1282 (.aload_n 1) 1 1283 := ⟨d_aload_1 (bL (p := 1282) (v := 43) (by decide) (by decide +kernel)), rfl⟩
theorem eL_law_1283 : dc mL_law 1283 (.aload_n 0) 1 1284 := ⟨d_aload_0 (bL (p := 1283) (v := 42) (by decide) (by decide +kernel)), rfl⟩
theorem eL_law_1284 : dc mL_law 1284 (.iload 4) 2 1286 := ⟨d_iload (bL (p := 1284) (v := 21) (by decide) (by decide +kernel)) (bL (p := 1285) (v := 4) (by decide) (by decide +kernel)), rfl⟩
theorem eL_law_1286 : dc mL_law 1286 (.iconst 1) 1 1287 := ⟨d_iconst_1 (bL (p := 1286) (v := 4) (by decide) (by decide +kernel)), rfl⟩
theorem eL_law_1287 : dc mL_law 1287 (.iadd) 1 1288 := ⟨d_iadd (bL (p := 1287) (v := 96) (by decide) (by decide +kernel)), rfl⟩
theorem eL_law_1288 : dc mL_law 1288 (.iaload) 1 1289 := ⟨d_iaload (bL (p := 1288) (v := 46) (by decide) (by decide +kernel)), rfl⟩
theorem eL_law_1289 : dc mL_law 1289 (.aload_n 0) 1 1290 := ⟨d_aload_0 (bL (p := 1289) (v := 42) (by decide) (by decide +kernel)), rfl⟩
theorem eL_law_1290 : dc mL_law 1290 (.iload 4) 2 1292 := ⟨d_iload (bL (p := 1290) (v := 21) (by decide) (by decide +kernel)) (bL (p := 1291) (v := 4) (by decide) (by decide +kernel)), rfl⟩
theorem eL_law_1292 : dc mL_law 1292 (.iconst 2) 1 1293 := ⟨d_iconst_2 (bL (p := 1292) (v := 5) (by decide) (by decide +kernel)), rfl⟩
theorem eL_law_1293 : dc mL_law 1293 (.iadd) 1 1294 := ⟨d_iadd (bL (p := 1293) (v := 96) (by decide) (by decide +kernel)), rfl⟩
theorem eL_law_1294 : dc mL_law 1294 (.iaload) 1 1295 := ⟨d_iaload (bL (p := 1294) (v := 46) (by decide) (by decide +kernel)), rfl⟩
theorem eL_law_1295 : dc mL_law 1295 (.aload_n 0) 1 1296 := ⟨d_aload_0 (bL (p := 1295) (v := 42) (by decide) (by decide +kernel)), rfl⟩
theorem eL_law_1296 : dc mL_law 1296 (.iload 4) 2 1298 := ⟨d_iload (bL (p := 1296) (v := 21) (by decide) (by decide +kernel)) (bL (p := 1297) (v := 4) (by decide) (by decide +kernel)), rfl⟩
theorem eL_law_1298 : dc mL_law 1298 (.iconst 3) 1 1299 := ⟨d_iconst_3 (bL (p := 1298) (v := 6) (by decide) (by decide +kernel)), rfl⟩
theorem eL_law_1299 : dc mL_law 1299 (.iadd) 1 1300 := ⟨d_iadd (bL (p := 1299) (v := 96) (by decide) (by decide +kernel)), rfl⟩
theorem eL_law_1300 : dc mL_law 1300 (.iaload) 1 1301 := ⟨d_iaload (bL (p := 1300) (v := 46) (by decide) (by decide +kernel)), rfl⟩
theorem eL_law_1301 : dc mL_law 1301 (.aload_n 0) 1 1302 := ⟨d_aload_0 (bL (p := 1301) (v := 42) (by decide) (by decide +kernel)), rfl⟩
theorem eL_law_1302 : dc mL_law 1302 (.iload 4) 2 1304 := ⟨d_iload (bL (p := 1302) (v := 21) (by decide) (by decide +kernel)) (bL (p := 1303) (v := 4) (by decide) (by decide +kernel)), rfl⟩
theorem eL_law_1304 : dc mL_law 1304 (.iconst 4) 1 1305 := ⟨d_iconst_4 (bL (p := 1304) (v := 7) (by decide) (by decide +kernel)), rfl⟩
theorem eL_law_1305 : dc mL_law 1305 (.iadd) 1 1306 := ⟨d_iadd (bL (p := 1305) (v := 96) (by decide) (by decide +kernel)), rfl⟩
theorem eL_law_1306 : dc mL_law 1306 (.iaload) 1 1307 := ⟨d_iaload (bL (p := 1306) (v := 46) (by decide) (by decide +kernel)), rfl⟩
theorem eL_law_1307 : dc mL_law 1307 (.aload_n 0) 1 1308 := ⟨d_aload_0 (bL (p := 1307) (v := 42) (by decide) (by decide +kernel)), rfl⟩
theorem eL_law_1308 : dc mL_law 1308 (.iload 4) 2 1310 := ⟨d_iload (bL (p := 1308) (v := 21) (by decide) (by decide +kernel)) (bL (p := 1309) (v := 4) (by decide) (by decide +kernel)), rfl⟩
theorem eL_law_1310 : dc mL_law 1310 (.iconst 5) 1 1311 := ⟨d_iconst_5 (bL (p := 1310) (v := 8) (by decide) (by decide +kernel)), rfl⟩
theorem eL_law_1311 : dc mL_law 1311 (.iadd) 1 1312 := ⟨d_iadd (bL (p := 1311) (v := 96) (by decide) (by decide +kernel)), rfl⟩
theorem eL_law_1312 : dc mL_law 1312 (.iaload) 1 1313 := ⟨d_iaload (bL (p := 1312) (v := 46) (by decide) (by decide +kernel)), rfl⟩
theorem eL_law_1313 : dc mL_law 1313 (.invokevirtual 186) 3 1316 := ⟨d_invokevirtual (bL (p := 1313) (v := 182) (by decide) (by decide +kernel)) (bL (p := 1314) (v := 0) (by decide) (by decide +kernel)) (bL (p := 1315) (v := 186) (by decide) (by decide +kernel)) (by decide), rfl⟩
theorem eL_law_1316 : dc mL_law 1316 (.aload_n 2) 1 1317 := ⟨d_aload_2 (bL (p := 1316) (v := 44) (by decide) (by decide +kernel)), rfl⟩
theorem eL_law_1317 : dc mL_law 1317 (.aload_n 0) 1 1318 := ⟨d_aload_0 (bL (p := 1317) (v := 42) (by decide) (by decide +kernel)), rfl⟩
theorem eL_law_1318 : dc mL_law 1318 (.iload 4) 2 1320 := ⟨d_iload (bL (p := 1318) (v := 21) (by decide) (by decide +kernel)) (bL (p := 1319) (v := 4) (by decide) (by decide +kernel)), rfl⟩
theorem eL_law_1320 : dc mL_law 1320 (.iconst 1) 1 1321 := ⟨d_iconst_1 (bL (p := 1320) (v := 4) (by decide) (by decide +kernel)), rfl⟩
theorem eL_law_1321 : dc mL_law 1321 (.iadd) 1 1322 := ⟨d_iadd (bL (p := 1321) (v := 96) (by decide) (by decide +kernel)), rfl⟩
theorem eL_law_1322 : dc mL_law 1322 (.iaload) 1 1323 := ⟨d_iaload (bL (p := 1322) (v := 46) (by decide) (by decide +kernel)), rfl⟩
theorem eL_law_1323 : dc mL_law 1323 (.aload_n 0) 1 1324 := ⟨d_aload_0 (bL (p := 1323) (v := 42) (by decide) (by decide +kernel)), rfl⟩
theorem eL_law_1324 : dc mL_law 1324 (.iload 4) 2 1326 := ⟨d_iload (bL (p := 1324) (v := 21) (by decide) (by decide +kernel)) (bL (p := 1325) (v := 4) (by decide) (by decide +kernel)), rfl⟩
theorem eL_law_1326 : dc mL_law 1326 (.iconst 2) 1 1327 := ⟨d_iconst_2 (bL (p := 1326) (v := 5) (by decide) (by decide +kernel)), rfl⟩
theorem eL_law_1327 : dc mL_law 1327 (.iadd) 1 1328 := ⟨d_iadd (bL (p := 1327) (v := 96) (by decide) (by decide +kernel)), rfl⟩
theorem eL_law_1328 : dc mL_law 1328 (.iaload) 1 1329 := ⟨d_iaload (bL (p := 1328) (v := 46) (by decide) (by decide +kernel)), rfl⟩
theorem eL_law_1329 : dc mL_law 1329 (.aload_n 0) 1 1330 := ⟨d_aload_0 (bL (p := 1329) (v := 42) (by decide) (by decide +kernel)), rfl⟩
theorem eL_law_1330 : dc mL_law 1330 (.iload 4) 2 1332 := ⟨d_iload (bL (p := 1330) (v := 21) (by decide) (by decide +kernel)) (bL (p := 1331) (v := 4) (by decide) (by decide +kernel)), rfl⟩
theorem eL_law_1332 : dc mL_law 1332 (.iconst 3) 1 1333 := ⟨d_iconst_3 (bL (p := 1332) (v := 6) (by decide) (by decide +kernel)), rfl⟩
theorem eL_law_1333 : dc mL_law 1333 (.iadd) 1 1334 := ⟨d_iadd (bL (p := 1333) (v := 96) (by decide) (by decide +kernel)), rfl⟩
theorem eL_law_1334 : dc mL_law 1334 (.iaload) 1 1335 := ⟨d_iaload (bL (p := 1334) (v := 46) (by decide) (by decide +kernel)), rfl⟩
theorem eL_law_1335 : dc mL_law 1335 (.aload_n 0) 1 1336 := ⟨d_aload_0 (bL (p := 1335) (v := 42) (by decide) (by decide +kernel)), rfl⟩
theorem eL_law_1336 : dc mL_law 1336 (.iload 4) 2 1338 := ⟨d_iload (bL (p := 1336) (v := 21) (by decide) (by decide +kernel)) (bL (p := 1337) (v := 4) (by decide) (by decide +kernel)), rfl⟩
theorem eL_law_1338 : dc mL_law 1338 (.iconst 4) 1 1339 := ⟨d_iconst_4 (bL (p := 1338) (v := 7) (by decide) (by decide +kernel)), rfl⟩
theorem eL_law_1339 : dc mL_law 1339 (.iadd) 1 1340 := ⟨d_iadd (bL (p := 1339) (v := 96) (by decide) (by decide +kernel)), rfl⟩
theorem eL_law_1340 : dc mL_law 1340 (.iaload) 1 1341 := ⟨d_iaload (bL (p := 1340) (v := 46) (by decide) (by decide +kernel)), rfl⟩
theorem eL_law_1341 : dc mL_law 1341 (.aload_n 0) 1 1342 := ⟨d_aload_0 (bL (p := 1341) (v := 42) (by decide) (by decide +kernel)), rfl⟩
theorem eL_law_1342 : dc mL_law 1342 (.iload 4) 2 1344 := ⟨d_iload (bL (p := 1342) (v := 21) (by decide) (by decide +kernel)) (bL (p := 1343) (v := 4) (by decide) (by decide +kernel)), rfl⟩
theorem eL_law_1344 : dc mL_law 1344 (.iconst 5) 1 1345 := ⟨d_iconst_5 (bL (p := 1344) (v := 8) (by decide) (by decide +kernel)), rfl⟩
theorem eL_law_1345 : dc mL_law 1345 (.iadd) 1 1346 := ⟨d_iadd (bL (p := 1345) (v := 96) (by decide) (by decide +kernel)), rfl⟩
theorem eL_law_1346 : dc mL_law 1346 (.iaload) 1 1347 := ⟨d_iaload (bL (p := 1346) (v := 46) (by decide) (by decide +kernel)), rfl⟩
theorem eL_law_1347 : dc mL_law 1347 (.invokevirtual 189) 3 1350 := ⟨d_invokevirtual (bL (p := 1347) (v := 182) (by decide) (by decide +kernel)) (bL (p := 1348) (v := 0) (by decide) (by decide +kernel)) (bL (p := 1349) (v := 189) (by decide) (by decide +kernel)) (by decide), rfl⟩
theorem eL_law_1350 : dc mL_law 1350 (.if_icmp .eq 2002) 3 1353 := ⟨d_if_icmp_eq (bL (p := 1350) (v := 159) (by decide) (by decide +kernel)) (bL (p := 1351) (v := 7) (by decide) (by decide +kernel)) (bL (p := 1352) (v := 210) (by decide) (by decide +kernel)) (by decide +kernel), rfl⟩
theorem eL_law_1353 : dc mL_law 1353 (.iconst 0) 1 1354 := ⟨d_iconst_0 (bL (p := 1353) (v := 3) (by decide) (by decide +kernel)), rfl⟩
theorem eL_law_1354 : dc mL_law 1354 (.ireturn) 1 1355 := ⟨d_ireturn (bL (p := 1354) (v := 172) (by decide) (by decide +kernel)), rfl⟩
theorem eL_law_1355 : dc mL_law 1355 (.aload_n 1) 1 1356 := ⟨d_aload_1 (bL (p := 1355) (v := 43) (by decide) (by decide +kernel)), rfl⟩
theorem eL_law_1356 : dc mL_law 1356 (.aload_n 0) 1 1357 := ⟨d_aload_0 (bL (p := 1356) (v := 42) (by decide) (by decide +kernel)), rfl⟩
theorem eL_law_1357 : dc mL_law 1357 (.iload 4) 2 1359 := ⟨d_iload (bL (p := 1357) (v := 21) (by decide) (by decide +kernel)) (bL (p := 1358) (v := 4) (by decide) (by decide +kernel)), rfl⟩
theorem eL_law_1359 : dc mL_law 1359 (.iconst 1) 1 1360 := ⟨d_iconst_1 (bL (p := 1359) (v := 4) (by decide) (by decide +kernel)), rfl⟩
theorem eL_law_1360 : dc mL_law 1360 (.iadd) 1 1361 := ⟨d_iadd (bL (p := 1360) (v := 96) (by decide) (by decide +kernel)), rfl⟩
theorem eL_law_1361 : dc mL_law 1361 (.iaload) 1 1362 := ⟨d_iaload (bL (p := 1361) (v := 46) (by decide) (by decide +kernel)), rfl⟩
theorem eL_law_1362 : dc mL_law 1362 (.aload_n 0) 1 1363 := ⟨d_aload_0 (bL (p := 1362) (v := 42) (by decide) (by decide +kernel)), rfl⟩
theorem eL_law_1363 : dc mL_law 1363 (.iload 4) 2 1365 := ⟨d_iload (bL (p := 1363) (v := 21) (by decide) (by decide +kernel)) (bL (p := 1364) (v := 4) (by decide) (by decide +kernel)), rfl⟩
theorem eL_law_1365 : dc mL_law 1365 (.iconst 2) 1 1366 := ⟨d_iconst_2 (bL (p := 1365) (v := 5) (by decide) (by decide +kernel)), rfl⟩
theorem eL_law_1366 : dc mL_law 1366 (.iadd) 1 1367 := ⟨d_iadd (bL (p := 1366) (v := 96) (by decide) (by decide +kernel)), rfl⟩
theorem eL_law_1367 : dc mL_law 1367 (.iaload) 1 1368 := ⟨d_iaload (bL (p := 1367) (v := 46) (by decide) (by decide +kernel)), rfl⟩
theorem eL_law_1368 : dc mL_law 1368 (.aload_n 0) 1 1369 := ⟨d_aload_0 (bL (p := 1368) (v := 42) (by decide) (by decide +kernel)), rfl⟩
theorem eL_law_1369 : dc mL_law 1369 (.iload 4) 2 1371 := ⟨d_iload (bL (p := 1369) (v := 21) (by decide) (by decide +kernel)) (bL (p := 1370) (v := 4) (by decide) (by decide +kernel)), rfl⟩
theorem eL_law_1371 : dc mL_law 1371 (.iconst 3) 1 1372 := ⟨d_iconst_3 (bL (p := 1371) (v := 6) (by decide) (by decide +kernel)), rfl⟩
theorem eL_law_1372 : dc mL_law 1372 (.iadd) 1 1373 := ⟨d_iadd (bL (p := 1372) (v := 96) (by decide) (by decide +kernel)), rfl⟩
theorem eL_law_1373 : dc mL_law 1373 (.iaload) 1 1374 := ⟨d_iaload (bL (p := 1373) (v := 46) (by decide) (by decide +kernel)), rfl⟩
theorem eL_law_1374 : dc mL_law 1374 (.aload_n 3) 1 1375 := ⟨d_aload_3 (bL (p := 1374) (v := 45) (by decide) (by decide +kernel)), rfl⟩
theorem eL_law_1375 : dc mL_law 1375 (.invokestatic 190) 3 1378 := ⟨d_invokestatic (bL (p := 1375) (v := 184) (by decide) (by decide +kernel)) (bL (p := 1376) (v := 0) (by decide) (by decide +kernel)) (bL (p := 1377) (v := 190) (by decide) (by decide +kernel)) (by decide), rfl⟩
theorem eL_law_1378 : dc mL_law 1378 (.istore 5) 2 1380 := ⟨d_istore (bL (p := 1378) (v := 54) (by decide) (by decide +kernel)) (bL (p := 1379) (v := 5) (by decide) (by decide +kernel)), rfl⟩
theorem eL_law_1380 : dc mL_law 1380 (.aload_n 2) 1 1381 := ⟨d_aload_2 (bL (p := 1380) (v := 44) (by decide) (by decide +kernel)), rfl⟩
theorem eL_law_1381 : dc mL_law 1381 (.aload_n 0) 1 1382 := ⟨d_aload_0 (bL (p := 1381) (v := 42) (by decide) (by decide +kernel)), rfl⟩
theorem eL_law_1382 : dc mL_law 1382 (.iload 4) 2 1384 := ⟨d_iload (bL (p := 1382) (v := 21) (by decide) (by decide +kernel)) (bL (p := 1383) (v := 4) (by decide) (by decide +kernel)), rfl⟩
theorem eL_law_1384 : dc mL_law 1384 (.iconst 1) 1 1385 := ⟨d_iconst_1 (bL (p := 1384) (v := 4) (by decide) (by decide +kernel)), rfl⟩
theorem eL_law_1385 : dc mL_law 1385 (.iadd) 1 1386 := ⟨d_iadd (bL (p := 1385) (v := 96) (by decide) (by decide +kernel)), rfl⟩
theorem eL_law_1386 : dc mL_law 1386 (.iaload) 1 1387 := ⟨d_iaload (bL (p := 1386) (v := 46) (by decide) (by decide +kernel)), rfl⟩
theorem eL_law_1387 : dc mL_law 1387 (.aload_n 0) 1 1388 := ⟨d_aload_0 (bL (p := 1387) (v := 42) (by decide) (by decide +kernel)), rfl⟩
theorem eL_law_1388 : dc mL_law 1388 (.iload 4) 2 1390 := ⟨d_iload (bL (p := 1388) (v := 21) (by decide) (by decide +kernel)) (bL (p := 1389) (v := 4) (by decide) (by decide +kernel)), rfl⟩
theorem eL_law_1390 : dc mL_law 1390 (.iconst 2) 1 1391 := ⟨d_iconst_2 (bL (p := 1390) (v := 5) (by decide) (by decide +kernel)), rfl⟩
theorem eL_law_1391 : dc mL_law 1391 (.iadd) 1 1392 := ⟨d_iadd (bL (p := 1391) (v := 96) (by decide) (by decide +kernel)), rfl⟩
theorem eL_law_1392 : dc mL_law 1392 (.iaload) 1 1393 := ⟨d_iaload (bL (p := 1392) (v := 46) (by decide) (by decide +kernel)), rfl⟩
theorem eL_law_1393 : dc mL_law 1393 (.aload_n 0) 1 1394 := ⟨d_aload_0 (bL (p := 1393) (v := 42) (by decide) (by decide +kernel)), rfl⟩
theorem eL_law_1394 : dc mL_law 1394 (.iload 4) 2 1396 := ⟨d_iload (bL (p := 1394) (v := 21) (by decide) (by decide +kernel)) (bL (p := 1395) (v := 4) (by decide) (by decide +kernel)), rfl⟩
theorem eL_law_1396 : dc mL_law 1396 (.iconst 3) 1 1397 := ⟨d_iconst_3 (bL (p := 1396) (v := 6) (by decide) (by decide +kernel)), rfl⟩
theorem eL_law_1397 : dc mL_law 1397 (.iadd) 1 1398 := ⟨d_iadd (bL (p := 1397) (v := 96) (by decide) (by decide +kernel)), rfl⟩
theorem eL_law_1398 : dc mL_law 1398 (.iaload) 1 1399 := ⟨d_iaload (bL (p := 1398) (v := 46) (by decide) (by decide +kernel)), rfl⟩
theorem eL_law_1399 : dc mL_law 1399 (.invokevirtual 192) 3 1402 := ⟨d_invokevirtual (bL (p := 1399) (v := 182) (by decide) (by decide +kernel)) (bL (p := 1400) (v := 0) (by decide) (by decide +kernel)) (bL (p := 1401) (v := 192) (by decide) (by decide +kernel)) (by decide), rfl⟩
theorem eL_law_1402 : dc mL_law 1402 (.istore 6) 2 1404 := ⟨d_istore (bL (p := 1402) (v := 54) (by decide) (by decide +kernel)) (bL (p := 1403) (v := 6) (by decide) (by decide +kernel)), rfl⟩
theorem eL_law_1404 : dc mL_law 1404 (.aload_n 2) 1 1405 := ⟨d_aload_2 (bL (p := 1404) (v := 44) (by decide) (by decide +kernel)), rfl⟩
theorem eL_law_1405 : dc mL_law 1405 (.invokevirtual 141) 3 1408 := ⟨d_invokevirtual (bL (p := 1405) (v := 182) (by decide) (by decide +kernel)) (bL (p := 1406) (v := 0) (by decide) (by decide +kernel)) (bL (p := 1407) (v := 141) (by decide) (by decide +kernel)) (by decide), rfl⟩
theorem eL_law_1408 : dc mL_law 1408 (.iload 5) 2 1410 := ⟨d_iload (bL (p := 1408) (v := 21) (by decide) (by decide +kernel)) (bL (p := 1409) (v := 5) (by decide) (by decide +kernel)), rfl⟩
theorem eL_law_1410 : dc mL_law 1410 (.if_icmp .eq 5) 3 1413 := ⟨d_if_icmp_eq (bL (p := 1410) (v := 159) (by decide) (by decide +kernel)) (bL (p := 1411) (v := 0) (by decide) (by decide +kernel)) (bL (p := 1412) (v := 5) (by decide) (by decide +kernel)) (by decide +kernel), rfl⟩
theorem eL_law_1413 : dc mL_law 1413 (.iconst 0) 1 1414 := ⟨d_iconst_0 (bL (p := 1413) (v := 3) (by decide) (by decide +kernel)), rfl⟩
theorem eL_law_1414 : dc mL_law 1414 (.ireturn) 1 1415 := ⟨d_ireturn (bL (p := 1414) (v := 172) (by decide) (by decide +kernel)), rfl⟩
theorem eL_law_1415 : dc mL_law 1415 (.iload 5) 2 1417 := ⟨d_iload (bL (p := 1415) (v := 21) (by decide) (by decide +kernel)) (bL (p := 1416) (v := 5) (by decide) (by decide +kernel)), rfl⟩
theorem eL_law_1417 : dc mL_law 1417 (.ifCond .ne 15) 3 1420 := ⟨d_ifCond_ne (bL (p := 1417) (v := 154) (by decide) (by decide +kernel)) (bL (p := 1418) (v := 0) (by decide) (by decide +kernel)) (bL (p := 1419) (v := 15) (by decide) (by decide +kernel)) (by decide +kernel), rfl⟩
theorem eL_law_1420 : dc mL_law 1420 (.aload_n 3) 1 1421 := ⟨d_aload_3 (bL (p := 1420) (v := 45) (by decide) (by decide +kernel)), rfl⟩
theorem eL_law_1421 : dc mL_law 1421 (.iconst 0) 1 1422 := ⟨d_iconst_0 (bL (p := 1421) (v := 3) (by decide) (by decide +kernel)), rfl⟩
theorem eL_law_1422 : dc mL_law 1422 (.laload) 1 1423 := ⟨d_laload (bL (p := 1422) (v := 47) (by decide) (by decide +kernel)), rfl⟩
theorem eL_law_1423 : dc mL_law 1423 (.iload 6) 2 1425 := ⟨d_iload (bL (p := 1423) (v := 21) (by decide) (by decide +kernel)) (bL (p := 1424) (v := 6) (by decide) (by decide +kernel)), rfl⟩
theorem eL_law_1425 : dc mL_law 1425 (.i2l) 1 1426 := ⟨d_i2l (bL (p := 1425) (v := 133) (by decide) (by decide +kernel)), rfl⟩
theorem eL_law_1426 : dc mL_law 1426 (.lcmp) 1 1427 := ⟨d_lcmp (bL (p := 1426) (v := 148) (by decide) (by decide +kernel)), rfl⟩
theorem eL_law_1427 : dc mL_law 1427 (.ifCond .eq 5) 3 1430 := ⟨d_ifCond_eq (bL (p := 1427) (v := 153) (by decide) (by decide +kernel)) (bL (p := 1428) (v := 0) (by decide) (by decide +kernel)) (bL (p := 1429) (v := 5) (by decide) (by decide +kernel)) (by decide +kernel), rfl⟩
theorem eL_law_1430 : dc mL_law 1430 (.iconst 0) 1 1431 := ⟨d_iconst_0 (bL (p := 1430) (v := 3) (by decide) (by decide +kernel)), rfl⟩
theorem eL_law_1431 : dc mL_law 1431 (.ireturn) 1 1432 := ⟨d_ireturn (bL (p := 1431) (v := 172) (by decide) (by decide +kernel)), rfl⟩
theorem eL_law_1432 : dc mL_law 1432 (.goto 1920) 3 1435 := ⟨d_goto (bL (p := 1432) (v := 167) (by decide) (by decide +kernel)) (bL (p := 1433) (v := 7) (by decide) (by decide +kernel)) (bL (p := 1434) (v := 128) (by decide) (by decide +kernel)) (by decide +kernel), rfl⟩
theorem eL_law_1435 : dc mL_law 1435 (.aload_n 1) 1 1436 := ⟨d_aload_1 (bL (p := 1435) (v := 43) (by decide) (by decide +kernel)), rfl⟩
theorem eL_law_1436 : dc mL_law 1436 (.aload_n 0) 1 1437 := ⟨d_aload_0 (bL (p := 1436) (v := 42) (by decide) (by decide +kernel)), rfl⟩
theorem eL_law_1437 : dc mL_law 1437 (.iload 4) 2 1439 := ⟨d_iload (bL (p := 1437) (v := 21) (by decide) (by decide +kernel)) (bL (p := 1438) (v := 4) (by decide) (by decide +kernel)), rfl⟩
theorem eL_law_1439 : dc mL_law 1439 (.iconst 1) 1 1440 := ⟨d_iconst_1 (bL (p := 1439) (v := 4) (by decide) (by decide +kernel)), rfl⟩
theorem eL_law_1440 : dc mL_law 1440 (.iadd) 1 1441 := ⟨d_iadd (bL (p := 1440) (v := 96) (by decide) (by decide +kernel)), rfl⟩
theorem eL_law_1441 : dc mL_law 1441 (.iaload) 1 1442 := ⟨d_iaload (bL (p := 1441) (v := 46) (by decide) (by decide +kernel)), rfl⟩
theorem eL_law_1442 : dc mL_law 1442 (.invokevirtual 193) 3 1445 := ⟨d_invokevirtual (bL (p := 1442) (v := 182) (by decide) (by decide +kernel)) (bL (p := 1443) (v := 0) (by decide) (by decide +kernel)) (bL (p := 1444) (v := 193) (by decide) (by decide +kernel)) (by decide), rfl⟩
theorem eL_law_1445 : dc mL_law 1445 (.aload_n 2) 1 1446 := ⟨d_aload_2 (bL (p := 1445) (v := 44) (by decide) (by decide +kernel)), rfl⟩
theorem eL_law_1446 : dc mL_law 1446 (.aload_n 0) 1 1447 := ⟨d_aload_0 (bL (p := 1446) (v := 42) (by decide) (by decide +kernel)), rfl⟩
theorem eL_law_1447 : dc mL_law 1447 (.iload 4) 2 1449 := ⟨d_iload (bL (p := 1447) (v := 21) (by decide) (by decide +kernel)) (bL (p := 1448) (v := 4) (by decide) (by decide +kernel)), rfl⟩
theorem eL_law_1449 : dc mL_law 1449 (.iconst 1) 1 1450 := ⟨d_iconst_1 (bL (p := 1449) (v := 4) (by decide) (by decide +kernel)), rfl⟩
theorem eL_law_1450 : dc mL_law 1450 (.iadd) 1 1451 := ⟨d_iadd (bL (p := 1450) (v := 96) (by decide) (by decide +kernel)), rfl⟩
theorem eL_law_1451 : dc mL_law 1451 (.iaload) 1 1452 := ⟨d_iaload (bL (p := 1451) (v := 46) (by decide) (by decide +kernel)), rfl⟩
theorem eL_law_1452 : dc mL_law 1452 (.invokevirtual 196) 3 1455 := ⟨d_invokevirtual (bL (p := 1452) (v := 182) (by decide) (by decide +kernel)) (bL (p := 1453) (v := 0) (by decide) (by decide +kernel)) (bL (p := 1454) (v := 196) (by decide) (by decide +kernel)) (by decide), rfl⟩
theorem eL_law_1455 : dc mL_law 1455 (.if_icmp .eq 1897) 3 1458 := ⟨d_if_icmp_eq (bL (p := 1455) (v := 159) (by decide) (by decide +kernel)) (bL (p := 1456) (v := 7) (by decide) (by decide +kernel)) (bL (p := 1457) (v := 105) (by decide) (by decide +kernel)) (by decide +kernel), rfl⟩
theorem eL_law_1458 : dc mL_law 1458 (.iconst 0) 1 1459 := ⟨d_iconst_0 (bL (p := 1458) (v := 3) (by decide) (by decide +kernel)), rfl⟩
theorem eL_law_1459 : dc mL_law 1459 (.ireturn) 1 1460 := ⟨d_ireturn (bL (p := 1459) (v := 172) (by decide) (by decide +kernel)), rfl⟩
theorem eL_law_1460 : dc mL_law 1460 (.aload_n 1) 1 1461 := ⟨d_aload_1 (bL (p := 1460) (v := 43) (by decide) (by decide +kernel)), rfl⟩
theorem eL_law_1461 : dc mL_law 1461 (.aload_n 0) 1 1462 := ⟨d_aload_0 (bL (p := 1461) (v := 42) (by decide) (by decide +kernel)), rfl⟩
theorem eL_law_1462 : dc mL_law 1462 (.iload 4) 2 1464 := ⟨d_iload (bL (p := 1462) (v := 21) (by decide) (by decide +kernel)) (bL (p := 1463) (v := 4) (by decide) (by decide +kernel)), rfl⟩
theorem eL_law_1464 : dc mL_law 1464 (.iconst 1) 1 1465 := ⟨d_iconst_1 (bL (p := 1464) (v := 4) (by decide) (by decide +kernel)), rfl⟩
theorem eL_law_1465 : dc mL_law 1465 (.iadd) 1 1466 := ⟨d_iadd (bL (p := 1465) (v := 96) (by decide) (by decide +kernel)), rfl⟩
theorem eL_law_1466 : dc mL_law 1466 (.iaload) 1 1467 := ⟨d_iaload (bL (p := 1466) (v := 46) (by decide) (by decide +kernel)), rfl⟩
theorem eL_law_1467 : dc mL_law 1467 (.aload_n 3) 1 1468 := ⟨d_aload_3 (bL (p := 1467) (v := 45) (by decide) (by decide +kernel)), rfl⟩
theorem eL_law_1468 : dc mL_law 1468 (.invokestatic 197) 3 1471 := ⟨d_invokestatic (bL (p := 1468) (v := 184) (by decide) (by decide +kernel)) (bL (p := 1469) (v := 0) (by decide) (by decide +kernel)) (bL (p := 1470) (v := 197) (by decide) (by decide +kernel)) (by decide), rfl⟩
theorem eL_law_1471 : dc mL_law 1471 (.istore 5) 2 1473 := ⟨d_istore (bL (p := 1471) (v := 54) (by decide) (by decide +kernel)) (bL (p := 1472) (v := 5) (by decide) (by decide +kernel)), rfl⟩
theorem eL_law_1473 : dc mL_law 1473 (.aload_n 2) 1 1474 := ⟨d_aload_2 (bL (p := 1473) (v := 44) (by decide) (by decide +kernel)), rfl⟩
theorem eL_law_1474 : dc mL_law 1474 (.aload_n 0) 1 1475 := ⟨d_aload_0 (bL (p := 1474) (v := 42) (by decide) (by decide +kernel)), rfl⟩
theorem eL_law_1475 : dc mL_law 1475 (.iload 4) 2 1477 := ⟨d_iload (bL (p := 1475) (v := 21) (by decide) (by decide +kernel)) (bL (p := 1476) (v := 4) (by decide) (by decide +kernel)), rfl⟩
theorem eL_law_1477 : dc mL_law 1477 (.iconst 1) 1 1478 := ⟨d_iconst_1 (bL (p := 1477) (v := 4) (by decide) (by decide +kernel)), rfl⟩
theorem eL_law_1478 : dc mL_law 1478 (.iadd) 1 1479 := ⟨d_iadd (bL (p := 1478) (v := 96) (by decide) (by decide +kernel)), rfl⟩
theorem eL_law_1479 : dc mL_law 1479 (.iaload) 1 1480 := ⟨d_iaload (bL (p := 1479) (v := 46) (by decide) (by decide +kernel)), rfl⟩
theorem eL_law_1480 : dc mL_law 1480 (.invokevirtual 200) 3 1483 := ⟨d_invokevirtual (bL (p := 1480) (v := 182) (by decide) (by decide +kernel)) (bL (p := 1481) (v := 0) (by decide) (by decide +kernel)) (bL (p := 1482) (v := 200) (by decide) (by decide +kernel)) (by decide), rfl⟩
theorem eL_law_1483 : dc mL_law 1483 (.istore 6) 2 1485 := ⟨d_istore (bL (p := 1483) (v := 54) (by decide) (by decide +kernel)) (bL (p := 1484) (v := 6) (by decide) (by decide +kernel)), rfl⟩
theorem eL_law_1485 : dc mL_law 1485 (.aload_n 2) 1 1486 := ⟨d_aload_2 (bL (p := 1485) (v := 44) (by decide) (by decide +kernel)), rfl⟩
theorem eL_law_1486 : dc mL_law 1486 (.invokevirtual 141) 3 1489 := ⟨d_invokevirtual (bL (p := 1486) (v := 182) (by decide) (by decide +kernel)) (bL (p := 1487) (v := 0) (by decide) (by decide +kernel)) (bL (p := 1488) (v := 141) (by decide) (by decide +kernel)) (by decide), rfl⟩
theorem eL_law_1489 : dc mL_law 1489 (.iload 5) 2 1491 := ⟨d_iload (bL (p := 1489) (v := 21) (by decide) (by decide +kernel)) (bL (p := 1490) (v := 5) (by decide) (by decide +kernel)), rfl⟩
theorem eL_law_1491 : dc mL_law 1491 (.if_icmp .eq 5) 3 1494 := ⟨d_if_icmp_eq (bL (p := 1491) (v := 159) (by decide) (by decide +kernel)) (bL (p := 1492) (v := 0) (by decide) (by decide +kernel)) (bL (p := 1493) (v := 5) (by decide) (by decide +kernel)) (by decide +kernel), rfl⟩
theorem eL_law_1494 : dc mL_law 1494 (.iconst 0) 1 1495 := ⟨d_iconst_0 (bL (p := 1494) (v := 3) (by decide) (by decide +kernel)), rfl⟩
theorem eL_law_1495 : dc mL_law 1495 (.ireturn) 1 1496 := ⟨d_ireturn (bL (p := 1495) (v := 172) (by decide) (by decide +kernel)), rfl⟩
theorem eL_law_1496 : dc mL_law 1496 (.iload 5) 2 1498 := ⟨d_iload (bL (p := 1496) (v := 21) (by decide) (by decide +kernel)) (bL (p := 1497) (v := 5) (by decide) (by decide +kernel)), rfl⟩
theorem eL_law_1498 : dc mL_law 1498 (.ifCond .ne 15) 3 1501 := ⟨d_ifCond_ne (bL (p := 1498) (v := 154) (by decide) (by decide +kernel)) (bL (p := 1499) (v := 0) (by decide) (by decide +kernel)) (bL (p := 1500) (v := 15) (by decide) (by decide +kernel)) (by decide +kernel), rfl⟩
theorem eL_law_1501 : dc mL_law 1501 (.aload_n 3) 1 1502 := ⟨d_aload_3 (bL (p := 1501) (v := 45) (by decide) (by decide +kernel)), rfl⟩
theorem eL_law_1502 : dc mL_law 1502 (.iconst 0) 1 1503 := ⟨d_iconst_0 (bL (p := 1502) (v := 3) (by decide) (by decide +kernel)), rfl⟩
theorem eL_law_1503 : dc mL_law 1503 (.laload) 1 1504 := ⟨d_laload (bL (p := 1503) (v := 47) (by decide) (by decide +kernel)), rfl⟩
theorem eL_law_1504 : dc mL_law 1504 (.iload 6) 2 1506 := ⟨d_iload (bL (p := 1504) (v := 21) (by decide) (by decide +kernel)) (bL (p := 1505) (v := 6) (by decide) (by decide +kernel)), rfl⟩
theorem eL_law_1506 : dc mL_law 1506 (.i2l) 1 1507 := ⟨d_i2l (bL (p := 1506) (v := 133) (by decide) (by decide +kernel)), rfl⟩
theorem eL_law_1507 : dc mL_law 1507 (.lcmp) 1 1508 := ⟨d_lcmp (bL (p := 1507) (v := 148) (by decide) (by decide +kernel)), rfl⟩
theorem eL_law_1508 : dc mL_law 1508 (.ifCond .eq 5) 3 1511 := ⟨d_ifCond_eq (bL (p := 1508) (v := 153) (by decide) (by decide +kernel)) (bL (p := 1509) (v := 0) (by decide) (by decide +kernel)) (bL (p := 1510) (v := 5) (by decide) (by decide +kernel)) (by decide +kernel), rfl⟩
theorem eL_law_1511 : dc mL_law 1511 (.iconst 0) 1 1512 := ⟨d_iconst_0 (bL (p := 1511) (v := 3) (by decide) (by decide +kernel)), rfl⟩
theorem eL_law_1512 : dc mL_law 1512 (.ireturn) 1 1513 := ⟨d_ireturn (bL (p := 1512) (v := 172) (by decide) (by decide +kernel)), rfl⟩
theorem eL_law_1513 : dc mL_law 1513 (.goto 1839) 3 1516 := ⟨d_goto (bL (p := 1513) (v := 167) (by decide) (by decide +kernel)) (bL (p := 1514) (v := 7) (by decide) (by decide +kernel)) (bL (p := 1515) (v := 47) (by decide) (by decide +kernel)) (by decide +kernel), rfl⟩
theorem eL_law_1516 : dc mL_law 1516 (.aload_n 1) 1 1517 := ⟨d_aload_1 (bL (p := 1516) (v := 43) (by decide) (by decide +kernel)), rfl⟩
theorem eL_law_1517 : dc mL_law 1517 (.aload_n 0) 1 1518 := ⟨d_aload_0 (bL (p := 1517) (v := 42) (by decide) (by decide +kernel)), rfl⟩
theorem eL_law_1518 : dc mL_law 1518 (.iload 4) 2 1520 := ⟨d_iload (bL (p := 1518) (v := 21) (by decide) (by decide +kernel)) (bL (p := 1519) (v := 4) (by decide) (by decide +kernel)), rfl⟩
theorem eL_law_1520 : dc mL_law 1520 (.iconst 1) 1 1521 := ⟨d_iconst_1 (bL (p := 1520) (v := 4) (by decide) (by decide +kernel)), rfl⟩
theorem eL_law_1521 : dc mL_law 1521 (.iadd) 1 1522 := ⟨d_iadd (bL (p := 1521) (v := 96) (by decide) (by decide +kernel)), rfl⟩
theorem eL_law_1522 : dc mL_law 1522 (.iaload) 1 1523 := ⟨d_iaload (bL (p := 1522) (v := 46) (by decide) (by decide +kernel)), rfl⟩
theorem eL_law_1523 : dc mL_law 1523 (.aload_n 0) 1 1524 := ⟨d_aload_0 (bL (p := 1523) (v := 42) (by decide) (by decide +kernel)), rfl⟩
theorem eL_law_1524 : dc mL_law 1524 (.iload 4) 2 1526 := ⟨d_iload (bL (p := 1524) (v := 21) (by decide) (by decide +kernel)) (bL (p := 1525) (v := 4) (by decide) (by decide +kernel)), rfl⟩
theorem eL_law_1526 : dc mL_law 1526 (.iconst 2) 1 1527 := ⟨d_iconst_2 (bL (p := 1526) (v := 5) (by decide) (by decide +kernel)), rfl⟩
theorem eL_law_1527 : dc mL_law 1527 (.iadd) 1 1528 := ⟨d_iadd (bL (p := 1527) (v := 96) (by decide) (by decide +kernel)), rfl⟩
theorem eL_law_1528 : dc mL_law 1528 (.iaload) 1 1529 := ⟨d_iaload (bL (p := 1528) (v := 46) (by decide) (by decide +kernel)), rfl⟩
theorem eL_law_1529 : dc mL_law 1529 (.aload_n 0) 1 1530 := ⟨d_aload_0 (bL (p := 1529) (v := 42) (by decide) (by decide +kernel)), rfl⟩
theorem eL_law_1530 : dc mL_law 1530 (.iload 4) 2 1532 := ⟨d_iload (bL (p := 1530) (v := 21) (by decide) (by decide +kernel)) (bL (p := 1531) (v := 4) (by decide) (by decide +kernel)), rfl⟩
theorem eL_law_1532 : dc mL_law 1532 (.iconst 3) 1 1533 := ⟨d_iconst_3 (bL (p := 1532) (v := 6) (by decide) (by decide +kernel)), rfl⟩
theorem eL_law_1533 : dc mL_law 1533 (.iadd) 1 1534 := ⟨d_iadd (bL (p := 1533) (v := 96) (by decide) (by decide +kernel)), rfl⟩
theorem eL_law_1534 : dc mL_law 1534 (.iaload) 1 1535 := ⟨d_iaload (bL (p := 1534) (v := 46) (by decide) (by decide +kernel)), rfl⟩
theorem eL_law_1535 : dc mL_law 1535 (.aload_n 0) 1 1536 := ⟨d_aload_0 (bL (p := 1535) (v := 42) (by decide) (by decide +kernel)), rfl⟩
theorem eL_law_1536 : dc mL_law 1536 (.iload 4) 2 1538 := ⟨d_iload (bL (p := 1536) (v := 21) (by decide) (by decide +kernel)) (bL (p := 1537) (v := 4) (by decide) (by decide +kernel)), rfl⟩
theorem eL_law_1538 : dc mL_law 1538 (.iconst 4) 1 1539 := ⟨d_iconst_4 (bL (p := 1538) (v := 7) (by decide) (by decide +kernel)), rfl⟩
theorem eL_law_1539 : dc mL_law 1539 (.iadd) 1 1540 := ⟨d_iadd (bL (p := 1539) (v := 96) (by decide) (by decide +kernel)), rfl⟩
theorem eL_law_1540 : dc mL_law 1540 (.iaload) 1 1541 := ⟨d_iaload (bL (p := 1540) (v := 46) (by decide) (by decide +kernel)), rfl⟩
theorem eL_law_1541 : dc mL_law 1541 (.aload_n 0) 1 1542 := ⟨d_aload_0 (bL (p := 1541) (v := 42) (by decide) (by decide +kernel)), rfl⟩
theorem eL_law_1542 : dc mL_law 1542 (.iload 4) 2 1544 := ⟨d_iload (bL (p := 1542) (v := 21) (by decide) (by decide +kernel)) (bL (p := 1543) (v := 4) (by decide) (by decide +kernel)), rfl⟩
theorem eL_law_1544 : dc mL_law 1544 (.iconst 5) 1 1545 := ⟨d_iconst_5 (bL (p := 1544) (v := 8) (by decide) (by decide +kernel)), rfl⟩
theorem eL_law_1545 : dc mL_law 1545 (.iadd) 1 1546 := ⟨d_iadd (bL (p := 1545) (v := 96) (by decide) (by decide +kernel)), rfl⟩
theorem eL_law_1546 : dc mL_law 1546 (.iaload) 1 1547 := ⟨d_iaload (bL (p := 1546) (v := 46) (by decide) (by decide +kernel)), rfl⟩
theorem eL_law_1547 : dc mL_law 1547 (.aload_n 0) 1 1548 := ⟨d_aload_0 (bL (p := 1547) (v := 42) (by decide) (by decide +kernel)), rfl⟩
theorem eL_law_1548 : dc mL_law 1548 (.iload 4) 2 1550 := ⟨d_iload (bL (p := 1548) (v := 21) (by decide) (by decide +kernel)) (bL (p := 1549) (v := 4) (by decide) (by decide +kernel)), rfl⟩
theorem eL_law_1550 : dc mL_law 1550 (.bipush 6) 2 1552 := ⟨d_bipush (bL (p := 1550) (v := 16) (by decide) (by decide +kernel)) (bL (p := 1551) (v := 6) (by decide) (by decide +kernel)) (by decide +kernel), rfl⟩
theorem eL_law_1552 : dc mL_law 1552 (.iadd) 1 1553 := ⟨d_iadd (bL (p := 1552) (v := 96) (by decide) (by decide +kernel)), rfl⟩
theorem eL_law_1553 : dc mL_law 1553 (.iaload) 1 1554 := ⟨d_iaload (bL (p := 1553) (v := 46) (by decide) (by decide +kernel)), rfl⟩
theorem eL_law_1554 : dc mL_law 1554 (.aload_n 3) 1 1555 := ⟨d_aload_3 (bL (p := 1554) (v := 45) (by decide) (by decide +kernel)), rfl⟩
theorem eL_law_1555 : dc mL_law 1555 (.invokestatic 201) 3 1558 := ⟨d_invokestatic (bL (p := 1555) (v := 184) (by decide) (by decide +kernel)) (bL (p := 1556) (v := 0) (by decide) (by decide +kernel)) (bL (p := 1557) (v := 201) (by decide) (by decide +kernel)) (by decide), rfl⟩
theorem eL_law_1558 : dc mL_law 1558 (.istore 5) 2 1560 := ⟨d_istore (bL (p := 1558) (v := 54) (by decide) (by decide +kernel)) (bL (p := 1559) (v := 5) (by decide) (by decide +kernel)), rfl⟩
theorem eL_law_1560 : dc mL_law 1560 (.aload_n 2) 1 1561 := ⟨d_aload_2 (bL (p := 1560) (v := 44) (by decide) (by decide +kernel)), rfl⟩
theorem eL_law_1561 : dc mL_law 1561 (.aload_n 0) 1 1562 := ⟨d_aload_0 (bL (p := 1561) (v := 42) (by decide) (by decide +kernel)), rfl⟩
theorem eL_law_1562 : dc mL_law 1562 (.iload 4) 2 1564 := ⟨d_iload (bL (p := 1562) (v := 21) (by decide) (by decide +kernel)) (bL (p := 1563) (v := 4) (by decide) (by decide +kernel)), rfl⟩
theorem eL_law_1564 : dc mL_law 1564 (.iconst 1) 1 1565 := ⟨d_iconst_1 (bL (p := 1564) (v := 4) (by decide) (by decide +kernel)), rfl⟩
theorem eL_law_1565 : dc mL_law 1565 (.iadd) 1 1566 := ⟨d_iadd (bL (p := 1565) (v := 96) (by decide) (by decide +kernel)), rfl⟩
theorem eL_law_1566 : dc mL_law 1566 (.iaload) 1 1567 := ⟨d_iaload (bL (p := 1566) (v := 46) (by decide) (by decide +kernel)), rfl⟩
theorem eL_law_1567 : dc mL_law 1567 (.aload_n 0) 1 1568 := ⟨d_aload_0 (bL (p := 1567) (v := 42) (by decide) (by decide +kernel)), rfl⟩
theorem eL_law_1568 : dc mL_law 1568 (.iload 4) 2 1570 := ⟨d_iload (bL (p := 1568) (v := 21) (by decide) (by decide +kernel)) (bL (p := 1569) (v := 4) (by decide) (by decide +kernel)), rfl⟩
theorem eL_law_1570 : dc mL_law 1570 (.iconst 2) 1 1571 := ⟨d_iconst_2 (bL (p := 1570) (v := 5) (by decide) (by decide +kernel)), rfl⟩
theorem eL_law_1571 : dc mL_law 1571 (.iadd) 1 1572 := ⟨d_iadd (bL (p := 1571) (v := 96) (by decide) (by decide +kernel)), rfl⟩
theorem eL_law_1572 : dc mL_law 1572 (.iaload) 1 1573 := ⟨d_iaload (bL (p := 1572) (v := 46) (by decide) (by decide +kernel)), rfl⟩
theorem eL_law_1573 : dc mL_law 1573 (.aload_n 0) 1 1574 := ⟨d_aload_0 (bL (p := 1573) (v := 42) (by decide) (by decide +kernel)), rfl⟩
theorem eL_law_1574 : dc mL_law 1574 (.iload 4) 2 1576 := ⟨d_iload (bL (p := 1574) (v := 21) (by decide) (by decide +kernel)) (bL (p := 1575) (v := 4) (by decide) (by decide +kernel)), rfl⟩
theorem eL_law_1576 : dc mL_law 1576 (.iconst 3) 1 1577 := ⟨d_iconst_3 (bL (p := 1576) (v := 6) (by decide) (by decide +kernel)), rfl⟩
theorem eL_law_1577 : dc mL_law 1577 (.iadd) 1 1578 := ⟨d_iadd (bL (p := 1577) (v := 96) (by decide) (by decide +kernel)), rfl⟩
theorem eL_law_1578 : dc mL_law 1578 (.iaload) 1 1579 := ⟨d_iaload (bL (p := 1578) (v := 46) (by decide) (by decide +kernel)), rfl⟩
theorem eL_law_1579 : dc mL_law 1579 (.aload_n 0) 1 1580 := ⟨d_aload_0 (bL (p := 1579) (v := 42) (by decide) (by decide +kernel)), rfl⟩
theorem eL_law_1580 : dc mL_law 1580 (.iload 4) 2 1582 := ⟨d_iload (bL (p := 1580) (v := 21) (by decide) (by decide +kernel)) (bL (p := 1581) (v := 4) (by decide) (by decide +kernel)), rfl⟩
theorem eL_law_1582 : dc mL_law 1582 (.iconst 4) 1 1583 := ⟨d_iconst_4 (bL (p := 1582) (v := 7) (by decide) (by decide +kernel)), rfl⟩
theorem eL_law_1583 : dc mL_law 1583 (.iadd) 1 1584 := ⟨d_iadd (bL (p := 1583) (v := 96) (by decide) (by decide +kernel)), rfl⟩
theorem eL_law_1584 : dc mL_law 1584 (.iaload) 1 1585 := ⟨d_iaload (bL (p := 1584) (v := 46) (by decide) (by decide +kernel)), rfl⟩
theorem eL_law_1585 : dc mL_law 1585 (.aload_n 0) 1 1586 := ⟨d_aload_0 (bL (p := 1585) (v := 42) (by decide) (by decide +kernel)), rfl⟩
theorem eL_law_1586 : dc mL_law 1586 (.iload 4) 2 1588 := ⟨d_iload (bL (p := 1586) (v := 21) (by decide) (by decide +kernel)) (bL (p := 1587) (v := 4) (by decide) (by decide +kernel)), rfl⟩
theorem eL_law_1588 : dc mL_law 1588 (.iconst 5) 1 1589 := ⟨d_iconst_5 (bL (p := 1588) (v := 8) (by decide) (by decide +kernel)), rfl⟩
theorem eL_law_1589 : dc mL_law 1589 (.iadd) 1 1590 := ⟨d_iadd (bL (p := 1589) (v := 96) (by decide) (by decide +kernel)), rfl⟩
theorem eL_law_1590 : dc mL_law 1590 (.iaload) 1 1591 := ⟨d_iaload (bL (p := 1590) (v := 46) (by decide) (by decide +kernel)), rfl⟩
theorem eL_law_1591 : dc mL_law 1591 (.aload_n 0) 1 1592 := ⟨d_aload_0 (bL (p := 1591) (v := 42) (by decide) (by decide +kernel)), rfl⟩
theorem eL_law_1592 : dc mL_law 1592 (.iload 4) 2 1594 := ⟨d_iload (bL (p := 1592) (v := 21) (by decide) (by decide +kernel)) (bL (p := 1593) (v := 4) (by decide) (by decide +kernel)), rfl⟩
theorem eL_law_1594 : dc mL_law 1594 (.bipush 6) 2 1596 := ⟨d_bipush (bL (p := 1594) (v := 16) (by decide) (by decide +kernel)) (bL (p := 1595) (v := 6) (by decide) (by decide +kernel)) (by decide +kernel), rfl⟩
theorem eL_law_1596 : dc mL_law 1596 (.iadd) 1 1597 := ⟨d_iadd (bL (p := 1596) (v := 96) (by decide) (by decide +kernel)), rfl⟩
theorem eL_law_1597 : dc mL_law 1597 (.iaload) 1 1598 := ⟨d_iaload (bL (p := 1597) (v := 46) (by decide) (by decide +kernel)), rfl⟩
theorem eL_law_1598 : dc mL_law 1598 (.invokevirtual 203) 3 1601 := ⟨d_invokevirtual (bL (p := 1598) (v := 182) (by decide) (by decide +kernel)) (bL (p := 1599) (v := 0) (by decide) (by decide +kernel)) (bL (p := 1600) (v := 203) (by decide) (by decide +kernel)) (by decide), rfl⟩
theorem eL_law_1601 : dc mL_law 1601 (.istore 6) 2 1603 := ⟨d_istore (bL (p := 1601) (v := 54) (by decide) (by decide +kernel)) (bL (p := 1602) (v := 6) (by decide) (by decide +kernel)), rfl⟩
theorem eL_law_1603 : dc mL_law 1603 (.aload_n 2) 1 1604 := ⟨d_aload_2 (bL (p := 1603) (v := 44) (by decide) (by decide +kernel)), rfl⟩
theorem eL_law_1604 : dc mL_law 1604 (.invokevirtual 141) 3 1607 := ⟨d_invokevirtual (bL (p := 1604) (v := 182) (by decide) (by decide +kernel)) (bL (p := 1605) (v := 0) (by decide) (by decide +kernel)) (bL (p := 1606) (v := 141) (by decide) (by decide +kernel)) (by decide), rfl⟩
theorem eL_law_1607 : dc mL_law 1607 (.iload 5) 2 1609 := ⟨d_iload (bL (p := 1607) (v := 21) (by decide) (by decide +kernel)) (bL (p := 1608) (v := 5) (by decide) (by decide +kernel)), rfl⟩
theorem eL_law_1609 : dc mL_law 1609 (.if_icmp .eq 5) 3 1612 := ⟨d_if_icmp_eq (bL (p := 1609) (v := 159) (by decide) (by decide +kernel)) (bL (p := 1610) (v := 0) (by decide) (by decide +kernel)) (bL (p := 1611) (v := 5) (by decide) (by decide +kernel)) (by decide +kernel), rfl⟩
theorem eL_law_1612 : dc mL_law 1612 (.iconst 0) 1 1613 := ⟨d_iconst_0 (bL (p := 1612) (v := 3) (by decide) (by decide +kernel)), rfl⟩
theorem eL_law_1613 : dc mL_law 1613 (.ireturn) 1 1614 := ⟨d_ireturn (bL (p := 1613) (v := 172) (by decide) (by decide +kernel)), rfl⟩
theorem eL_law_1614 : dc mL_law 1614 (.iload 5) 2 1616 := ⟨d_iload (bL (p := 1614) (v := 21) (by decide) (by decide +kernel)) (bL (p := 1615) (v := 5) (by decide) (by decide +kernel)), rfl⟩
theorem eL_law_1616 : dc mL_law 1616 (.ifCond .ne 15) 3 1619 := ⟨d_ifCond_ne (bL (p := 1616) (v := 154) (by decide) (by decide +kernel)) (bL (p := 1617) (v := 0) (by decide) (by decide +kernel)) (bL (p := 1618) (v := 15) (by decide) (by decide +kernel)) (by decide +kernel), rfl⟩
theorem eL_law_1619 : dc mL_law 1619 (.aload_n 3) 1 1620 := ⟨d_aload_3 (bL (p := 1619) (v := 45) (by decide) (by decide +kernel)), rfl⟩
theorem eL_law_1620 : dc mL_law 1620 (.iconst 0) 1 1621 := ⟨d_iconst_0 (bL (p := 1620) (v := 3) (by decide) (by decide +kernel)), rfl⟩
theorem eL_law_1621 : dc mL_law 1621 (.laload) 1 1622 := ⟨d_laload (bL (p := 1621) (v := 47) (by decide) (by decide +kernel)), rfl⟩
theorem eL_law_1622 : dc mL_law 1622 (.iload 6) 2 1624 := ⟨d_iload (bL (p := 1622) (v := 21) (by decide) (by decide +kernel)) (bL (p := 1623) (v := 6) (by decide) (by decide +kernel)), rfl⟩
theorem eL_law_1624 : dc mL_law 1624 (.i2l) 1 1625 := ⟨d_i2l (bL (p := 1624) (v := 133) (by decide) (by decide +kernel)), rfl⟩
theorem eL_law_1625 : dc mL_law 1625 (.lcmp) 1 1626 := ⟨d_lcmp (bL (p := 1625) (v := 148) (by decide) (by decide +kernel)), rfl⟩
theorem eL_law_1626 : dc mL_law 1626 (.ifCond .eq 5) 3 1629 := ⟨d_ifCond_eq (bL (p := 1626) (v := 153) (by decide) (by decide +kernel)) (bL (p := 1627) (v := 0) (by decide) (by decide +kernel)) (bL (p := 1628) (v := 5) (by decide) (by decide +kernel)) (by decide +kernel), rfl⟩
theorem eL_law_1629 : dc mL_law 1629 (.iconst 0) 1 1630 := ⟨d_iconst_0 (bL (p := 1629) (v := 3) (by decide) (by decide +kernel)), rfl⟩
theorem eL_law_1630 : dc mL_law 1630 (.ireturn) 1 1631 := ⟨d_ireturn (bL (p := 1630) (v := 172) (by decide) (by decide +kernel)), rfl⟩
theorem eL_law_1631 : dc mL_law 1631 (.goto 1721) 3 1634 := ⟨d_goto (bL (p := 1631) (v := 167) (by decide) (by decide +kernel)) (bL (p := 1632) (v := 6) (by decide) (by decide +kernel)) (bL (p := 1633) (v := 185) (by decide) (by decide +kernel)) (by decide +kernel), rfl⟩
theorem eL_law_1634 : dc mL_law 1634 (.aload_n 1) 1 1635 := ⟨d_aload_1 (bL (p := 1634) (v := 43) (by decide) (by decide +kernel)), rfl⟩
theorem eL_law_1635 : dc mL_law 1635 (.aload_n 0) 1 1636 := ⟨d_aload_0 (bL (p := 1635) (v := 42) (by decide) (by decide +kernel)), rfl⟩
theorem eL_law_1636 : dc mL_law 1636 (.iload 4) 2 1638 := ⟨d_iload (bL (p := 1636) (v := 21) (by decide) (by decide +kernel)) (bL (p := 1637) (v := 4) (by decide) (by decide +kernel)), rfl⟩
theorem eL_law_1638 : dc mL_law 1638 (.iconst 1) 1 1639 := ⟨d_iconst_1 (bL (p := 1638) (v := 4) (by decide) (by decide +kernel)), rfl⟩
theorem eL_law_1639 : dc mL_law 1639 (.iadd) 1 1640 := ⟨d_iadd (bL (p := 1639) (v := 96) (by decide) (by decide +kernel)), rfl⟩
theorem eL_law_1640 : dc mL_law 1640 (.iaload) 1 1641 := ⟨d_iaload (bL (p := 1640) (v := 46) (by decide) (by decide +kernel)), rfl⟩
theorem eL_law_1641 : dc mL_law 1641 (.aload_n 0) 1 1642 := ⟨d_aload_0 (bL (p := 1641) (v := 42) (by decide) (by decide +kernel)), rfl⟩
theorem eL_law_1642 : dc mL_law 1642 (.iload 4) 2 1644 := ⟨d_iload (bL (p := 1642) (v := 21) (by decide) (by decide +kernel)) (bL (p := 1643) (v := 4) (by decide) (by decide +kernel)), rfl⟩
theorem eL_law_1644 : dc mL_law 1644 (.iconst 2) 1 1645 := ⟨d_iconst_2 (bL (p := 1644) (v := 5) (by decide) (by decide +kernel)), rfl⟩
theorem eL_law_1645 : dc mL_law 1645 (.iadd) 1 1646 := ⟨d_iadd (bL (p := 1645) (v := 96) (by decide) (by decide +kernel)), rfl⟩
theorem eL_law_1646 : dc mL_law 1646 (.iaload) 1 1647 := ⟨d_iaload (bL (p := 1646) (v := 46) (by decide) (by decide +kernel)), rfl⟩
theorem eL_law_1647 : dc mL_law 1647 (.aload_n 0) 1 1648 := ⟨d_aload_0 (bL (p := 1647) (v := 42) (by decide) (by decide +kernel)), rfl⟩
theorem eL_law_1648 : dc mL_law 1648 (.iload 4) 2 1650 := ⟨d_iload (bL (p := 1648) (v := 21) (by decide) (by decide +kernel)) (bL (p := 1649) (v := 4) (by decide) (by decide +kernel)), rfl⟩
theorem eL_law_1650 : dc mL_law 1650 (.iconst 3) 1 1651 := ⟨d_iconst_3 (bL (p := 1650) (v := 6) (by decide) (by decide +kernel)), rfl⟩
theorem eL_law_1651 : dc mL_law 1651 (.iadd) 1 1652 := ⟨d_iadd (bL (p := 1651) (v := 96) (by decide) (by decide +kernel)), rfl⟩
theorem eL_law_1652 : dc mL_law 1652 (.iaload) 1 1653 := ⟨d_iaload (bL (p := 1652) (v := 46) (by decide) (by decide +kernel)), rfl⟩
theorem eL_law_1653 : dc mL_law 1653 (.aload_n 0) 1 1654 := ⟨d_aload_0 (bL (p := 1653) (v := 42) (by decide) (by decide +kernel)), rfl⟩
theorem eL_law_1654 : dc mL_law 1654 (.iload 4) 2 1656 := ⟨d_iload (bL (p := 1654) (v := 21) (by decide) (by decide +kernel)) (bL (p := 1655) (v := 4) (by decide) (by decide +kernel)), rfl⟩
theorem eL_law_1656 : dc mL_law 1656 (.iconst 4) 1 1657 := ⟨d_iconst_4 (bL (p := 1656) (v := 7) (by decide) (by decide +kernel)), rfl⟩
theorem eL_law_1657 : dc mL_law 1657 (.iadd) 1 1658 := ⟨d_iadd (bL (p := 1657) (v := 96) (by decide) (by decide +kernel)), rfl⟩
theorem eL_law_1658 : dc mL_law 1658 (.iaload) 1 1659 := ⟨d_iaload (bL (p := 1658) (v := 46) (by decide) (by decide +kernel)), rfl⟩
theorem eL_law_1659 : dc mL_law 1659 (.aload_n 3) 1 1660 := ⟨d_aload_3 (bL (p := 1659) (v := 45) (by decide) (by decide +kernel)), rfl⟩
theorem eL_law_1660 : dc mL_law 1660 (.invokestatic 204) 3 1663 := ⟨d_invokestatic (bL (p := 1660) (v := 184) (by decide) (by decide +kernel)) (bL (p := 1661) (v := 0) (by decide) (by decide +kernel)) (bL (p := 1662) (v := 204) (by decide) (by decide +kernel)) (by decide), rfl⟩
theorem eL_law_1663 : dc mL_law 1663 (.istore 5) 2 1665 := ⟨d_istore (bL (p := 1663) (v := 54) (by decide) (by decide +kernel)) (bL (p := 1664) (v := 5) (by decide) (by decide +kernel)), rfl⟩
theorem eL_law_1665 : dc mL_law 1665 (.aload_n 2) 1 1666 := ⟨d_aload_2 (bL (p := 1665) (v := 44) (by decide) (by decide +kernel)), rfl⟩
theorem eL_law_1666 : dc mL_law 1666 (.aload_n 0) 1 1667 := ⟨d_aload_0 (bL (p := 1666) (v := 42) (by decide) (by decide +kernel)), rfl⟩
theorem eL_law_1667 : dc mL_law 1667 (.iload 4) 2 1669 := ⟨d_iload (bL (p := 1667) (v := 21) (by decide) (by decide +kernel)) (bL (p := 1668) (v := 4) (by decide) (by decide +kernel)), rfl⟩
theorem eL_law_1669 : dc mL_law 1669 (.iconst 1) 1 1670 := ⟨d_iconst_1 (bL (p := 1669) (v := 4) (by decide) (by decide +kernel)), rfl⟩
theorem eL_law_1670 : dc mL_law 1670 (.iadd) 1 1671 := ⟨d_iadd (bL (p := 1670) (v := 96) (by decide) (by decide +kernel)), rfl⟩
theorem eL_law_1671 : dc mL_law 1671 (.iaload) 1 1672 := ⟨d_iaload (bL (p := 1671) (v := 46) (by decide) (by decide +kernel)), rfl⟩
theorem eL_law_1672 : dc mL_law 1672 (.aload_n 0) 1 1673 := ⟨d_aload_0 (bL (p := 1672) (v := 42) (by decide) (by decide +kernel)), rfl⟩
theorem eL_law_1673 : dc mL_law 1673 (.iload 4) 2 1675 := ⟨d_iload (bL (p := 1673) (v := 21) (by decide) (by decide +kernel)) (bL (p := 1674) (v := 4) (by decide) (by decide +kernel)), rfl⟩
theorem eL_law_1675 : dc mL_law 1675 (.iconst 2) 1 1676 := ⟨d_iconst_2 (bL (p := 1675) (v := 5) (by decide) (by decide +kernel)), rfl⟩
theorem eL_law_1676 : dc mL_law 1676 (.iadd) 1 1677 := ⟨d_iadd (bL (p := 1676) (v := 96) (by decide) (by decide +kernel)), rfl⟩
theorem eL_law_1677 : dc mL_law 1677 (.iaload) 1 1678 := ⟨d_iaload (bL (p := 1677) (v := 46) (by decide) (by decide +kernel)), rfl⟩
theorem eL_law_1678 : dc mL_law 1678 (.aload_n 0) 1 1679 := ⟨d_aload_0 (bL (p := 1678) (v := 42) (by decide) (by decide +kernel)), rfl⟩
theorem eL_law_1679 : dc mL_law 1679 (.iload 4) 2 1681 := ⟨d_iload (bL (p := 1679) (v := 21) (by decide) (by decide +kernel)) (bL (p := 1680) (v := 4) (by decide) (by decide +kernel)), rfl⟩
theorem eL_law_1681 : dc mL_law 1681 (.iconst 3) 1 1682 := ⟨d_iconst_3 (bL (p := 1681) (v := 6) (by decide) (by decide +kernel)), rfl⟩
theorem eL_law_1682 : dc mL_law 1682 (.iadd) 1 1683 := ⟨d_iadd (bL (p := 1682) (v := 96) (by decide) (by decide +kernel)), rfl⟩
theorem eL_law_1683 : dc mL_law 1683 (.iaload) 1 1684 := ⟨d_iaload (bL (p := 1683) (v := 46) (by decide) (by decide +kernel)), rfl⟩
theorem eL_law_1684 : dc mL_law 1684 (.aload_n 0) 1 1685 := ⟨d_aload_0 (bL (p := 1684) (v := 42) (by decide) (by decide +kernel)), rfl⟩
theorem eL_law_1685 : dc mL_law 1685 (.iload 4) 2 1687 := ⟨d_iload (bL (p := 1685) (v := 21) (by decide) (by decide +kernel)) (bL (p := 1686) (v := 4) (by decide) (by decide +kernel)), rfl⟩
theorem eL_law_1687 : dc mL_law 1687 (.iconst 4) 1 1688 := ⟨d_iconst_4 (bL (p := 1687) (v := 7) (by decide) (by decide +kernel)), rfl⟩
theorem eL_law_1688 : dc mL_law 1688 (.iadd) 1 1689 := ⟨d_iadd (bL (p := 1688) (v := 96) (by decide) (by decide +kernel)), rfl⟩
theorem eL_law_1689 : dc mL_law 1689 (.iaload) 1 1690 := ⟨d_iaload (bL (p := 1689) (v := 46) (by decide) (by decide +kernel)), rfl⟩
theorem eL_law_1690 : dc mL_law 1690 (.invokevirtual 206) 3 1693 := ⟨d_invokevirtual (bL (p := 1690) (v := 182) (by decide) (by decide +kernel)) (bL (p := 1691) (v := 0) (by decide) (by decide +kernel)) (bL (p := 1692) (v := 206) (by decide) (by decide +kernel)) (by decide), rfl⟩
theorem eL_law_1693 : dc mL_law 1693 (.istore 6) 2 1695 := ⟨d_istore (bL (p := 1693) (v := 54) (by decide) (by decide +kernel)) (bL (p := 1694) (v := 6) (by decide) (by decide +kernel)), rfl⟩
theorem eL_law_1695 : dc mL_law 1695 (.aload_n 2) 1 1696 := ⟨d_aload_2 (bL (p := 1695) (v := 44) (by decide) (by decide +kernel)), rfl⟩
theorem eL_law_1696 : dc mL_law 1696 (.invokevirtual 141) 3 1699 := ⟨d_invokevirtual (bL (p := 1696) (v := 182) (by decide) (by decide +kernel)) (bL (p := 1697) (v := 0) (by decide) (by decide +kernel)) (bL (p := 1698) (v := 141) (by decide) (by decide +kernel)) (by decide), rfl⟩
theorem eL_law_1699 : dc mL_law 1699 (.iload 5) 2 1701 := ⟨d_iload (bL (p := 1699) (v := 21) (by decide) (by decide +kernel)) (bL (p := 1700) (v := 5) (by decide) (by decide +kernel)), rfl⟩
theorem eL_law_1701 : dc mL_law 1701 (.if_icmp .eq 5) 3 1704 := ⟨d_if_icmp_eq (bL (p := 1701) (v := 159) (by decide) (by decide +kernel)) (bL (p := 1702) (v := 0) (by decide) (by decide +kernel)) (bL (p := 1703) (v := 5) (by decide) (by decide +kernel)) (by decide +kernel), rfl⟩
theorem eL_law_1704 : dc mL_law 1704 (.iconst 0) 1 1705 := ⟨d_iconst_0 (bL (p := 1704) (v := 3) (by decide) (by decide +kernel)), rfl⟩
theorem eL_law_1705 : dc mL_law 1705 (.ireturn) 1 1706 := ⟨d_ireturn (bL (p := 1705) (v := 172) (by decide) (by decide +kernel)), rfl⟩
theorem eL_law_1706 : dc mL_law 1706 (.iload 5) 2 1708 := ⟨d_iload (bL (p := 1706) (v := 21) (by decide) (by decide +kernel)) (bL (p := 1707) (v := 5) (by decide) (by decide +kernel)), rfl⟩
theorem eL_law_1708 : dc mL_law 1708 (.ifCond .ne 15) 3 1711 := ⟨d_ifCond_ne (bL (p := 1708) (v := 154) (by decide) (by decide +kernel)) (bL (p := 1709) (v := 0) (by decide) (by decide +kernel)) (bL (p := 1710) (v := 15) (by decide) (by decide +kernel)) (by decide +kernel), rfl⟩
theorem eL_law_1711 : dc mL_law 1711 (.aload_n 3) 1 1712 := ⟨d_aload_3 (bL (p := 1711) (v := 45) (by decide) (by decide +kernel)), rfl⟩
theorem eL_law_1712 : dc mL_law 1712 (.iconst 0) 1 1713 := ⟨d_iconst_0 (bL (p := 1712) (v := 3) (by decide) (by decide +kernel)), rfl⟩
theorem eL_law_1713 : dc mL_law 1713 (.laload) 1 1714 := ⟨d_laload (bL (p := 1713) (v := 47) (by decide) (by decide +kernel)), rfl⟩
theorem eL_law_1714 : dc mL_law 1714 (.iload 6) 2 1716 := ⟨d_iload (bL (p := 1714) (v := 21) (by decide) (by decide +kernel)) (bL (p := 1715) (v := 6) (by decide) (by decide +kernel)), rfl⟩
theorem eL_law_1716 : dc mL_law 1716 (.i2l) 1 1717 := ⟨d_i2l (bL (p := 1716) (v := 133) (by decide) (by decide +kernel)), rfl⟩
theorem eL_law_1717 : dc mL_law 1717 (.lcmp) 1 1718 := ⟨d_lcmp (bL (p := 1717) (v := 148) (by decide) (by decide +kernel)), rfl⟩
theorem eL_law_1718 : dc mL_law 1718 (.ifCond .eq 5) 3 1721 := ⟨d_ifCond_eq (bL (p := 1718) (v := 153) (by decide) (by decide +kernel)) (bL (p := 1719) (v := 0) (by decide) (by decide +kernel)) (bL (p := 1720) (v := 5) (by decide) (by decide +kernel)) (by decide +kernel), rfl⟩
theorem eL_law_1721 : dc mL_law 1721 (.iconst 0) 1 1722 := ⟨d_iconst_0 (bL (p := 1721) (v := 3) (by decide) (by decide +kernel)), rfl⟩
theorem eL_law_1722 : dc mL_law 1722 (.ireturn) 1 1723 := ⟨d_ireturn (bL (p := 1722) (v := 172) (by decide) (by decide +kernel)), rfl⟩
theorem eL_law_1723 : dc mL_law 1723 (.goto 1629) 3 1726 := ⟨d_goto (bL (p := 1723) (v := 167) (by decide) (by decide +kernel)) (bL (p := 1724) (v := 6) (by decide) (by decide +kernel)) (bL (p := 1725) (v := 93) (by decide) (by decide +kernel)) (by decide +kernel), rfl⟩
theorem eL_law_1726 : dc mL_law 1726 (.aload_n 1) 1 1727 := ⟨d_aload_1 (bL (p := 1726) (v := 43) (by decide) (by decide +kernel)), rfl⟩
theorem eL_law_1727 : dc mL_law 1727 (.aload_n 0) 1 1728 := ⟨d_aload_0 (bL (p := 1727) (v := 42) (by decide) (by decide +kernel)), rfl⟩
theorem eL_law_1728 : dc mL_law 1728 (.iload 4) 2 1730 := ⟨d_iload (bL (p := 1728) (v := 21) (by decide) (by decide +kernel)) (bL (p := 1729) (v := 4) (by decide) (by decide +kernel)), rfl⟩
theorem eL_law_1730 : dc mL_law 1730 (.iconst 1) 1 1731 := ⟨d_iconst_1 (bL (p := 1730) (v := 4) (by decide) (by decide +kernel)), rfl⟩
theorem eL_law_1731 : dc mL_law 1731 (.iadd) 1 1732 := ⟨d_iadd (bL (p := 1731) (v := 96) (by decide) (by decide +kernel)), rfl⟩
theorem eL_law_1732 : dc mL_law 1732 (.iaload) 1 1733 := ⟨d_iaload (bL (p := 1732) (v := 46) (by decide) (by decide +kernel)), rfl⟩
theorem eL_law_1733 : dc mL_law 1733 (.aload_n 0) 1 1734 := ⟨d_aload_0 (bL (p := 1733) (v := 42) (by decide) (by decide +kernel)), rfl⟩
theorem eL_law_1734 : dc mL_law 1734 (.iload 4) 2 1736 := ⟨d_iload (bL (p := 1734) (v := 21) (by decide) (by decide +kernel)) (bL (p := 1735) (v := 4) (by decide) (by decide +kernel)), rfl⟩
theorem eL_law_1736 : dc mL_law 1736 (.iconst 2) 1 1737 := ⟨d_iconst_2 (bL (p := 1736) (v := 5) (by decide) (by decide +kernel)), rfl⟩
theorem eL_law_1737 : dc mL_law 1737 (.iadd) 1 1738 := ⟨d_iadd (bL (p := 1737) (v := 96) (by decide) (by decide +kernel)), rfl⟩
theorem eL_law_1738 : dc mL_law 1738 (.iaload) 1 1739 := ⟨d_iaload (bL (p := 1738) (v := 46) (by decide) (by decide +kernel)), rfl⟩
theorem eL_law_1739 : dc mL_law 1739 (.aload_n 0) 1 1740 := ⟨d_aload_0 (bL (p := 1739) (v := 42) (by decide) (by decide +kernel)), rfl⟩
theorem eL_law_1740 : dc mL_law 1740 (.iload 4) 2 1742 := ⟨d_iload (bL (p := 1740) (v := 21) (by decide) (by decide +kernel)) (bL (p := 1741) (v := 4) (by decide) (by decide +kernel)), rfl⟩
theorem eL_law_1742 : dc mL_law 1742 (.iconst 3) 1 1743 := ⟨d_iconst_3 (bL (p := 1742) (v := 6) (by decide) (by decide +kernel)), rfl⟩
theorem eL_law_1743 : dc mL_law 1743 (.iadd) 1 1744 := ⟨d_iadd (bL (p := 1743) (v := 96) (by decide) (by decide +kernel)), rfl⟩
theorem eL_law_1744 : dc mL_law 1744 (.iaload) 1 1745 := ⟨d_iaload (bL (p := 1744) (v := 46) (by decide) (by decide +kernel)), rfl⟩
theorem eL_law_1745 : dc mL_law 1745 (.aload_n 0) 1 1746 := ⟨d_aload_0 (bL (p := 1745) (v := 42) (by decide) (by decide +kernel)), rfl⟩
theorem eL_law_1746 : dc mL_law 1746 (.iload 4) 2 1748 := ⟨d_iload (bL (p := 1746) (v := 21) (by decide) (by decide +kernel)) (bL (p := 1747) (v := 4) (by decide) (by decide +kernel)), rfl⟩
theorem eL_law_1748 : dc mL_law 1748 (.iconst 4) 1 1749 := ⟨d_iconst_4 (bL (p := 1748) (v := 7) (by decide) (by decide +kernel)), rfl⟩
theorem eL_law_1749 : dc mL_law 1749 (.iadd) 1 1750 := ⟨d_iadd (bL (p := 1749) (v := 96) (by decide) (by decide +kernel)), rfl⟩
theorem eL_law_1750 : dc mL_law 1750 (.iaload) 1 1751 := ⟨d_iaload (bL (p := 1750) (v := 46) (by decide) (by decide +kernel)), rfl⟩
theorem eL_law_1751 : dc mL_law 1751 (.aload_n 0) 1 1752 := ⟨d_aload_0 (bL (p := 1751) (v := 42) (by decide) (by decide +kernel)), rfl⟩
theorem eL_law_1752 : dc mL_law 1752 (.iload 4) 2 1754 := ⟨d_iload (bL (p := 1752) (v := 21) (by decide) (by decide +kernel)) (bL (p := 1753) (v := 4) (by decide) (by decide +kernel)), rfl⟩
theorem eL_law_1754 : dc mL_law 1754 (.iconst 5) 1 1755 := ⟨d_iconst_5 (bL (p := 1754) (v := 8) (by decide) (by decide +kernel)), rfl⟩
theorem eL_law_1755 : dc mL_law 1755 (.iadd) 1 1756 := ⟨d_iadd (bL (p := 1755) (v := 96) (by decide) (by decide +kernel)), rfl⟩
theorem eL_law_1756 : dc mL_law 1756 (.iaload) 1 1757 := ⟨d_iaload (bL (p := 1756) (v := 46) (by decide) (by decide +kernel)), rfl⟩
theorem eL_law_1757 : dc mL_law 1757 (.aload_n 3) 1 1758 := ⟨d_aload_3 (bL (p := 1757) (v := 45) (by decide) (by decide +kernel)), rfl⟩
theorem eL_law_1758 : dc mL_law 1758 (.invokestatic 207) 3 1761 := ⟨d_invokestatic (bL (p := 1758) (v := 184) (by decide) (by decide +kernel)) (bL (p := 1759) (v := 0) (by decide) (by decide +kernel)) (bL (p := 1760) (v := 207) (by decide) (by decide +kernel)) (by decide), rfl⟩
theorem eL_law_1761 : dc mL_law 1761 (.istore 5) 2 1763 := ⟨d_istore (bL (p := 1761) (v := 54) (by decide) (by decide +kernel)) (bL (p := 1762) (v := 5) (by decide) (by decide +kernel)), rfl⟩
theorem eL_law_1763 : dc mL_law 1763 (.aload_n 2) 1 1764 := ⟨d_aload_2 (bL (p := 1763) (v := 44) (by decide) (by decide +kernel)), rfl⟩
theorem eL_law_1764 : dc mL_law 1764 (.aload_n 0) 1 1765 := ⟨d_aload_0 (bL (p := 1764) (v := 42) (by decide) (by decide +kernel)), rfl⟩
theorem eL_law_1765 : dc mL_law 1765 (.iload 4) 2 1767 := ⟨d_iload (bL (p := 1765) (v := 21) (by decide) (by decide +kernel)) (bL (p := 1766) (v := 4) (by decide) (by decide +kernel)), rfl⟩
theorem eL_law_1767 : dc mL_law 1767 (.iconst 1) 1 1768 := ⟨d_iconst_1 (bL (p := 1767) (v := 4) (by decide) (by decide +kernel)), rfl⟩
theorem eL_law_1768 : dc mL_law 1768 (.iadd) 1 1769 := ⟨d_iadd (bL (p := 1768) (v := 96) (by decide) (by decide +kernel)), rfl⟩
theorem eL_law_1769 : dc mL_law 1769 (.iaload) 1 1770 := ⟨d_iaload (bL (p := 1769) (v := 46) (by decide) (by decide +kernel)), rfl⟩
theorem eL_law_1770 : dc mL_law 1770 (.aload_n 0) 1 1771 := ⟨d_aload_0 (bL (p := 1770) (v := 42) (by decide) (by decide +kernel)), rfl⟩
theorem eL_law_1771 : dc mL_law 1771 (.iload 4) 2 1773 := ⟨d_iload (bL (p := 1771) (v := 21) (by decide) (by decide +kernel)) (bL (p := 1772) (v := 4) (by decide) (by decide +kernel)), rfl⟩
theorem eL_law_1773 : dc mL_law 1773 (.iconst 2) 1 1774 := ⟨d_iconst_2 (bL (p := 1773) (v := 5) (by decide) (by decide +kernel)), rfl⟩
theorem eL_law_1774 : dc mL_law 1774 (.iadd) 1 1775 := ⟨d_iadd (bL (p := 1774) (v := 96) (by decide) (by decide +kernel)), rfl⟩
theorem eL_law_1775 : dc mL_law 1775 (.iaload) 1 1776 := ⟨d_iaload (bL (p := 1775) (v := 46) (by decide) (by decide +kernel)), rfl⟩
theorem eL_law_1776 : dc mL_law 1776 (.aload_n 0) 1 1777 := ⟨d_aload_0 (bL (p := 1776) (v := 42) (by decide) (by decide +kernel)), rfl⟩
theorem eL_law_1777 : dc mL_law 1777 (.iload 4) 2 1779 := ⟨d_iload (bL (p := 1777) (v := 21) (by decide) (by decide +kernel)) (bL (p := 1778) (v := 4) (by decide) (by decide +kernel)), rfl⟩
theorem eL_law_1779 : dc mL_law 1779 (.iconst 3) 1 1780 := ⟨d_iconst_3 (bL (p := 1779) (v := 6) (by decide) (by decide +kernel)), rfl⟩
theorem eL_law_1780 : dc mL_law 1780 (.iadd) 1 1781 := ⟨d_iadd (bL (p := 1780) (v := 96) (by decide) (by decide +kernel)), rfl⟩
theorem eL_law_1781 : dc mL_law 1781 (.iaload) 1 1782 := ⟨d_iaload (bL (p := 1781) (v := 46) (by decide) (by decide +kernel)), rfl⟩
theorem eL_law_1782 : dc mL_law 1782 (.aload_n 0) 1 1783 := ⟨d_aload_0 (bL (p := 1782) (v := 42) (by decide) (by decide +kernel)), rfl⟩
