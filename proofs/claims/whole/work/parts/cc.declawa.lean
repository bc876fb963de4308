theorem eL_law_0 : dc mL_law 0 (.new 8) 3 3 := ⟨d_new (bL (p := 0) (v := 187) (by decide) (by decide +kernel)) (bL (p := 1) (v := 0) (by decide) (by decide +kernel)) (bL (p := 2) (v := 8) (by decide) (by decide +kernel)) (by decide), rfl⟩
theorem eL_law_3 : dc mL_law 3 (.dup) 1 4 := ⟨d_dup (bL (p := 3) (v := 89) (by decide) (by decide +kernel)), rfl⟩
theorem eL_law_4 : dc mL_law 4 (.invokespecial 131) 3 7 := ⟨d_invokespecial (bL (p := 4) (v := 183) (by decide) (by decide +kernel)) (bL (p := 5) (v := 0) (by decide) (by decide +kernel)) (bL (p := 6) (v := 131) (by decide) (by decide +kernel)) (by decide), rfl⟩
theorem eL_law_7 : dc mL_law 7 (.astore_n 1) 1 8 := ⟨d_astore_1 (bL (p := 7) (v := 76) (by decide) (by decide +kernel)), rfl⟩
theorem eL_law_8 : dc mL_law 8 (.new 132) 3 11 := ⟨d_new (bL (p := 8) (v := 187) (by decide) (by decide +kernel)) (bL (p := 9) (v := 0) (by decide) (by decide +kernel)) (bL (p := 10) (v := 132) (by decide) (by decide +kernel)) (by decide), rfl⟩
theorem eL_law_11 : dc mL_law 11 (.dup) 1 12 := ⟨d_dup (bL (p := 11) (v := 89) (by decide) (by decide +kernel)), rfl⟩
theorem eL_law_12 : dc mL_law 12 (.invokespecial 134) 3 15 := ⟨d_invokespecial (bL (p := 12) (v := 183) (by decide) (by decide +kernel)) (bL (p := 13) (v := 0) (by decide) (by decide +kernel)) (bL (p := 14) (v := 134) (by decide) (by decide +kernel)) (by decide), rfl⟩
theorem eL_law_15 : dc mL_law 15 (.astore_n 2) 1 16 := ⟨d_astore_2 (bL (p := 15) (v := 77) (by decide) (by decide +kernel)), rfl⟩
theorem eL_law_16 : dc mL_law 16 (.iconst 1) 1 17 := ⟨d_iconst_1 (bL (p := 16) (v := 4) (by decide) (by decide +kernel)), rfl⟩
theorem eL_law_17 : dc mL_law 17 (.newarray .long) 2 19 := ⟨d_newlong (bL (p := 17) (v := 188) (by decide) (by decide +kernel)) (bL (p := 18) (v := 11) (by decide) (by decide +kernel)), rfl⟩
theorem eL_law_19 : dc mL_law 19 (.astore_n 3) 1 20 := ⟨d_astore_3 (bL (p := 19) (v := 78) (by decide) (by decide +kernel)), rfl⟩
theorem eL_law_20 : dc mL_law 20 (.iconst 0) 1 21 := ⟨d_iconst_0 (bL (p := 20) (v := 3) (by decide) (by decide +kernel)), rfl⟩
theorem eL_law_21 : dc mL_law 21 (.istore 4) 2 23 := ⟨d_istore (bL (p := 21) (v := 54) (by decide) (by decide +kernel)) (bL (p := 22) (v := 4) (by decide) (by decide +kernel)), rfl⟩
theorem eL_law_23 : dc mL_law 23 (.iload 4) 2 25 := ⟨d_iload (bL (p := 23) (v := 21) (by decide) (by decide +kernel)) (bL (p := 24) (v := 4) (by decide) (by decide +kernel)), rfl⟩
theorem eL_law_25 : dc mL_law 25 (.aload_n 0) 1 26 := ⟨d_aload_0 (bL (p := 25) (v := 42) (by decide) (by decide +kernel)), rfl⟩
theorem eL_law_26 : dc mL_law 26 (.arraylength) 1 27 := ⟨d_arraylength (bL (p := 26) (v := 190) (by decide) (by decide +kernel)), rfl⟩
theorem eL_law_27 : dc mL_law 27 (.bipush 8) 2 29 := ⟨d_bipush (bL (p := 27) (v := 16) (by decide) (by decide +kernel)) (bL (p := 28) (v := 8) (by decide) (by decide +kernel)) (by decide +kernel), rfl⟩
theorem eL_law_29 : dc mL_law 29 (.isub) 1 30 := ⟨d_isub (bL (p := 29) (v := 100) (by decide) (by decide +kernel)), rfl⟩
theorem eL_law_30 : dc mL_law 30 (.if_icmp .gt 3328) 3 33 := ⟨d_if_icmp_gt (bL (p := 30) (v := 163) (by decide) (by decide +kernel)) (bL (p := 31) (v := 13) (by decide) (by decide +kernel)) (bL (p := 32) (v := 0) (by decide) (by decide +kernel)) (by decide +kernel), rfl⟩
theorem eL_law_33 : dc mL_law 33 (.aload_n 0) 1 34 := ⟨d_aload_0 (bL (p := 33) (v := 42) (by decide) (by decide +kernel)), rfl⟩
theorem eL_law_34 : dc mL_law 34 (.iload 4) 2 36 := ⟨d_iload (bL (p := 34) (v := 21) (by decide) (by decide +kernel)) (bL (p := 35) (v := 4) (by decide) (by decide +kernel)), rfl⟩
theorem eL_law_36 : dc mL_law 36 (.iaload) 1 37 := ⟨d_iaload (bL (p := 36) (v := 46) (by decide) (by decide +kernel)), rfl⟩
theorem eL_law_37 : dc mL_law 37 (.bipush 63) 2 39 := ⟨d_bipush (bL (p := 37) (v := 16) (by decide) (by decide +kernel)) (bL (p := 38) (v := 63) (by decide) (by decide +kernel)) (by decide +kernel), rfl⟩
theorem eL_law_39 : dc mL_law 39 (.iand) 1 40 := ⟨d_iand (bL (p := 39) (v := 126) (by decide) (by decide +kernel)), rfl⟩
theorem eL_law_40 : dc mL_law 40 (.tableswitch 3312 0 36 #[164, 232, 350, 470, 566, 634, 714, 794, 807, 887, 1023, 1150, 1242, 1315, 1395, 1420, 1476, 1594, 1686, 1790, 1889, 1993, 2085, 2205, 2297, 2429, 2577, 2695, 2799, 2867, 2880, 2964, 3024, 3135, 3215, 3251, 3287]) 164 204 := ⟨(by decide +kernel), rfl⟩
theorem eL_law_204 : dc mL_law 204 (.aload_n 1) 1 205 := ⟨d_aload_1 (bL (p := 204) (v := 43) (by decide) (by decide +kernel)), rfl⟩
theorem eL_law_205 : dc mL_law 205 (.aload_n 0) 1 206 := ⟨d_aload_0 (bL (p := 205) (v := 42) (by decide) (by decide +kernel)), rfl⟩
theorem eL_law_206 : dc mL_law 206 (.iload 4) 2 208 := ⟨d_iload (bL (p := 206) (v := 21) (by decide) (by decide +kernel)) (bL (p := 207) (v := 4) (by decide) (by decide +kernel)), rfl⟩
theorem eL_law_208 : dc mL_law 208 (.iconst 1) 1 209 := ⟨d_iconst_1 (bL (p := 208) (v := 4) (by decide) (by decide +kernel)), rfl⟩
theorem eL_law_209 : dc mL_law 209 (.iadd) 1 210 := ⟨d_iadd (bL (p := 209) (v := 96) (by decide) (by decide +kernel)), rfl⟩
theorem eL_law_210 : dc mL_law 210 (.iaload) 1 211 := ⟨d_iaload (bL (p := 210) (v := 46) (by decide) (by decide +kernel)), rfl⟩
theorem eL_law_211 : dc mL_law 211 (.aload_n 0) 1 212 := ⟨d_aload_0 (bL (p := 211) (v := 42) (by decide) (by decide +kernel)), rfl⟩
theorem eL_law_212 : dc mL_law 212 (.iload 4) 2 214 := ⟨d_iload (bL (p := 212) (v := 21) (by decide) (by decide +kernel)) (bL (p := 213) (v := 4) (by decide) (by decide +kernel)), rfl⟩
theorem eL_law_214 : dc mL_law 214 (.iconst 2) 1 215 := ⟨d_iconst_2 (bL (p := 214) (v := 5) (by decide) (by decide +kernel)), rfl⟩
theorem eL_law_215 : dc mL_law 215 (.iadd) 1 216 := ⟨d_iadd (bL (p := 215) (v := 96) (by decide) (by decide +kernel)), rfl⟩
theorem eL_law_216 : dc mL_law 216 (.iaload) 1 217 := ⟨d_iaload (bL (p := 216) (v := 46) (by decide) (by decide +kernel)), rfl⟩
theorem eL_law_217 : dc mL_law 217 (.aload_n 3) 1 218 := ⟨d_aload_3 (bL (p := 217) (v := 45) (by decide) (by decide +kernel)), rfl⟩
theorem eL_law_218 : dc mL_law 218 (.invokestatic 135) 3 221 := ⟨d_invokestatic (bL (p := 218) (v := 184) (by decide) (by decide +kernel)) (bL (p := 219) (v := 0) (by decide) (by decide +kernel)) (bL (p := 220) (v := 135) (by decide) (by decide +kernel)) (by decide), rfl⟩
theorem eL_law_221 : dc mL_law 221 (.istore 5) 2 223 := ⟨d_istore (bL (p := 221) (v := 54) (by decide) (by decide +kernel)) (bL (p := 222) (v := 5) (by decide) (by decide +kernel)), rfl⟩
theorem eL_law_223 : dc mL_law 223 (.aload_n 2) 1 224 := ⟨d_aload_2 (bL (p := 223) (v := 44) (by decide) (by decide +kernel)), rfl⟩
theorem eL_law_224 : dc mL_law 224 (.aload_n 0) 1 225 := ⟨d_aload_0 (bL (p := 224) (v := 42) (by decide) (by decide +kernel)), rfl⟩
theorem eL_law_225 : dc mL_law 225 (.iload 4) 2 227 := ⟨d_iload (bL (p := 225) (v := 21) (by decide) (by decide +kernel)) (bL (p := 226) (v := 4) (by decide) (by decide +kernel)), rfl⟩
theorem eL_law_227 : dc mL_law 227 (.iconst 1) 1 228 := ⟨d_iconst_1 (bL (p := 227) (v := 4) (by decide) (by decide +kernel)), rfl⟩
theorem eL_law_228 : dc mL_law 228 (.iadd) 1 229 := ⟨d_iadd (bL (p := 228) (v := 96) (by decide) (by decide +kernel)), rfl⟩
theorem eL_law_229 : dc mL_law 229 (.iaload) 1 230 := ⟨d_iaload (bL (p := 229) (v := 46) (by decide) (by decide +kernel)), rfl⟩
theorem eL_law_230 : dc mL_law 230 (.aload_n 0) 1 231 := ⟨d_aload_0 (bL (p := 230) (v := 42) (by decide) (by decide +kernel)), rfl⟩
theorem eL_law_231 : dc mL_law 231 (.iload 4) 2 233 := ⟨d_iload (bL (p := 231) (v := 21) (by decide) (by decide +kernel)) (bL (p := 232) (v := 4) (by decide) (by decide +kernel)), rfl⟩
theorem eL_law_233 : dc mL_law 233 (.iconst 2) 1 234 := ⟨d_iconst_2 (bL (p := 233) (v := 5) (by decide) (by decide +kernel)), rfl⟩
theorem eL_law_234 : dc mL_law 234 (.iadd) 1 235 := ⟨d_iadd (bL (p := 234) (v := 96) (by decide) (by decide +kernel)), rfl⟩
theorem eL_law_235 : dc mL_law 235 (.iaload) 1 236 := ⟨d_iaload (bL (p := 235) (v := 46) (by decide) (by decide +kernel)), rfl⟩
theorem eL_law_236 : dc mL_law 236 (.invokevirtual 140) 3 239 := ⟨d_invokevirtual (bL (p := 236) (v := 182) (by decide) (by decide +kernel)) (bL (p := 237) (v := 0) (by decide) (by decide +kernel)) (bL (p := 238) (v := 140) (by decide) (by decide +kernel)) (by decide), rfl⟩
theorem eL_law_239 : dc mL_law 239 (.istore 6) 2 241 := ⟨d_istore (bL (p := 239) (v := 54) (by decide) (by decide +kernel)) (bL (p := 240) (v := 6) (by decide) (by decide +kernel)), rfl⟩
theorem eL_law_241 : dc mL_law 241 (.aload_n 2) 1 242 := ⟨d_aload_2 (bL (p := 241) (v := 44) (by decide) (by decide +kernel)), rfl⟩
theorem eL_law_242 : dc mL_law 242 (.invokevirtual 141) 3 245 := ⟨d_invokevirtual (bL (p := 242) (v := 182) (by decide) (by decide +kernel)) (bL (p := 243) (v := 0) (by decide) (by decide +kernel)) (bL (p := 244) (v := 141) (by decide) (by decide +kernel)) (by decide), rfl⟩
theorem eL_law_245 : dc mL_law 245 (.iload 5) 2 247 := ⟨d_iload (bL (p := 245) (v := 21) (by decide) (by decide +kernel)) (bL (p := 246) (v := 5) (by decide) (by decide +kernel)), rfl⟩
theorem eL_law_247 : dc mL_law 247 (.if_icmp .eq 5) 3 250 := ⟨d_if_icmp_eq (bL (p := 247) (v := 159) (by decide) (by decide +kernel)) (bL (p := 248) (v := 0) (by decide) (by decide +kernel)) (bL (p := 249) (v := 5) (by decide) (by decide +kernel)) (by decide +kernel), rfl⟩
theorem eL_law_250 : dc mL_law 250 (.iconst 0) 1 251 := ⟨d_iconst_0 (bL (p := 250) (v := 3) (by decide) (by decide +kernel)), rfl⟩
theorem eL_law_251 : dc mL_law 251 (.ireturn) 1 252 := ⟨d_ireturn (bL (p := 251) (v := 172) (by decide) (by decide +kernel)), rfl⟩
theorem eL_law_252 : dc mL_law 252 (.iload 5) 2 254 := ⟨d_iload (bL (p := 252) (v := 21) (by decide) (by decide +kernel)) (bL (p := 253) (v := 5) (by decide) (by decide +kernel)), rfl⟩
theorem eL_law_254 : dc mL_law 254 (.ifCond .ne 15) 3 257 := ⟨d_ifCond_ne (bL (p := 254) (v := 154) (by decide) (by decide +kernel)) (bL (p := 255) (v := 0) (by decide) (by decide +kernel)) (bL (p := 256) (v := 15) (by decide) (by decide +kernel)) (by decide +kernel), rfl⟩
theorem eL_law_257 : dc mL_law 257 (.aload_n 3) 1 258 := ⟨d_aload_3 (bL (p := 257) (v := 45) (by decide) (by decide +kernel)), rfl⟩
theorem eL_law_258 : dc mL_law 258 (.iconst 0) 1 259 := ⟨d_iconst_0 (bL (p := 258) (v := 3) (by decide) (by decide +kernel)), rfl⟩
theorem eL_law_259 : dc mL_law 259 (.laload) 1 260 := ⟨d_laload (bL (p := 259) (v := 47) (by decide) (by decide +kernel)), rfl⟩
theorem eL_law_260 : dc mL_law 260 (.iload 6) 2 262 := ⟨d_iload (bL (p := 260) (v := 21) (by decide) (by decide +kernel)) (bL (p := 261) (v := 6) (by decide) (by decide +kernel)), rfl⟩
theorem eL_law_262 : dc mL_law 262 (.i2l) 1 263 := ⟨d_i2l (bL (p := 262) (v := 133) (by decide) (by decide +kernel)), rfl⟩
theorem eL_law_263 : dc mL_law 263 (.lcmp) 1 264 := ⟨d_lcmp (bL (p := 263) (v := 148) (by decide) (by decide +kernel)), rfl⟩
theorem eL_law_264 : dc mL_law 264 (.ifCond .eq 5) 3 267 := ⟨d_ifCond_eq (bL (p := 264) (v := 153) (by decide) (by decide +kernel)) (bL (p := 265) (v := 0) (by decide) (by decide +kernel)) (bL (p := 266) (v := 5) (by decide) (by decide +kernel)) (by decide +kernel), rfl⟩
theorem eL_law_267 : dc mL_law 267 (.iconst 0) 1 268 := ⟨d_iconst_0 (bL (p := 267) (v := 3) (by decide) (by decide +kernel)), rfl⟩
theorem eL_law_268 : dc mL_law 268 (.ireturn) 1 269 := ⟨d_ireturn (bL (p := 268) (v := 172) (by decide) (by decide +kernel)), rfl⟩
theorem eL_law_269 : dc mL_law 269 (.goto 3083) 3 272 := ⟨d_goto (bL (p := 269) (v := 167) (by decide) (by decide +kernel)) (bL (p := 270) (v := 12) (by decide) (by decide +kernel)) (bL (p := 271) (v := 11) (by decide) (by decide +kernel)) (by decide +kernel), rfl⟩
theorem eL_law_272 : dc mL_law 272 (.aload_n 1) 1 273 := ⟨d_aload_1 (bL (p := 272) (v := 43) (by decide) (by decide +kernel)), rfl⟩
theorem eL_law_273 : dc mL_law 273 (.aload_n 0) 1 274 := ⟨d_aload_0 (bL (p := 273) (v := 42) (by decide) (by decide +kernel)), rfl⟩
theorem eL_law_274 : dc mL_law 274 (.iload 4) 2 276 := ⟨d_iload (bL (p := 274) (v := 21) (by decide) (by decide +kernel)) (bL (p := 275) (v := 4) (by decide) (by decide +kernel)), rfl⟩
theorem eL_law_276 : dc mL_law 276 (.iconst 1) 1 277 := ⟨d_iconst_1 (bL (p := 276) (v := 4) (by decide) (by decide +kernel)), rfl⟩
theorem eL_law_277 : dc mL_law 277 (.iadd) 1 278 := ⟨d_iadd (bL (p := 277) (v := 96) (by decide) (by decide +kernel)), rfl⟩
theorem eL_law_278 : dc mL_law 278 (.iaload) 1 279 := ⟨d_iaload (bL (p := 278) (v := 46) (by decide) (by decide +kernel)), rfl⟩
theorem eL_law_279 : dc mL_law 279 (.aload_n 0) 1 280 := ⟨d_aload_0 (bL (p := 279) (v := 42) (by decide) (by decide +kernel)), rfl⟩
theorem eL_law_280 : dc mL_law 280 (.iload 4) 2 282 := ⟨d_iload (bL (p := 280) (v := 21) (by decide) (by decide +kernel)) (bL (p := 281) (v := 4) (by decide) (by decide +kernel)), rfl⟩
theorem eL_law_282 : dc mL_law 282 (.iconst 2) 1 283 := ⟨d_iconst_2 (bL (p := 282) (v := 5) (by decide) (by decide +kernel)), rfl⟩
theorem eL_law_283 : dc mL_law 283 (.iadd) 1 284 := ⟨d_iadd (bL (p := 283) (v := 96) (by decide) (by decide +kernel)), rfl⟩
theorem eL_law_284 : dc mL_law 284 (.iaload) 1 285 := ⟨d_iaload (bL (p := 284) (v := 46) (by decide) (by decide +kernel)), rfl⟩
theorem eL_law_285 : dc mL_law 285 (.aload_n 0) 1 286 := ⟨d_aload_0 (bL (p := 285) (v := 42) (by decide) (by decide +kernel)), rfl⟩
theorem eL_law_286 : dc mL_law 286 (.iload 4) 2 288 := ⟨d_iload (bL (p := 286) (v := 21) (by decide) (by decide +kernel)) (bL (p := 287) (v := 4) (by decide) (by decide +kernel)), rfl⟩
theorem eL_law_288 : dc mL_law 288 (.iconst 3) 1 289 := ⟨d_iconst_3 (bL (p := 288) (v := 6) (by decide) (by decide +kernel)), rfl⟩
theorem eL_law_289 : dc mL_law 289 (.iadd) 1 290 := ⟨d_iadd (bL (p := 289) (v := 96) (by decide) (by decide +kernel)), rfl⟩
theorem eL_law_290 : dc mL_law 290 (.iaload) 1 291 := ⟨d_iaload (bL (p := 290) (v := 46) (by decide) (by decide +kernel)), rfl⟩
theorem eL_law_291 : dc mL_law 291 (.aload_n 0) 1 292 := ⟨d_aload_0 (bL (p := 291) (v := 42) (by decide) (by decide +kernel)), rfl⟩
theorem eL_law_292 : dc mL_law 292 (.iload 4) 2 294 := ⟨d_iload (bL (p := 292) (v := 21) (by decide) (by decide +kernel)) (bL (p := 293) (v := 4) (by decide) (by decide +kernel)), rfl⟩
theorem eL_law_294 : dc mL_law 294 (.iconst 4) 1 295 := ⟨d_iconst_4 (bL (p := 294) (v := 7) (by decide) (by decide +kernel)), rfl⟩
theorem eL_law_295 : dc mL_law 295 (.iadd) 1 296 := ⟨d_iadd (bL (p := 295) (v := 96) (by decide) (by decide +kernel)), rfl⟩
theorem eL_law_296 : dc mL_law 296 (.iaload) 1 297 := ⟨d_iaload (bL (p := 296) (v := 46) (by decide) (by decide +kernel)), rfl⟩
theorem eL_law_297 : dc mL_law 297 (.aload_n 0) 1 298 := ⟨d_aload_0 (bL (p := 297) (v := 42) (by decide) (by decide +kernel)), rfl⟩
theorem eL_law_298 : dc mL_law 298 (.iload 4) 2 300 := ⟨d_iload (bL (p := 298) (v := 21) (by decide) (by decide +kernel)) (bL (p := 299) (v := 4) (by decide) (by decide +kernel)), rfl⟩
theorem eL_law_300 : dc mL_law 300 (.iconst 5) 1 301 := ⟨d_iconst_5 (bL (p := 300) (v := 8) (by decide) (by decide +kernel)), rfl⟩
theorem eL_law_301 : dc mL_law 301 (.iadd) 1 302 := ⟨d_iadd (bL (p := 301) (v := 96) (by decide) (by decide +kernel)), rfl⟩
theorem eL_law_302 : dc mL_law 302 (.iaload) 1 303 := ⟨d_iaload (bL (p := 302) (v := 46) (by decide) (by decide +kernel)), rfl⟩
theorem eL_law_303 : dc mL_law 303 (.aload_n 0) 1 304 := ⟨d_aload_0 (bL (p := 303) (v := 42) (by decide) (by decide +kernel)), rfl⟩
theorem eL_law_304 : dc mL_law 304 (.iload 4) 2 306 := ⟨d_iload (bL (p := 304) (v := 21) (by decide) (by decide +kernel)) (bL (p := 305) (v := 4) (by decide) (by decide +kernel)), rfl⟩
theorem eL_law_306 : dc mL_law 306 (.bipush 6) 2 308 := ⟨d_bipush (bL (p := 306) (v := 16) (by decide) (by decide +kernel)) (bL (p := 307) (v := 6) (by decide) (by decide +kernel)) (by decide +kernel), rfl⟩
theorem eL_law_308 : dc mL_law 308 (.iadd) 1 309 := ⟨d_iadd (bL (p := 308) (v := 96) (by decide) (by decide +kernel)), rfl⟩
theorem eL_law_309 : dc mL_law 309 (.iaload) 1 310 := ⟨d_iaload (bL (p := 309) (v := 46) (by decide) (by decide +kernel)), rfl⟩
theorem eL_law_310 : dc mL_law 310 (.aload_n 3) 1 311 := ⟨d_aload_3 (bL (p := 310) (v := 45) (by decide) (by decide +kernel)), rfl⟩
theorem eL_law_311 : dc mL_law 311 (.invokestatic 145) 3 314 := ⟨d_invokestatic (bL (p := 311) (v := 184) (by decide) (by decide +kernel)) (bL (p := 312) (v := 0) (by decide) (by decide +kernel)) (bL (p := 313) (v := 145) (by decide) (by decide +kernel)) (by decide), rfl⟩
theorem eL_law_314 : dc mL_law 314 (.istore 5) 2 316 := ⟨d_istore (bL (p := 314) (v := 54) (by decide) (by decide +kernel)) (bL (p := 315) (v := 5) (by decide) (by decide +kernel)), rfl⟩
theorem eL_law_316 : dc mL_law 316 (.aload_n 2) 1 317 := ⟨d_aload_2 (bL (p := 316) (v := 44) (by decide) (by decide +kernel)), rfl⟩
theorem eL_law_317 : dc mL_law 317 (.aload_n 0) 1 318 := ⟨d_aload_0 (bL (p := 317) (v := 42) (by decide) (by decide +kernel)), rfl⟩
theorem eL_law_318 : dc mL_law 318 (.iload 4) 2 320 := ⟨d_iload (bL (p := 318) (v := 21) (by decide) (by decide +kernel)) (bL (p := 319) (v := 4) (by decide) (by decide +kernel)), rfl⟩
theorem eL_law_320 : dc mL_law 320 (.iconst 1) 1 321 := ⟨d_iconst_1 (bL (p := 320) (v := 4) (by decide) (by decide +kernel)), rfl⟩
theorem eL_law_321 : dc mL_law 321 (.iadd) 1 322 := ⟨d_iadd (bL (p := 321) (v := 96) (by decide) (by decide +kernel)), rfl⟩
theorem eL_law_322 : dc mL_law 322 (.iaload) 1 323 := ⟨d_iaload (bL (p := 322) (v := 46) (by decide) (by decide +kernel)), rfl⟩
theorem eL_law_323 : dc mL_law 323 (.aload_n 0) 1 324 := ⟨d_aload_0 (bL (p := 323) (v := 42) (by decide) (by decide +kernel)), rfl⟩
theorem eL_law_324 : dc mL_law 324 (.iload 4) 2 326 := ⟨d_iload (bL (p := 324) (v := 21) (by decide) (by decide +kernel)) (bL (p := 325) (v := 4) (by decide) (by decide +kernel)), rfl⟩
theorem eL_law_326 : dc mL_law 326 (.iconst 2) 1 327 := ⟨d_iconst_2 (bL (p := 326) (v := 5) (by decide) (by decide +kernel)), rfl⟩
theorem eL_law_327 : dc mL_law 327 (.iadd) 1 328 := ⟨d_iadd (bL (p := 327) (v := 96) (by decide) (by decide +kernel)), rfl⟩
theorem eL_law_328 : dc mL_law 328 (.iaload) 1 329 := ⟨d_iaload (bL (p := 328) (v := 46) (by decide) (by decide +kernel)), rfl⟩
theorem eL_law_329 : dc mL_law 329 (.aload_n 0) 1 330 := ⟨d_aload_0 (bL (p := 329) (v := 42) (by decide) (by decide +kernel)), rfl⟩
theorem eL_law_330 : dc mL_law 330 (.iload 4) 2 332 := ⟨d_iload (bL (p := 330) (v := 21) (by decide) (by decide +kernel)) (bL (p := 331) (v := 4) (by decide) (by decide +kernel)), rfl⟩
theorem eL_law_332 : dc mL_law 332 (.iconst 3) 1 333 := ⟨d_iconst_3 (bL (p := 332) (v := 6) (by decide) (by decide +kernel)), rfl⟩
theorem eL_law_333 : dc mL_law 333 (.iadd) 1 334 := ⟨d_iadd (bL (p := 333) (v := 96) (by decide) (by decide +kernel)), rfl⟩
theorem eL_law_334 : dc mL_law 334 (.iaload) 1 335 := ⟨d_iaload (bL (p := 334) (v := 46) (by decide) (by decide +kernel)), rfl⟩
theorem eL_law_335 : dc mL_law 335 (.aload_n 0) 1 336 := ⟨d_aload_0 (bL (p := 335) (v := 42) (by decide) (by decide +kernel)), rfl⟩
theorem eL_law_336 : dc mL_law 336 (.iload 4) 2 338 := ⟨d_iload (bL (p := 336) (v := 21) (by decide) (by decide +kernel)) (bL (p := 337) (v := 4) (by decide) (by decide +kernel)), rfl⟩
theorem eL_law_338 : dc mL_law 338 (.iconst 4) 1 339 := ⟨d_iconst_4 (bL (p := 338) (v := 7) (by decide) (by decide +kernel)), rfl⟩
theorem eL_law_339 : dc mL_law 339 (.iadd) 1 340 := ⟨d_iadd (bL (p := 339) (v := 96) (by decide) (by decide +kernel)), rfl⟩
theorem eL_law_340 : dc mL_law 340 (.iaload) 1 341 := ⟨d_iaload (bL (p := 340) (v := 46) (by decide) (by decide +kernel)), rfl⟩
theorem eL_law_341 : dc mL_law 341 (.aload_n 0) 1 342 := ⟨d_aload_0 (bL (p := 341) (v := 42) (by decide) (by decide +kernel)), rfl⟩
theorem eL_law_342 : dc mL_law 342 (.iload 4) 2 344 := ⟨d_iload (bL (p := 342) (v := 21) (by decide) (by decide +kernel)) (bL (p := 343) (v := 4) (by decide) (by decide +kernel)), rfl⟩
theorem eL_law_344 : dc mL_law 344 (.iconst 5) 1 345 := ⟨d_iconst_5 (bL (p := 344) (v := 8) (by decide) (by decide +kernel)), rfl⟩
theorem eL_law_345 : dc mL_law 345 (.iadd) 1 346 := ⟨d_iadd (bL (p := 345) (v := 96) (by decide) (by decide +kernel)), rfl⟩
theorem eL_law_346 : dc mL_law 346 (.iaload) 1 347 := ⟨d_iaload (bL (p := 346) (v := 46) (by decide) (by decide +kernel)), rfl⟩
theorem eL_law_347 : dc mL_law 347 (.aload_n 0) 1 348 := ⟨d_aload_0 (bL (p := 347) (v := 42) (by decide) (by decide +kernel)), rfl⟩
theorem eL_law_348 : dc mL_law 348 (.iload 4) 2 350 := ⟨d_iload (bL (p := 348) (v := 21) (by decide) (by decide +kernel)) (bL (p := 349) (v := 4) (by decide) (by decide +kernel)), rfl⟩
theorem eL_law_350 : dc mL_law 350 (.bipush 6) 2 352 := ⟨d_bipush (bL (p := 350) (v := 16) (by decide) (by decide +kernel)) (bL (p := 351) (v := 6) (by decide) (by decide +kernel)) (by decide +kernel), rfl⟩
theorem eL_law_352 : dc mL_law 352 (.iadd) 1 353 := ⟨d_iadd (bL (p := 352) (v := 96) (by decide) (by decide +kernel)), rfl⟩
theorem eL_law_353 : dc mL_law 353 (.iaload) 1 354 := ⟨d_iaload (bL (p := 353) (v := 46) (by decide) (by decide +kernel)), rfl⟩
theorem eL_law_354 : dc mL_law 354 (.invokevirtual 148) 3 357 := ⟨d_invokevirtual (bL (p := 354) (v := 182) (by decide) (by decide +kernel)) (bL (p := 355) (v := 0) (by decide) (by decide +kernel)) (bL (p := 356) (v := 148) (by decide) (by decide +kernel)) (by decide), rfl⟩
theorem eL_law_357 : dc mL_law 357 (.istore 6) 2 359 := ⟨d_istore (bL (p := 357) (v := 54) (by decide) (by decide +kernel)) (bL (p := 358) (v := 6) (by decide) (by decide +kernel)), rfl⟩
theorem eL_law_359 : dc mL_law 359 (.aload_n 2) 1 360 := ⟨d_aload_2 (bL (p := 359) (v := 44) (by decide) (by decide +kernel)), rfl⟩
theorem eL_law_360 : dc mL_law 360 (.invokevirtual 141) 3 363 := ⟨d_invokevirtual (bL (p := 360) (v := 182) (by decide) (by decide +kernel)) (bL (p := 361) (v := 0) (by decide) (by decide +kernel)) (bL (p := 362) (v := 141) (by decide) (by decide +kernel)) (by decide), rfl⟩
theorem eL_law_363 : dc mL_law 363 (.iload 5) 2 365 := ⟨d_iload (bL (p := 363) (v := 21) (by decide) (by decide +kernel)) (bL (p := 364) (v := 5) (by decide) (by decide +kernel)), rfl⟩
theorem eL_law_365 : dc mL_law 365 (.if_icmp .eq 5) 3 368 := ⟨d_if_icmp_eq (bL (p := 365) (v := 159) (by decide) (by decide +kernel)) (bL (p := 366) (v := 0) (by decide) (by decide +kernel)) (bL (p := 367) (v := 5) (by decide) (by decide +kernel)) (by decide +kernel), rfl⟩
theorem eL_law_368 : dc mL_law 368 (.iconst 0) 1 369 := ⟨d_iconst_0 (bL (p := 368) (v := 3) (by decide) (by decide +kernel)), rfl⟩
theorem eL_law_369 : dc mL_law 369 (.ireturn) 1 370 := ⟨d_ireturn (bL (p := 369) (v := 172) (by decide) (by decide +kernel)), rfl⟩
theorem eL_law_370 : dc mL_law 370 (.iload 5) 2 372 := ⟨d_iload (bL (p := 370) (v := 21) (by decide) (by decide +kernel)) (bL (p := 371) (v := 5) (by decide) (by decide +kernel)), rfl⟩
theorem eL_law_372 : dc mL_law 372 (.ifCond .ne 15) 3 375 := ⟨d_ifCond_ne (bL (p := 372) (v := 154) (by decide) (by decide +kernel)) (bL (p := 373) (v := 0) (by decide) (by decide +kernel)) (bL (p := 374) (v := 15) (by decide) (by decide +kernel)) (by decide +kernel), rfl⟩
theorem eL_law_375 : dc mL_law 375 (.aload_n 3) 1 376 := ⟨d_aload_3 (bL (p := 375) (v := 45) (by decide) (by decide +kernel)), rfl⟩
theorem eL_law_376 : dc mL_law 376 (.iconst 0) 1 377 := ⟨d_iconst_0 (bL (p := 376) (v := 3) (by decide) (by decide +kernel)), rfl⟩
theorem eL_law_377 : dc mL_law 377 (.laload) 1 378 := ⟨d_laload (bL (p := 377) (v := 47) (by decide) (by decide +kernel)), rfl⟩
theorem eL_law_378 : dc mL_law 378 (.iload 6) 2 380 := ⟨d_iload (bL (p := 378) (v := 21) (by decide) (by decide +kernel)) (bL (p := 379) (v := 6) (by decide) (by decide +kernel)), rfl⟩
theorem eL_law_380 : dc mL_law 380 (.i2l) 1 381 := ⟨d_i2l (bL (p := 380) (v := 133) (by decide) (by decide +kernel)), rfl⟩
theorem eL_law_381 : dc mL_law 381 (.lcmp) 1 382 := ⟨d_lcmp (bL (p := 381) (v := 148) (by decide) (by decide +kernel)), rfl⟩
theorem eL_law_382 : dc mL_law 382 (.ifCond .eq 5) 3 385 := ⟨d_ifCond_eq (bL (p := 382) (v := 153) (by decide) (by decide +kernel)) (bL (p := 383) (v := 0) (by decide) (by decide +kernel)) (bL (p := 384) (v := 5) (by decide) (by decide +kernel)) (by decide +kernel), rfl⟩
theorem eL_law_385 : dc mL_law 385 (.iconst 0) 1 386 := ⟨d_iconst_0 (bL (p := 385) (v := 3) (by decide) (by decide +kernel)), rfl⟩
theorem eL_law_386 : dc mL_law 386 (.ireturn) 1 387 := ⟨d_ireturn (bL (p := 386) (v := 172) (by decide) (by decide +kernel)), rfl⟩
theorem eL_law_387 : dc mL_law 387 (.goto 2965) 3 390 := ⟨d_goto (bL (p := 387) (v := 167) (by decide) (by decide +kernel)) (bL (p := 388) (v := 11) (by decide) (by decide +kernel)) (bL (p := 389) (v := 149) (by decide) (by decide +kernel)) (by decide +kernel), rfl⟩
theorem eL_law_390 : dc mL_law 390 (.aload_n 1) 1 391 := ⟨d_aload_1 (bL (p := 390) (v := 43) (by decide) (by decide +kernel)), rfl⟩
theorem eL_law_391 : dc mL_law 391 (.aload_n 0) 1 392 := ⟨d_aload_0 (bL (p := 391) (v := 42) (by decide) (by decide +kernel)), rfl⟩
theorem eL_law_392 : dc mL_law 392 (.iload 4) 2 394 := ⟨d_iload (bL (p := 392) (v := 21) (by decide) (by decide +kernel)) (bL (p := 393) (v := 4) (by decide) (by decide +kernel)), rfl⟩
theorem eL_law_394 : dc mL_law 394 (.iconst 1) 1 395 := ⟨d_iconst_1 (bL (p := 394) (v := 4) (by decide) (by decide +kernel)), rfl⟩
theorem eL_law_395 : dc mL_law 395 (.iadd) 1 396 := ⟨d_iadd (bL (p := 395) (v := 96) (by decide) (by decide +kernel)), rfl⟩
theorem eL_law_396 : dc mL_law 396 (.iaload) 1 397 := ⟨d_iaload (bL (p := 396) (v := 46) (by decide) (by decide +kernel)), rfl⟩
theorem eL_law_397 : dc mL_law 397 (.aload_n 0) 1 398 := ⟨d_aload_0 (bL (p := 397) (v := 42) (by decide) (by decide +kernel)), rfl⟩
theorem eL_law_398 : dc mL_law 398 (.iload 4) 2 400 := ⟨d_iload (bL (p := 398) (v := 21) (by decide) (by decide +kernel)) (bL (p := 399) (v := 4) (by decide) (by decide +kernel)), rfl⟩
theorem eL_law_400 : dc mL_law 400 (.iconst 2) 1 401 := ⟨d_iconst_2 (bL (p := 400) (v := 5) (by decide) (by decide +kernel)), rfl⟩
theorem eL_law_401 : dc mL_law 401 (.iadd) 1 402 := ⟨d_iadd (bL (p := 401) (v := 96) (by decide) (by decide +kernel)), rfl⟩
theorem eL_law_402 : dc mL_law 402 (.iaload) 1 403 := ⟨d_iaload (bL (p := 402) (v := 46) (by decide) (by decide +kernel)), rfl⟩
theorem eL_law_403 : dc mL_law 403 (.aload_n 0) 1 404 := ⟨d_aload_0 (bL (p := 403) (v := 42) (by decide) (by decide +kernel)), rfl⟩
theorem eL_law_404 : dc mL_law 404 (.iload 4) 2 406 := ⟨d_iload (bL (p := 404) (v := 21) (by decide) (by decide +kernel)) (bL (p := 405) (v := 4) (by decide) (by decide +kernel)), rfl⟩
theorem eL_law_406 : dc mL_law 406 (.iconst 3) 1 407 := ⟨d_iconst_3 (bL (p := 406) (v := 6) (by decide) (by decide +kernel)), rfl⟩
theorem eL_law_407 : dc mL_law 407 (.iadd) 1 408 := ⟨d_iadd (bL (p := 407) (v := 96) (by decide) (by decide +kernel)), rfl⟩
theorem eL_law_408 : dc mL_law 408 (.iaload) 1 409 := ⟨d_iaload (bL (p := 408) (v := 46) (by decide) (by decide +kernel)), rfl⟩
theorem eL_law_409 : dc mL_law 409 (.ifCond .eq 7) 3 412 := ⟨d_ifCond_eq (bL (p := 409) (v := 153) (by decide) (by decide +kernel)) (bL (p := 410) (v := 0) (by decide) (by decide +kernel)) (bL (p := 411) (v := 7) (by decide) (by decide +kernel)) (by decide +kernel), rfl⟩
theorem eL_law_412 : dc mL_law 412 (.iconst 1) 1 413 := ⟨d_iconst_1 (bL (p := 412) (v := 4) (by decide) (by decide +kernel)), rfl⟩
theorem eL_law_413 : dc mL_law 413 (.goto 4) 3 416 := ⟨d_goto (bL (p := 413) (v := 167) (by decide) (by decide +kernel)) (bL (p := 414) (v := 0) (by decide) (by decide +kernel)) (bL (p := 415) (v := 4) (by decide) (by decide +kernel)) (by decide +kernel), rfl⟩
theorem eL_law_416 : dc mL_law 416 (.iconst 0) 1 417 := ⟨d_iconst_0 (bL (p := 416) (v := 3) (by decide) (by decide +kernel)), rfl⟩
theorem eL_law_417 : dc mL_law 417 (.aload_n 0) 1 418 := ⟨d_aload_0 (bL (p := 417) (v := 42) (by decide) (by decide +kernel)), rfl⟩
theorem eL_law_418 : dc mL_law 418 (.iload 4) 2 420 := ⟨d_iload (bL (p := 418) (v := 21) (by decide) (by decide +kernel)) (bL (p := 419) (v := 4) (by decide) (by decide +kernel)), rfl⟩
theorem eL_law_420 : dc mL_law 420 (.iconst 4) 1 421 := ⟨d_iconst_4 (bL (p := 420) (v := 7) (by decide) (by decide +kernel)), rfl⟩
theorem eL_law_421 : dc mL_law 421 (.iadd) 1 422 := ⟨d_iadd (bL (p := 421) (v := 96) (by decide) (by decide +kernel)), rfl⟩
theorem eL_law_422 : dc mL_law 422 (.iaload) 1 423 := ⟨d_iaload (bL (p := 422) (v := 46) (by decide) (by decide +kernel)), rfl⟩
theorem eL_law_423 : dc mL_law 423 (.aload_n 0) 1 424 := ⟨d_aload_0 (bL (p := 423) (v := 42) (by decide) (by decide +kernel)), rfl⟩
theorem eL_law_424 : dc mL_law 424 (.iload 4) 2 426 := ⟨d_iload (bL (p := 424) (v := 21) (by decide) (by decide +kernel)) (bL (p := 425) (v := 4) (by decide) (by decide +kernel)), rfl⟩
theorem eL_law_426 : dc mL_law 426 (.iconst 5) 1 427 := ⟨d_iconst_5 (bL (p := 426) (v := 8) (by decide) (by decide +kernel)), rfl⟩
theorem eL_law_427 : dc mL_law 427 (.iadd) 1 428 := ⟨d_iadd (bL (p := 427) (v := 96) (by decide) (by decide +kernel)), rfl⟩
theorem eL_law_428 : dc mL_law 428 (.iaload) 1 429 := ⟨d_iaload (bL (p := 428) (v := 46) (by decide) (by decide +kernel)), rfl⟩
theorem eL_law_429 : dc mL_law 429 (.aload_n 3) 1 430 := ⟨d_aload_3 (bL (p := 429) (v := 45) (by decide) (by decide +kernel)), rfl⟩
theorem eL_law_430 : dc mL_law 430 (.invokestatic 149) 3 433 := ⟨d_invokestatic (bL (p := 430) (v := 184) (by decide) (by decide +kernel)) (bL (p := 431) (v := 0) (by decide) (by decide +kernel)) (bL (p := 432) (v := 149) (by decide) (by decide +kernel)) (by decide), rfl⟩
theorem eL_law_433 : dc mL_law 433 (.istore 5) 2 435 := ⟨d_istore (bL (p := 433) (v := 54) (by decide) (by decide +kernel)) (bL (p := 434) (v := 5) (by decide) (by decide +kernel)), rfl⟩
theorem eL_law_435 : dc mL_law 435 (.aload_n 2) 1 436 := ⟨d_aload_2 (bL (p := 435) (v := 44) (by decide) (by decide +kernel)), rfl⟩
theorem eL_law_436 : dc mL_law 436 (.aload_n 0) 1 437 := ⟨d_aload_0 (bL (p := 436) (v := 42) (by decide) (by decide +kernel)), rfl⟩
theorem eL_law_437 : dc mL_law 437 (.iload 4) 2 439 := ⟨d_iload (bL (p := 437) (v := 21) (by decide) (by decide +kernel)) (bL (p := 438) (v := 4) (by decide) (by decide +kernel)), rfl⟩
theorem eL_law_439 : dc mL_law 439 (.iconst 1) 1 440 := ⟨d_iconst_1 (bL (p := 439) (v := 4) (by decide) (by decide +kernel)), rfl⟩
theorem eL_law_440 : dc mL_law 440 (.iadd) 1 441 := ⟨d_iadd (bL (p := 440) (v := 96) (by decide) (by decide +kernel)), rfl⟩
theorem eL_law_441 : dc mL_law 441 (.iaload) 1 442 := ⟨d_iaload (bL (p := 441) (v := 46) (by decide) (by decide +kernel)), rfl⟩
theorem eL_law_442 : dc mL_law 442 (.aload_n 0) 1 443 := ⟨d_aload_0 (bL (p := 442) (v := 42) (by decide) (by decide +kernel)), rfl⟩
theorem eL_law_443 : dc mL_law 443 (.iload 4) 2 445 := ⟨d_iload (bL (p := 443) (v := 21) (by decide) (by decide +kernel)) (bL (p := 444) (v := 4) (by decide) (by decide +kernel)), rfl⟩
theorem eL_law_445 : dc mL_law 445 (.iconst 2) 1 446 := ⟨d_iconst_2 (bL (p := 445) (v := 5) (by decide) (by decide +kernel)), rfl⟩
theorem eL_law_446 : dc mL_law 446 (.iadd) 1 447 := ⟨d_iadd (bL (p := 446) (v := 96) (by decide) (by decide +kernel)), rfl⟩
theorem eL_law_447 : dc mL_law 447 (.iaload) 1 448 := ⟨d_iaload (bL (p := 447) (v := 46) (by decide) (by decide +kernel)), rfl⟩
theorem eL_law_448 : dc mL_law 448 (.aload_n 0) 1 449 := ⟨d_aload_0 (bL (p := 448) (v := 42) (by decide) (by decide +kernel)), rfl⟩
theorem eL_law_449 : dc mL_law 449 (.iload 4) 2 451 := ⟨d_iload (bL (p := 449) (v := 21) (by decide) (by decide +kernel)) (bL (p := 450) (v := 4) (by decide) (by decide +kernel)), rfl⟩
theorem eL_law_451 : dc mL_law 451 (.iconst 3) 1 452 := ⟨d_iconst_3 (bL (p := 451) (v := 6) (by decide) (by decide +kernel)), rfl⟩
theorem eL_law_452 : dc mL_law 452 (.iadd) 1 453 := ⟨d_iadd (bL (p := 452) (v := 96) (by decide) (by decide +kernel)), rfl⟩
theorem eL_law_453 : dc mL_law 453 (.iaload) 1 454 := ⟨d_iaload (bL (p := 453) (v := 46) (by decide) (by decide +kernel)), rfl⟩
theorem eL_law_454 : dc mL_law 454 (.ifCond .eq 7) 3 457 := ⟨d_ifCond_eq (bL (p := 454) (v := 153) (by decide) (by decide +kernel)) (bL (p := 455) (v := 0) (by decide) (by decide +kernel)) (bL (p := 456) (v := 7) (by decide) (by decide +kernel)) (by decide +kernel), rfl⟩
theorem eL_law_457 : dc mL_law 457 (.iconst 1) 1 458 := ⟨d_iconst_1 (bL (p := 457) (v := 4) (by decide) (by decide +kernel)), rfl⟩
theorem eL_law_458 : dc mL_law 458 (.goto 4) 3 461 := ⟨d_goto (bL (p := 458) (v := 167) (by decide) (by decide +kernel)) (bL (p := 459) (v := 0) (by decide) (by decide +kernel)) (bL (p := 460) (v := 4) (by decide) (by decide +kernel)) (by decide +kernel), rfl⟩
theorem eL_law_461 : dc mL_law 461 (.iconst 0) 1 462 := ⟨d_iconst_0 (bL (p := 461) (v := 3) (by decide) (by decide +kernel)), rfl⟩
theorem eL_law_462 : dc mL_law 462 (.aload_n 0) 1 463 := ⟨d_aload_0 (bL (p := 462) (v := 42) (by decide) (by decide +kernel)), rfl⟩
theorem eL_law_463 : dc mL_law 463 (.iload 4) 2 465 := ⟨d_iload (bL (p := 463) (v := 21) (by decide) (by decide +kernel)) (bL (p := 464) (v := 4) (by decide) (by decide +kernel)), rfl⟩
theorem eL_law_465 : dc mL_law 465 (.iconst 4) 1 466 := ⟨d_iconst_4 (bL (p := 465) (v := 7) (by decide) (by decide +kernel)), rfl⟩
theorem eL_law_466 : dc mL_law 466 (.iadd) 1 467 := ⟨d_iadd (bL (p := 466) (v := 96) (by decide) (by decide +kernel)), rfl⟩
theorem eL_law_467 : dc mL_law 467 (.iaload) 1 468 := ⟨d_iaload (bL (p := 467) (v := 46) (by decide) (by decide +kernel)), rfl⟩
theorem eL_law_468 : dc mL_law 468 (.aload_n 0) 1 469 := ⟨d_aload_0 (bL (p := 468) (v := 42) (by decide) (by decide +kernel)), rfl⟩
theorem eL_law_469 : dc mL_law 469 (.iload 4) 2 471 := ⟨d_iload (bL (p := 469) (v := 21) (by decide) (by decide +kernel)) (bL (p := 470) (v := 4) (by decide) (by decide +kernel)), rfl⟩
theorem eL_law_471 : dc mL_law 471 (.iconst 5) 1 472 := ⟨d_iconst_5 (bL (p := 471) (v := 8) (by decide) (by decide +kernel)), rfl⟩
theorem eL_law_472 : dc mL_law 472 (.iadd) 1 473 := ⟨d_iadd (bL (p := 472) (v := 96) (by decide) (by decide +kernel)), rfl⟩
theorem eL_law_473 : dc mL_law 473 (.iaload) 1 474 := ⟨d_iaload (bL (p := 473) (v := 46) (by decide) (by decide +kernel)), rfl⟩
theorem eL_law_474 : dc mL_law 474 (.invokevirtual 152) 3 477 := ⟨d_invokevirtual (bL (p := 474) (v := 182) (by decide) (by decide +kernel)) (bL (p := 475) (v := 0) (by decide) (by decide +kernel)) (bL (p := 476) (v := 152) (by decide) (by decide +kernel)) (by decide), rfl⟩
theorem eL_law_477 : dc mL_law 477 (.istore 6) 2 479 := ⟨d_istore (bL (p := 477) (v := 54) (by decide) (by decide +kernel)) (bL (p := 478) (v := 6) (by decide) (by decide +kernel)), rfl⟩
theorem eL_law_479 : dc mL_law 479 (.aload_n 2) 1 480 := ⟨d_aload_2 (bL (p := 479) (v := 44) (by decide) (by decide +kernel)), rfl⟩
theorem eL_law_480 : dc mL_law 480 (.invokevirtual 141) 3 483 := ⟨d_invokevirtual (bL (p := 480) (v := 182) (by decide) (by decide +kernel)) (bL (p := 481) (v := 0) (by decide) (by decide +kernel)) (bL (p := 482) (v := 141) (by decide) (by decide +kernel)) (by decide), rfl⟩
theorem eL_law_483 : dc mL_law 483 (.iload 5) 2 485 := ⟨d_iload (bL (p := 483) (v := 21) (by decide) (by decide +kernel)) (bL (p := 484) (v := 5) (by decide) (by decide +kernel)), rfl⟩
theorem eL_law_485 : dc mL_law 485 (.if_icmp .eq 5) 3 488 := ⟨d_if_icmp_eq (bL (p := 485) (v := 159) (by decide) (by decide +kernel)) (bL (p := 486) (v := 0) (by decide) (by decide +kernel)) (bL (p := 487) (v := 5) (by decide) (by decide +kernel)) (by decide +kernel), rfl⟩
theorem eL_law_488 : dc mL_law 488 (.iconst 0) 1 489 := ⟨d_iconst_0 (bL (p := 488) (v := 3) (by decide) (by decide +kernel)), rfl⟩
theorem eL_law_489 : dc mL_law 489 (.ireturn) 1 490 := ⟨d_ireturn (bL (p := 489) (v := 172) (by decide) (by decide +kernel)), rfl⟩
theorem eL_law_490 : dc mL_law 490 (.iload 5) 2 492 := ⟨d_iload (bL (p := 490) (v := 21) (by decide) (by decide +kernel)) (bL (p := 491) (v := 5) (by decide) (by decide +kernel)), rfl⟩
theorem eL_law_492 : dc mL_law 492 (.ifCond .ne 15) 3 495 := ⟨d_ifCond_ne (bL (p := 492) (v := 154) (by decide) (by decide +kernel)) (bL (p := 493) (v := 0) (by decide) (by decide +kernel)) (bL (p := 494) (v := 15) (by decide) (by decide +kernel)) (by decide +kernel), rfl⟩
theorem eL_law_495 : dc mL_law 495 (.aload_n 3) 1 496 := ⟨d_aload_3 (bL (p := 495) (v := 45) (by decide) (by decide +kernel)), rfl⟩
theorem eL_law_496 : dc mL_law 496 (.iconst 0) 1 497 := ⟨d_iconst_0 (bL (p := 496) (v := 3) (by decide) (by decide +kernel)), rfl⟩
theorem eL_law_497 : dc mL_law 497 (.laload) 1 498 := ⟨d_laload (bL (p := 497) (v := 47) (by decide) (by decide +kernel)), rfl⟩
theorem eL_law_498 : dc mL_law 498 (.iload 6) 2 500 := ⟨d_iload (bL (p := 498) (v := 21) (by decide) (by decide +kernel)) (bL (p := 499) (v := 6) (by decide) (by decide +kernel)), rfl⟩
theorem eL_law_500 : dc mL_law 500 (.i2l) 1 501 := ⟨d_i2l (bL (p := 500) (v := 133) (by decide) (by decide +kernel)), rfl⟩
theorem eL_law_501 : dc mL_law 501 (.lcmp) 1 502 := ⟨d_lcmp (bL (p := 501) (v := 148) (by decide) (by decide +kernel)), rfl⟩
theorem eL_law_502 : dc mL_law 502 (.ifCond .eq 5) 3 505 := ⟨d_ifCond_eq (bL (p := 502) (v := 153) (by decide) (by decide +kernel)) (bL (p := 503) (v := 0) (by decide) (by decide +kernel)) (bL (p := 504) (v := 5) (by decide) (by decide +kernel)) (by decide +kernel), rfl⟩
theorem eL_law_505 : dc mL_law 505 (.iconst 0) 1 506 := ⟨d_iconst_0 (bL (p := 505) (v := 3) (by decide) (by decide +kernel)), rfl⟩
theorem eL_law_506 : dc mL_law 506 (.ireturn) 1 507 := ⟨d_ireturn (bL (p := 506) (v := 172) (by decide) (by decide +kernel)), rfl⟩
theorem eL_law_507 : dc mL_law 507 (.goto 2845) 3 510 := ⟨d_goto (bL (p := 507) (v := 167) (by decide) (by decide +kernel)) (bL (p := 508) (v := 11) (by decide) (by decide +kernel)) (bL (p := 509) (v := 29) (by decide) (by decide +kernel)) (by decide +kernel), rfl⟩
theorem eL_law_510 : dc mL_law 510 (.aload_n 1) 1 511 := ⟨d_aload_1 (bL (p := 510) (v := 43) (by decide) (by decide +kernel)), rfl⟩
theorem eL_law_511 : dc mL_law 511 (.aload_n 0) 1 512 := ⟨d_aload_0 (bL (p := 511) (v := 42) (by decide) (by decide +kernel)), rfl⟩
theorem eL_law_512 : dc mL_law 512 (.iload 4) 2 514 := ⟨d_iload (bL (p := 512) (v := 21) (by decide) (by decide +kernel)) (bL (p := 513) (v := 4) (by decide) (by decide +kernel)), rfl⟩
theorem eL_law_514 : dc mL_law 514 (.iconst 1) 1 515 := ⟨d_iconst_1 (bL (p := 514) (v := 4) (by decide) (by decide +kernel)), rfl⟩
theorem eL_law_515 : dc mL_law 515 (.iadd) 1 516 := ⟨d_iadd (bL (p := 515) (v := 96) (by decide) (by decide +kernel)), rfl⟩
theorem eL_law_516 : dc mL_law 516 (.iaload) 1 517 := ⟨d_iaload (bL (p := 516) (v := 46) (by decide) (by decide +kernel)), rfl⟩
theorem eL_law_517 : dc mL_law 517 (.ifCond .eq 7) 3 520 := ⟨d_ifCond_eq (bL (p := 517) (v := 153) (by decide) (by decide +kernel)) (bL (p := 518) (v := 0) (by decide) (by decide +kernel)) (bL (p := 519) (v := 7) (by decide) (by decide +kernel)) (by decide +kernel), rfl⟩
theorem eL_law_520 : dc mL_law 520 (.iconst 1) 1 521 := ⟨d_iconst_1 (bL (p := 520) (v := 4) (by decide) (by decide +kernel)), rfl⟩
theorem eL_law_521 : dc mL_law 521 (.goto 4) 3 524 := ⟨d_goto (bL (p := 521) (v := 167) (by decide) (by decide +kernel)) (bL (p := 522) (v := 0) (by decide) (by decide +kernel)) (bL (p := 523) (v := 4) (by decide) (by decide +kernel)) (by decide +kernel), rfl⟩
theorem eL_law_524 : dc mL_law 524 (.iconst 0) 1 525 := ⟨d_iconst_0 (bL (p := 524) (v := 3) (by decide) (by decide +kernel)), rfl⟩
theorem eL_law_525 : dc mL_law 525 (.aload_n 0) 1 526 := ⟨d_aload_0 (bL (p := 525) (v := 42) (by decide) (by decide +kernel)), rfl⟩
theorem eL_law_526 : dc mL_law 526 (.iload 4) 2 528 := ⟨d_iload (bL (p := 526) (v := 21) (by decide) (by decide +kernel)) (bL (p := 527) (v := 4) (by decide) (by decide +kernel)), rfl⟩
theorem eL_law_528 : dc mL_law 528 (.iconst 2) 1 529 := ⟨d_iconst_2 (bL (p := 528) (v := 5) (by decide) (by decide +kernel)), rfl⟩
theorem eL_law_529 : dc mL_law 529 (.iadd) 1 530 := ⟨d_iadd (bL (p := 529) (v := 96) (by decide) (by decide +kernel)), rfl⟩
theorem eL_law_530 : dc mL_law 530 (.iaload) 1 531 := ⟨d_iaload (bL (p := 530) (v := 46) (by decide) (by decide +kernel)), rfl⟩
theorem eL_law_531 : dc mL_law 531 (.aload_n 0) 1 532 := ⟨d_aload_0 (bL (p := 531) (v := 42) (by decide) (by decide +kernel)), rfl⟩
theorem eL_law_532 : dc mL_law 532 (.iload 4) 2 534 := ⟨d_iload (bL (p := 532) (v := 21) (by decide) (by decide +kernel)) (bL (p := 533) (v := 4) (by decide) (by decide +kernel)), rfl⟩
theorem eL_law_534 : dc mL_law 534 (.iconst 3) 1 535 := ⟨d_iconst_3 (bL (p := 534) (v := 6) (by decide) (by decide +kernel)), rfl⟩
theorem eL_law_535 : dc mL_law 535 (.iadd) 1 536 := ⟨d_iadd (bL (p := 535) (v := 96) (by decide) (by decide +kernel)), rfl⟩
theorem eL_law_536 : dc mL_law 536 (.iaload) 1 537 := ⟨d_iaload (bL (p := 536) (v := 46) (by decide) (by decide +kernel)), rfl⟩
theorem eL_law_537 : dc mL_law 537 (.aload_n 3) 1 538 := ⟨d_aload_3 (bL (p := 537) (v := 45) (by decide) (by decide +kernel)), rfl⟩
theorem eL_law_538 : dc mL_law 538 (.invokestatic 153) 3 541 := ⟨d_invokestatic (bL (p := 538) (v := 184) (by decide) (by decide +kernel)) (bL (p := 539) (v := 0) (by decide) (by decide +kernel)) (bL (p := 540) (v := 153) (by decide) (by decide +kernel)) (by decide), rfl⟩
theorem eL_law_541 : dc mL_law 541 (.istore 5) 2 543 := ⟨d_istore (bL (p := 541) (v := 54) (by decide) (by decide +kernel)) (bL (p := 542) (v := 5) (by decide) (by decide +kernel)), rfl⟩
theorem eL_law_543 : dc mL_law 543 (.aload_n 2) 1 544 := ⟨d_aload_2 (bL (p := 543) (v := 44) (by decide) (by decide +kernel)), rfl⟩
theorem eL_law_544 : dc mL_law 544 (.aload_n 0) 1 545 := ⟨d_aload_0 (bL (p := 544) (v := 42) (by decide) (by decide +kernel)), rfl⟩
theorem eL_law_545 : dc mL_law 545 (.iload 4) 2 547 := ⟨d_iload (bL (p := 545) (v := 21) (by decide) (by decide +kernel)) (bL (p := 546) (v := 4) (by decide) (by decide +kernel)), rfl⟩
theorem eL_law_547 : dc mL_law 547 (.iconst 1) 1 548 := ⟨d_iconst_1 (bL (p := 547) (v := 4) (by decide) (by decide +kernel)), rfl⟩
theorem eL_law_548 : dc mL_law 548 (.iadd) 1 549 := ⟨d_iadd (bL (p := 548) (v := 96) (by decide) (by decide +kernel)), rfl⟩
theorem eL_law_549 : dc mL_law 549 (.iaload) 1 550 := ⟨d_iaload (bL (p := 549) (v := 46) (by decide) (by decide +kernel)), rfl⟩
theorem eL_law_550 : dc mL_law 550 (.ifCond .eq 7) 3 553 := ⟨d_ifCond_eq (bL (p := 550) (v := 153) (by decide) (by decide +kernel)) (bL (p := 551) (v := 0) (by decide) (by decide +kernel)) (bL (p := 552) (v := 7) (by decide) (by decide +kernel)) (by decide +kernel), rfl⟩
theorem eL_law_553 : dc mL_law 553 (.iconst 1) 1 554 := ⟨d_iconst_1 (bL (p := 553) (v := 4) (by decide) (by decide +kernel)), rfl⟩
theorem eL_law_554 : dc mL_law 554 (.goto 4) 3 557 := ⟨d_goto (bL (p := 554) (v := 167) (by decide) (by decide +kernel)) (bL (p := 555) (v := 0) (by decide) (by decide +kernel)) (bL (p := 556) (v := 4) (by decide) (by decide +kernel)) (by decide +kernel), rfl⟩
theorem eL_law_557 : dc mL_law 557 (.iconst 0) 1 558 := ⟨d_iconst_0 (bL (p := 557) (v := 3) (by decide) (by decide +kernel)), rfl⟩
theorem eL_law_558 : dc mL_law 558 (.aload_n 0) 1 559 := ⟨d_aload_0 (bL (p := 558) (v := 42) (by decide) (by decide +kernel)), rfl⟩
theorem eL_law_559 : dc mL_law 559 (.iload 4) 2 561 := ⟨d_iload (bL (p := 559) (v := 21) (by decide) (by decide +kernel)) (bL (p := 560) (v := 4) (by decide) (by decide +kernel)), rfl⟩
theorem eL_law_561 : dc mL_law 561 (.iconst 2) 1 562 := ⟨d_iconst_2 (bL (p := 561) (v := 5) (by decide) (by decide +kernel)), rfl⟩
theorem eL_law_562 : dc mL_law 562 (.iadd) 1 563 := ⟨d_iadd (bL (p := 562) (v := 96) (by decide) (by decide +kernel)), rfl⟩
theorem eL_law_563 : dc mL_law 563 (.iaload) 1 564 := ⟨d_iaload (bL (p := 563) (v := 46) (by decide) (by decide +kernel)), rfl⟩
theorem eL_law_564 : dc mL_law 564 (.aload_n 0) 1 565 := ⟨d_aload_0 (bL (p := 564) (v := 42) (by decide) (by decide +kernel)), rfl⟩
theorem eL_law_565 : dc mL_law 565 (.iload 4) 2 567 := ⟨d_iload (bL (p := 565) (v := 21) (by decide) (by decide +kernel)) (bL (p := 566) (v := 4) (by decide) (by decide +kernel)), rfl⟩
theorem eL_law_567 : dc mL_law 567 (.iconst 3) 1 568 := ⟨d_iconst_3 (bL (p := 567) (v := 6) (by decide) (by decide +kernel)), rfl⟩
theorem eL_law_568 : dc mL_law 568 (.iadd) 1 569 := ⟨d_iadd (bL (p := 568) (v := 96) (by decide) (by decide +kernel)), rfl⟩
theorem eL_law_569 : dc mL_law 569 (.iaload) 1 570 := ⟨d_iaload (bL (p := 569) (v := 46) (by decide) (by decide +kernel)), rfl⟩
theorem eL_law_570 : dc mL_law 570 (.invokevirtual 156) 3 573 := ⟨d_invokevirtual (bL (p := 570) (v := 182) (by decide) (by decide +kernel)) (bL (p := 571) (v := 0) (by decide) (by decide +kernel)) (bL (p := 572) (v := 156) (by decide) (by decide +kernel)) (by decide), rfl⟩
theorem eL_law_573 : dc mL_law 573 (.istore 6) 2 575 := ⟨d_istore (bL (p := 573) (v := 54) (by decide) (by decide +kernel)) (bL (p := 574) (v := 6) (by decide) (by decide +kernel)), rfl⟩
theorem eL_law_575 : dc mL_law 575 (.aload_n 2) 1 576 := ⟨d_aload_2 (bL (p := 575) (v := 44) (by decide) (by decide +kernel)), rfl⟩
theorem eL_law_576 : dc mL_law 576 (.invokevirtual 141) 3 579 := ⟨d_invokevirtual (bL (p := 576) (v := 182) (by decide) (by decide +kernel)) (bL (p := 577) (v := 0) (by decide) (by decide +kernel)) (bL (p := 578) (v := 141) (by decide) (by decide +kernel)) (by decide), rfl⟩
theorem eL_law_579 : dc mL_law 579 (.iload 5) 2 581 := ⟨d_iload (bL (p := 579) (v := 21) (by decide) (by decide +kernel)) (bL (p := 580) (v := 5) (by decide) (by decide +kernel)), rfl⟩
theorem eL_law_581 : dc mL_law 581 (.if_icmp .eq 5) 3 584 := ⟨d_if_icmp_eq (bL (p := 581) (v := 159) (by decide) (by decide +kernel)) (bL (p := 582) (v := 0) (by decide) (by decide +kernel)) (bL (p := 583) (v := 5) (by decide) (by decide +kernel)) (by decide +kernel), rfl⟩
theorem eL_law_584 : dc mL_law 584 (.iconst 0) 1 585 := ⟨d_iconst_0 (bL (p := 584) (v := 3) (by decide) (by decide +kernel)), rfl⟩
theorem eL_law_585 : dc mL_law 585 (.ireturn) 1 586 := ⟨d_ireturn (bL (p := 585) (v := 172) (by decide) (by decide +kernel)), rfl⟩
theorem eL_law_586 : dc mL_law 586 (.iload 5) 2 588 := ⟨d_iload (bL (p := 586) (v := 21) (by decide) (by decide +kernel)) (bL (p := 587) (v := 5) (by decide) (by decide +kernel)), rfl⟩
theorem eL_law_588 : dc mL_law 588 (.ifCond .ne 15) 3 591 := ⟨d_ifCond_ne (bL (p := 588) (v := 154) (by decide) (by decide +kernel)) (bL (p := 589) (v := 0) (by decide) (by decide +kernel)) (bL (p := 590) (v := 15) (by decide) (by decide +kernel)) (by decide +kernel), rfl⟩
theorem eL_law_591 : dc mL_law 591 (.aload_n 3) 1 592 := ⟨d_aload_3 (bL (p := 591) (v := 45) (by decide) (by decide +kernel)), rfl⟩
theorem eL_law_592 : dc mL_law 592 (.iconst 0) 1 593 := ⟨d_iconst_0 (bL (p := 592) (v := 3) (by decide) (by decide +kernel)), rfl⟩
theorem eL_law_593 : dc mL_law 593 (.laload) 1 594 := ⟨d_laload (bL (p := 593) (v := 47) (by decide) (by decide +kernel)), rfl⟩
theorem eL_law_594 : dc mL_law 594 (.iload 6) 2 596 := ⟨d_iload (bL (p := 594) (v := 21) (by decide) (by decide +kernel)) (bL (p := 595) (v := 6) (by decide) (by decide +kernel)), rfl⟩
theorem eL_law_596 : dc mL_law 596 (.i2l) 1 597 := ⟨d_i2l (bL (p := 596) (v := 133) (by decide) (by decide +kernel)), rfl⟩
theorem eL_law_597 : dc mL_law 597 (.lcmp) 1 598 := ⟨d_lcmp (bL (p := 597) (v := 148) (by decide) (by decide +kernel)), rfl⟩
theorem eL_law_598 : dc mL_law 598 (.ifCond .eq 5) 3 601 := ⟨d_ifCond_eq (bL (p := 598) (v := 153) (by decide) (by decide +kernel)) (bL (p := 599) (v := 0) (by decide) (by decide +kernel)) (bL (p := 600) (v := 5) (by decide) (by decide +kernel)) (by decide +kernel), rfl⟩
theorem eL_law_601 : dc mL_law 601 (.iconst 0) 1 602 := ⟨d_iconst_0 (bL (p := 601) (v := 3) (by decide) (by decide +kernel)), rfl⟩
theorem eL_law_602 : dc mL_law 602 (.ireturn) 1 603 := ⟨d_ireturn (bL (p := 602) (v := 172) (by decide) (by decide +kernel)), rfl⟩
theorem eL_law_603 : dc mL_law 603 (.goto 2749) 3 606 := ⟨d_goto (bL (p := 603) (v := 167) (by decide) (by decide +kernel)) (bL (p := 604) (v := 10) (by decide) (by decide +kernel)) (bL (p := 605) (v := 189) (by decide) (by decide +kernel)) (by decide +kernel), rfl⟩
theorem eL_law_606 : dc mL_law 606 (.aload_n 1) 1 607 := ⟨d_aload_1 (bL (p := 606) (v := 43) (by decide) (by decide +kernel)), rfl⟩
theorem eL_law_607 : dc mL_law 607 (.aload_n 0) 1 608 := ⟨d_aload_0 (bL (p := 607) (v := 42) (by decide) (by decide +kernel)), rfl⟩
theorem eL_law_608 : dc mL_law 608 (.iload 4) 2 610 := ⟨d_iload (bL (p := 608) (v := 21) (by decide) (by decide +kernel)) (bL (p := 609) (v := 4) (by decide) (by decide +kernel)), rfl⟩
theorem eL_law_610 : dc mL_law 610 (.iconst 1) 1 611 := ⟨d_iconst_1 (bL (p := 610) (v := 4) (by decide) (by decide +kernel)), rfl⟩
theorem eL_law_611 : dc mL_law 611 (.iadd) 1 612 := ⟨d_iadd (bL (p := 611) (v := 96) (by decide) (by decide +kernel)), rfl⟩
theorem eL_law_612 : dc mL_law 612 (.iaload) 1 613 := ⟨d_iaload (bL (p := 612) (v := 46) (by decide) (by decide +kernel)), rfl⟩
theorem eL_law_613 : dc mL_law 613 (.aload_n 0) 1 614 := ⟨d_aload_0 (bL (p := 613) (v := 42) (by decide) (by decide +kernel)), rfl⟩
theorem eL_law_614 : dc mL_law 614 (.iload 4) 2 616 := ⟨d_iload (bL (p := 614) (v := 21) (by decide) (by decide +kernel)) (bL (p := 615) (v := 4) (by decide) (by decide +kernel)), rfl⟩
theorem eL_law_616 : dc mL_law 616 (.iconst 2) 1 617 := ⟨d_iconst_2 (bL (p := 616) (v := 5) (by decide) (by decide +kernel)), rfl⟩
theorem eL_law_617 : dc mL_law 617 (.iadd) 1 618 := ⟨d_iadd (bL (p := 617) (v := 96) (by decide) (by decide +kernel)), rfl⟩
theorem eL_law_618 : dc mL_law 618 (.iaload) 1 619 := ⟨d_iaload (bL (p := 618) (v := 46) (by decide) (by decide +kernel)), rfl⟩
theorem eL_law_619 : dc mL_law 619 (.aload_n 3) 1 620 := ⟨d_aload_3 (bL (p := 619) (v := 45) (by decide) (by decide +kernel)), rfl⟩
theorem eL_law_620 : dc mL_law 620 (.invokestatic 157) 3 623 := ⟨d_invokestatic (bL (p := 620) (v := 184) (by decide) (by decide +kernel)) (bL (p := 621) (v := 0) (by decide) (by decide +kernel)) (bL (p := 622) (v := 157) (by decide) (by decide +kernel)) (by decide), rfl⟩
theorem eL_law_623 : dc mL_law 623 (.istore 5) 2 625 := ⟨d_istore (bL (p := 623) (v := 54) (by decide) (by decide +kernel)) (bL (p := 624) (v := 5) (by decide) (by decide +kernel)), rfl⟩
theorem eL_law_625 : dc mL_law 625 (.aload_n 2) 1 626 := ⟨d_aload_2 (bL (p := 625) (v := 44) (by decide) (by decide +kernel)), rfl⟩
theorem eL_law_626 : dc mL_law 626 (.aload_n 0) 1 627 := ⟨d_aload_0 (bL (p := 626) (v := 42) (by decide) (by decide +kernel)), rfl⟩
theorem eL_law_627 : dc mL_law 627 (.iload 4) 2 629 := ⟨d_iload (bL (p := 627) (v := 21) (by decide) (by decide +kernel)) (bL (p := 628) (v := 4) (by decide) (by decide +kernel)), rfl⟩
theorem eL_law_629 : dc mL_law 629 (.iconst 1) 1 630 := ⟨d_iconst_1 (bL (p := 629) (v := 4) (by decide) (by decide +kernel)), rfl⟩
theorem eL_law_630 : dc mL_law 630 (.iadd) 1 631 := ⟨d_iadd (bL (p := 630) (v := 96) (by decide) (by decide +kernel)), rfl⟩
theorem eL_law_631 : dc mL_law 631 (.iaload) 1 632 := ⟨d_iaload (bL (p := 631) (v := 46) (by decide) (by decide +kernel)), rfl⟩
theorem eL_law_632 : dc mL_law 632 (.aload_n 0) 1 633 := ⟨d_aload_0 (bL (p := 632) (v := 42) (by decide) (by decide +kernel)), rfl⟩
theorem eL_law_633 : dc mL_law 633 (.iload 4) 2 635 := ⟨d_iload (bL (p := 633) (v := 21) (by decide) (by decide +kernel)) (bL (p := 634) (v := 4) (by decide) (by decide +kernel)), rfl⟩
theorem eL_law_635 : dc mL_law 635 (.iconst 2) 1 636 := ⟨d_iconst_2 (bL (p := 635) (v := 5) (by decide) (by decide +kernel)), rfl⟩
theorem eL_law_636 : dc mL_law 636 (.iadd) 1 637 := ⟨d_iadd (bL (p := 636) (v := 96) (by decide) (by decide +kernel)), rfl⟩
theorem eL_law_637 : dc mL_law 637 (.iaload) 1 638 := ⟨d_iaload (bL (p := 637) (v := 46) (by decide) (by decide +kernel)), rfl⟩
theorem eL_law_638 : dc mL_law 638 (.invokevirtual 159) 3 641 := ⟨d_invokevirtual (bL (p := 638) (v := 182) (by decide) (by decide +kernel)) (bL (p := 639) (v := 0) (by decide) (by decide +kernel)) (bL (p := 640) (v := 159) (by decide) (by decide +kernel)) (by decide), rfl⟩
theorem eL_law_641 : dc mL_law 641 (.istore 6) 2 643 := ⟨d_istore (bL (p := 641) (v := 54) (by decide) (by decide +kernel)) (bL (p := 642) (v := 6) (by decide) (by decide +kernel)), rfl⟩
theorem eL_law_643 : dc mL_law 643 (.aload_n 2) 1 644 := ⟨d_aload_2 (bL (p := 643) (v := 44) (by decide) (by decide +kernel)), rfl⟩
theorem eL_law_644 : dc mL_law 644 (.invokevirtual 141) 3 647 := ⟨d_invokevirtual (bL (p := 644) (v := 182) (by decide) (by decide +kernel)) (bL (p := 645) (v := 0) (by decide) (by decide +kernel)) (bL (p := 646) (v := 141) (by decide) (by decide +kernel)) (by decide), rfl⟩
theorem eL_law_647 : dc mL_law 647 (.iload 5) 2 649 := ⟨d_iload (bL (p := 647) (v := 21) (by decide) (by decide +kernel)) (bL (p := 648) (v := 5) (by decide) (by decide +kernel)), rfl⟩
theorem eL_law_649 : dc mL_law 649 (.if_icmp .eq 5) 3 652 := ⟨d_if_icmp_eq (bL (p := 649) (v := 159) (by decide) (by decide +kernel)) (bL (p := 650) (v := 0) (by decide) (by decide +kernel)) (bL (p := 651) (v := 5) (by decide) (by decide +kernel)) (by decide +kernel), rfl⟩
theorem eL_law_652 : dc mL_law 652 (.iconst 0) 1 653 := ⟨d_iconst_0 (bL (p := 652) (v := 3) (by decide) (by decide +kernel)), rfl⟩
theorem eL_law_653 : dc mL_law 653 (.ireturn) 1 654 := ⟨d_ireturn (bL (p := 653) (v := 172) (by decide) (by decide +kernel)), rfl⟩
theorem eL_law_654 : dc mL_law 654 (.iload 5) 2 656 := ⟨d_iload (bL (p := 654) (v := 21) (by decide) (by decide +kernel)) (bL (p := 655) (v := 5) (by decide) (by decide +kernel)), rfl⟩
theorem eL_law_656 : dc mL_law 656 (.ifCond .ne 15) 3 659 := ⟨d_ifCond_ne (bL (p := 656) (v := 154) (by decide) (by decide +kernel)) (bL (p := 657) (v := 0) (by decide) (by decide +kernel)) (bL (p := 658) (v := 15) (by decide) (by decide +kernel)) (by decide +kernel), rfl⟩
theorem eL_law_659 : dc mL_law 659 (.aload_n 3) 1 660 := ⟨d_aload_3 (bL (p := 659) (v := 45) (by decide) (by decide +kernel)), rfl⟩
theorem eL_law_660 : dc mL_law 660 (.iconst 0) 1 661 := ⟨d_iconst_0 (bL (p := 660) (v := 3) (by decide) (by decide +kernel)), rfl⟩
theorem eL_law_661 : dc mL_law 661 (.laload) 1 662 := ⟨d_laload (bL (p := 661) (v := 47) (by decide) (by decide +kernel)), rfl⟩
theorem eL_law_662 : dc mL_law 662 (.iload 6) 2 664 := ⟨d_iload (bL (p := 662) (v := 21) (by decide) (by decide +kernel)) (bL (p := 663) (v := 6) (by decide) (by decide +kernel)), rfl⟩
theorem eL_law_664 : dc mL_law 664 (.i2l) 1 665 := ⟨d_i2l (bL (p := 664) (v := 133) (by decide) (by decide +kernel)), rfl⟩
theorem eL_law_665 : dc mL_law 665 (.lcmp) 1 666 := ⟨d_lcmp (bL (p := 665) (v := 148) (by decide) (by decide +kernel)), rfl⟩
theorem eL_law_666 : dc mL_law 666 (.ifCond .eq 5) 3 669 := ⟨d_ifCond_eq (bL (p := 666) (v := 153) (by decide) (by decide +kernel)) (bL (p := 667) (v := 0) (by decide) (by decide +kernel)) (bL (p := 668) (v := 5) (by decide) (by decide +kernel)) (by decide +kernel), rfl⟩
theorem eL_law_669 : dc mL_law 669 (.iconst 0) 1 670 := ⟨d_iconst_0 (bL (p := 669) (v := 3) (by decide) (by decide +kernel)), rfl⟩
theorem eL_law_670 : dc mL_law 670 (.ireturn) 1 671 := ⟨d_ireturn (bL (p := 670) (v := 172) (by decide) (by decide +kernel)), rfl⟩
theorem eL_law_671 : dc mL_law 671 (.goto 2681) 3 674 := ⟨d_goto (bL (p := 671) (v := 167) (by decide) (by decide +kernel)) (bL (p := 672) (v := 10) (by decide) (by decide +kernel)) (bL (p := 673) (v := 121) (by decide) (by decide +kernel)) (by decide +kernel), rfl⟩
theorem eL_law_674 : dc mL_law 674 (.aload_n 1) 1 675 := ⟨d_aload_1 (bL (p := 674) (v := 43) (by decide) (by decide +kernel)), rfl⟩
theorem eL_law_675 : dc mL_law 675 (.aload_n 0) 1 676 := ⟨d_aload_0 (bL (p := 675) (v := 42) (by decide) (by decide +kernel)), rfl⟩
theorem eL_law_676 : dc mL_law 676 (.iload 4) 2 678 := ⟨d_iload (bL (p := 676) (v := 21) (by decide) (by decide +kernel)) (bL (p := 677) (v := 4) (by decide) (by decide +kernel)), rfl⟩
theorem eL_law_678 : dc mL_law 678 (.iconst 1) 1 679 := ⟨d_iconst_1 (bL (p := 678) (v := 4) (by decide) (by decide +kernel)), rfl⟩
theorem eL_law_679 : dc mL_law 679 (.iadd) 1 680 := ⟨d_iadd (bL (p := 679) (v := 96) (by decide) (by decide +kernel)), rfl⟩
theorem eL_law_680 : dc mL_law 680 (.iaload) 1 681 := ⟨d_iaload (bL (p := 680) (v := 46) (by decide) (by decide +kernel)), rfl⟩
theorem eL_law_681 : dc mL_law 681 (.aload_n 0) 1 682 := ⟨d_aload_0 (bL (p := 681) (v := 42) (by decide) (by decide +kernel)), rfl⟩
theorem eL_law_682 : dc mL_law 682 (.iload 4) 2 684 := ⟨d_iload (bL (p := 682) (v := 21) (by decide) (by decide +kernel)) (bL (p := 683) (v := 4) (by decide) (by decide +kernel)), rfl⟩
theorem eL_law_684 : dc mL_law 684 (.iconst 2) 1 685 := ⟨d_iconst_2 (bL (p := 684) (v := 5) (by decide) (by decide +kernel)), rfl⟩
theorem eL_law_685 : dc mL_law 685 (.iadd) 1 686 := ⟨d_iadd (bL (p := 685) (v := 96) (by decide) (by decide +kernel)), rfl⟩
theorem eL_law_686 : dc mL_law 686 (.iaload) 1 687 := ⟨d_iaload (bL (p := 686) (v := 46) (by decide) (by decide +kernel)), rfl⟩
theorem eL_law_687 : dc mL_law 687 (.aload_n 0) 1 688 := ⟨d_aload_0 (bL (p := 687) (v := 42) (by decide) (by decide +kernel)), rfl⟩
theorem eL_law_688 : dc mL_law 688 (.iload 4) 2 690 := ⟨d_iload (bL (p := 688) (v := 21) (by decide) (by decide +kernel)) (bL (p := 689) (v := 4) (by decide) (by decide +kernel)), rfl⟩
theorem eL_law_690 : dc mL_law 690 (.iconst 3) 1 691 := ⟨d_iconst_3 (bL (p := 690) (v := 6) (by decide) (by decide +kernel)), rfl⟩
theorem eL_law_691 : dc mL_law 691 (.iadd) 1 692 := ⟨d_iadd (bL (p := 691) (v := 96) (by decide) (by decide +kernel)), rfl⟩
theorem eL_law_692 : dc mL_law 692 (.iaload) 1 693 := ⟨d_iaload (bL (p := 692) (v := 46) (by decide) (by decide +kernel)), rfl⟩
theorem eL_law_693 : dc mL_law 693 (.aload_n 3) 1 694 := ⟨d_aload_3 (bL (p := 693) (v := 45) (by decide) (by decide +kernel)), rfl⟩
theorem eL_law_694 : dc mL_law 694 (.invokestatic 160) 3 697 := ⟨d_invokestatic (bL (p := 694) (v := 184) (by decide) (by decide +kernel)) (bL (p := 695) (v := 0) (by decide) (by decide +kernel)) (bL (p := 696) (v := 160) (by decide) (by decide +kernel)) (by decide), rfl⟩
theorem eL_law_697 : dc mL_law 697 (.istore 5) 2 699 := ⟨d_istore (bL (p := 697) (v := 54) (by decide) (by decide +kernel)) (bL (p := 698) (v := 5) (by decide) (by decide +kernel)), rfl⟩
theorem eL_law_699 : dc mL_law 699 (.aload_n 2) 1 700 := ⟨d_aload_2 (bL (p := 699) (v := 44) (by decide) (by decide +kernel)), rfl⟩
theorem eL_law_700 : dc mL_law 700 (.aload_n 0) 1 701 := ⟨d_aload_0 (bL (p := 700) (v := 42) (by decide) (by decide +kernel)), rfl⟩
theorem eL_law_701 : dc mL_law 701 (.iload 4) 2 703 := ⟨d_iload (bL (p := 701) (v := 21) (by decide) (by decide +kernel)) (bL (p := 702) (v := 4) (by decide) (by decide +kernel)), rfl⟩
theorem eL_law_703 : dc mL_law 703 (.iconst 1) 1 704 := ⟨d_iconst_1 (bL (p := 703) (v := 4) (by decide) (by decide +kernel)), rfl⟩
theorem eL_law_704 : dc mL_law 704 (.iadd) 1 705 := ⟨d_iadd (bL (p := 704) (v := 96) (by decide) (by decide +kernel)), rfl⟩
theorem eL_law_705 : dc mL_law 705 (.iaload) 1 706 := ⟨d_iaload (bL (p := 705) (v := 46) (by decide) (by decide +kernel)), rfl⟩
theorem eL_law_706 : dc mL_law 706 (.aload_n 0) 1 707 := ⟨d_aload_0 (bL (p := 706) (v := 42) (by decide) (by decide +kernel)), rfl⟩
theorem eL_law_707 : dc mL_law 707 (.iload 4) 2 709 := ⟨d_iload (bL (p := 707) (v := 21) (by decide) (by decide +kernel)) (bL (p := 708) (v := 4) (by decide) (by decide +kernel)), rfl⟩
theorem eL_law_709 : dc mL_law 709 (.iconst 2) 1 710 := ⟨d_iconst_2 (bL (p := 709) (v := 5) (by decide) (by decide +kernel)), rfl⟩
theorem eL_law_710 : dc mL_law 710 (.iadd) 1 711 := ⟨d_iadd (bL (p := 710) (v := 96) (by decide) (by decide +kernel)), rfl⟩
theorem eL_law_711 : dc mL_law 711 (.iaload) 1 712 := ⟨d_iaload (bL (p := 711) (v := 46) (by decide) (by decide +kernel)), rfl⟩
theorem eL_law_712 : dc mL_law 712 (.aload_n 0) 1 713 := ⟨d_aload_0 (bL (p := 712) (v := 42) (by decide) (by decide +kernel)), rfl⟩
theorem eL_law_713 : dc mL_law 713 (.iload 4) 2 715 := ⟨d_iload (bL (p := 713) (v := 21) (by decide) (by decide +kernel)) (bL (p := 714) (v := 4) (by decide) (by decide +kernel)), rfl⟩
theorem eL_law_715 : dc mL_law 715 (.iconst 3) 1 716 := ⟨d_iconst_3 (bL (p := 715) (v := 6) (by decide) (by decide +kernel)), rfl⟩
theorem eL_law_716 : dc mL_law 716 (.iadd) 1 717 := ⟨d_iadd (bL (p := 716) (v := 96) (by decide) (by decide +kernel)), rfl⟩
theorem eL_law_717 : dc mL_law 717 (.iaload) 1 718 := ⟨d_iaload (bL (p := 717) (v := 46) (by decide) (by decide +kernel)), rfl⟩
theorem eL_law_718 : dc mL_law 718 (.invokevirtual 163) 3 721 := ⟨d_invokevirtual (bL (p := 718) (v := 182) (by decide) (by decide +kernel)) (bL (p := 719) (v := 0) (by decide) (by decide +kernel)) (bL (p := 720) (v := 163) (by decide) (by decide +kernel)) (by decide), rfl⟩
theorem eL_law_721 : dc mL_law 721 (.istore 6) 2 723 := ⟨d_istore (bL (p := 721) (v := 54) (by decide) (by decide +kernel)) (bL (p := 722) (v := 6) (by decide) (by decide +kernel)), rfl⟩
theorem eL_law_723 : dc mL_law 723 (.aload_n 2) 1 724 := ⟨d_aload_2 (bL (p := 723) (v := 44) (by decide) (by decide +kernel)), rfl⟩
theorem eL_law_724 : dc mL_law 724 (.invokevirtual 141) 3 727 := ⟨d_invokevirtual (bL (p := 724) (v := 182) (by decide) (by decide +kernel)) (bL (p := 725) (v := 0) (by decide) (by decide +kernel)) (bL (p := 726) (v := 141) (by decide) (by decide +kernel)) (by decide), rfl⟩
theorem eL_law_727 : dc mL_law 727 (.iload 5) 2 729 := ⟨d_iload (bL (p := 727) (v := 21) (by decide) (by decide +kernel)) (bL (p := 728) (v := 5) (by decide) (by decide +kernel)), rfl⟩
theorem eL_law_729 : dc mL_law 729 (.if_icmp .eq 5) 3 732 := ⟨d_if_icmp_eq (bL (p := 729) (v := 159) (by decide) (by decide +kernel)) (bL (p := 730) (v := 0) (by decide) (by decide +kernel)) (bL (p := 731) (v := 5) (by decide) (by decide +kernel)) (by decide +kernel), rfl⟩
theorem eL_law_732 : dc mL_law 732 (.iconst 0) 1 733 := ⟨d_iconst_0 (bL (p := 732) (v := 3) (by decide) (by decide +kernel)), rfl⟩
theorem eL_law_733 : dc mL_law 733 (.ireturn) 1 734 := ⟨d_ireturn (bL (p := 733) (v := 172) (by decide) (by decide +kernel)), rfl⟩
theorem eL_law_734 : dc mL_law 734 (.iload 5) 2 736 := ⟨d_iload (bL (p := 734) (v := 21) (by decide) (by decide +kernel)) (bL (p := 735) (v := 5) (by decide) (by decide +kernel)), rfl⟩
theorem eL_law_736 : dc mL_law 736 (.ifCond .ne 15) 3 739 := ⟨d_ifCond_ne (bL (p := 736) (v := 154) (by decide) (by decide +kernel)) (bL (p := 737) (v := 0) (by decide) (by decide +kernel)) (bL (p := 738) (v := 15) (by decide) (by decide +kernel)) (by decide +kernel), rfl⟩
theorem eL_law_739 : dc mL_law 739 (.aload_n 3) 1 740 := ⟨d_aload_3 (bL (p := 739) (v := 45) (by decide) (by decide +kernel)), rfl⟩
theorem eL_law_740 : dc mL_law 740 (.iconst 0) 1 741 := ⟨d_iconst_0 (bL (p := 740) (v := 3) (by decide) (by decide +kernel)), rfl⟩
theorem eL_law_741 : dc mL_law 741 (.laload) 1 742 := ⟨d_laload (bL (p := 741) (v := 47) (by decide) (by decide +kernel)), rfl⟩
theorem eL_law_742 : dc mL_law 742 (.iload 6) 2 744 := ⟨d_iload (bL (p := 742) (v := 21) (by decide) (by decide +kernel)) (bL (p := 743) (v := 6) (by decide) (by decide +kernel)), rfl⟩
theorem eL_law_744 : dc mL_law 744 (.i2l) 1 745 := ⟨d_i2l (bL (p := 744) (v := 133) (by decide) (by decide +kernel)), rfl⟩
theorem eL_law_745 : dc mL_law 745 (.lcmp) 1 746 := ⟨d_lcmp (bL (p := 745) (v := 148) (by decide) (by decide +kernel)), rfl⟩
theorem eL_law_746 : dc mL_law 746 (.ifCond .eq 5) 3 749 := ⟨d_ifCond_eq (bL (p := 746) (v := 153) (by decide) (by decide +kernel)) (bL (p := 747) (v := 0) (by decide) (by decide +kernel)) (bL (p := 748) (v := 5) (by decide) (by decide +kernel)) (by decide +kernel), rfl⟩
theorem eL_law_749 : dc mL_law 749 (.iconst 0) 1 750 := ⟨d_iconst_0 (bL (p := 749) (v := 3) (by decide) (by decide +kernel)), rfl⟩
theorem eL_law_750 : dc mL_law 750 (.ireturn) 1 751 := ⟨d_ireturn (bL (p := 750) (v := 172) (by decide) (by decide +kernel)), rfl⟩
theorem eL_law_751 : dc mL_law 751 (.goto 2601) 3 754 := ⟨d_goto (bL (p := 751) (v := 167) (by decide) (by decide +kernel)) (bL (p := 752) (v := 10) (by decide) (by decide +kernel)) (bL (p := 753) (v := 41) (by decide) (by decide +kernel)) (by decide +kernel), rfl⟩
theorem eL_law_754 : dc mL_law 754 (.aload_n 1) 1 755 := ⟨d_aload_1 (bL (p := 754) (v := 43) (by decide) (by decide +kernel)), rfl⟩
theorem eL_law_755 : dc mL_law 755 (.aload_n 0) 1 756 := ⟨d_aload_0 (bL (p := 755) (v := 42) (by decide) (by decide +kernel)), rfl⟩
theorem eL_law_756 : dc mL_law 756 (.iload 4) 2 758 := ⟨d_iload (bL (p := 756) (v := 21) (by decide) (by decide +kernel)) (bL (p := 757) (v := 4) (by decide) (by decide +kernel)), rfl⟩
theorem eL_law_758 : dc mL_law 758 (.iconst 1) 1 759 := ⟨d_iconst_1 (bL (p := 758) (v := 4) (by decide) (by decide +kernel)), rfl⟩
theorem eL_law_759 : dc mL_law 759 (.iadd) 1 760 := ⟨d_iadd (bL (p := 759) (v := 96) (by decide) (by decide +kernel)), rfl⟩
theorem eL_law_760 : dc mL_law 760 (.iaload) 1 761 := ⟨d_iaload (bL (p := 760) (v := 46) (by decide) (by decide +kernel)), rfl⟩
theorem eL_law_761 : dc mL_law 761 (.aload_n 0) 1 762 := ⟨d_aload_0 (bL (p := 761) (v := 42) (by decide) (by decide +kernel)), rfl⟩
theorem eL_law_762 : dc mL_law 762 (.iload 4) 2 764 := ⟨d_iload (bL (p := 762) (v := 21) (by decide) (by decide +kernel)) (bL (p := 763) (v := 4) (by decide) (by decide +kernel)), rfl⟩
theorem eL_law_764 : dc mL_law 764 (.iconst 2) 1 765 := ⟨d_iconst_2 (bL (p := 764) (v := 5) (by decide) (by decide +kernel)), rfl⟩
theorem eL_law_765 : dc mL_law 765 (.iadd) 1 766 := ⟨d_iadd (bL (p := 765) (v := 96) (by decide) (by decide +kernel)), rfl⟩
theorem eL_law_766 : dc mL_law 766 (.iaload) 1 767 := ⟨d_iaload (bL (p := 766) (v := 46) (by decide) (by decide +kernel)), rfl⟩
theorem eL_law_767 : dc mL_law 767 (.aload_n 0) 1 768 := ⟨d_aload_0 (bL (p := 767) (v := 42) (by decide) (by decide +kernel)), rfl⟩
theorem eL_law_768 : dc mL_law 768 (.iload 4) 2 770 := ⟨d_iload (bL (p := 768) (v := 21) (by decide) (by decide +kernel)) (bL (p := 769) (v := 4) (by decide) (by decide +kernel)), rfl⟩
theorem eL_law_770 : dc mL_law 770 (.iconst 3) 1 771 := ⟨d_iconst_3 (bL (p := 770) (v := 6) (by decide) (by decide +kernel)), rfl⟩
theorem eL_law_771 : dc mL_law 771 (.iadd) 1 772 := ⟨d_iadd (bL (p := 771) (v := 96) (by decide) (by decide +kernel)), rfl⟩
theorem eL_law_772 : dc mL_law 772 (.iaload) 1 773 := ⟨d_iaload (bL (p := 772) (v := 46) (by decide) (by decide +kernel)), rfl⟩
theorem eL_law_773 : dc mL_law 773 (.aload_n 3) 1 774 := ⟨d_aload_3 (bL (p := 773) (v := 45) (by decide) (by decide +kernel)), rfl⟩
theorem eL_law_774 : dc mL_law 774 (.invokestatic 164) 3 777 := ⟨d_invokestatic (bL (p := 774) (v := 184) (by decide) (by decide +kernel)) (bL (p := 775) (v := 0) (by decide) (by decide +kernel)) (bL (p := 776) (v := 164) (by decide) (by decide +kernel)) (by decide), rfl⟩
theorem eL_law_777 : dc mL_law 777 (.istore 5) 2 779 := ⟨d_istore (bL (p := 777) (v := 54) (by decide) (by decide +kernel)) (bL (p := 778) (v := 5) (by decide) (by decide +kernel)), rfl⟩
theorem eL_law_779 : dc mL_law 779 (.aload_n 2) 1 780 := ⟨d_aload_2 (bL (p := 779) (v := 44) (by decide) (by decide +kernel)), rfl⟩
theorem eL_law_780 : dc mL_law 780 (.aload_n 0) 1 781 := ⟨d_aload_0 (bL (p := 780) (v := 42) (by decide) (by decide +kernel)), rfl⟩
theorem eL_law_781 : dc mL_law 781 (.iload 4) 2 783 := ⟨d_iload (bL (p := 781) (v := 21) (by decide) (by decide +kernel)) (bL (p := 782) (v := 4) (by decide) (by decide +kernel)), rfl⟩
theorem eL_law_783 : dc mL_law 783 (.iconst 1) 1 784 := ⟨d_iconst_1 (bL (p := 783) (v := 4) (by decide) (by decide +kernel)), rfl⟩
theorem eL_law_784 : dc mL_law 784 (.iadd) 1 785 := ⟨d_iadd (bL (p := 784) (v := 96) (by decide) (by decide +kernel)), rfl⟩
theorem eL_law_785 : dc mL_law 785 (.iaload) 1 786 := ⟨d_iaload (bL (p := 785) (v := 46) (by decide) (by decide +kernel)), rfl⟩
theorem eL_law_786 : dc mL_law 786 (.aload_n 0) 1 787 := ⟨d_aload_0 (bL (p := 786) (v := 42) (by decide) (by decide +kernel)), rfl⟩
theorem eL_law_787 : dc mL_law 787 (.iload 4) 2 789 := ⟨d_iload (bL (p := 787) (v := 21) (by decide) (by decide +kernel)) (bL (p := 788) (v := 4) (by decide) (by decide +kernel)), rfl⟩
theorem eL_law_789 : dc mL_law 789 (.iconst 2) 1 790 := ⟨d_iconst_2 (bL (p := 789) (v := 5) (by decide) (by decide +kernel)), rfl⟩
theorem eL_law_790 : dc mL_law 790 (.iadd) 1 791 := ⟨d_iadd (bL (p := 790) (v := 96) (by decide) (by decide +kernel)), rfl⟩
theorem eL_law_791 : dc mL_law 791 (.iaload) 1 792 := ⟨d_iaload (bL (p := 791) (v := 46) (by decide) (by decide +kernel)), rfl⟩
theorem eL_law_792 : dc mL_law 792 (.aload_n 0) 1 793 := ⟨d_aload_0 (bL (p := 792) (v := 42) (by decide) (by decide +kernel)), rfl⟩
theorem eL_law_793 : dc mL_law 793 (.iload 4) 2 795 := ⟨d_iload (bL (p := 793) (v := 21) (by decide) (by decide +kernel)) (bL (p := 794) (v := 4) (by decide) (by decide +kernel)), rfl⟩
theorem eL_law_795 : dc mL_law 795 (.iconst 3) 1 796 := ⟨d_iconst_3 (bL (p := 795) (v := 6) (by decide) (by decide +kernel)), rfl⟩
theorem eL_law_796 : dc mL_law 796 (.iadd) 1 797 := ⟨d_iadd (bL (p := 796) (v := 96) (by decide) (by decide +kernel)), rfl⟩
theorem eL_law_797 : dc mL_law 797 (.iaload) 1 798 := ⟨d_iaload (bL (p := 797) (v := 46) (by decide) (by decide +kernel)), rfl⟩
theorem eL_law_798 : dc mL_law 798 (.invokevirtual 166) 3 801 := ⟨d_invokevirtual (bL (p := 798) (v := 182) (by decide) (by decide +kernel)) (bL (p := 799) (v := 0) (by decide) (by decide +kernel)) (bL (p := 800) (v := 166) (by decide) (by decide +kernel)) (by decide), rfl⟩
theorem eL_law_801 : dc mL_law 801 (.istore 6) 2 803 := ⟨d_istore (bL (p := 801) (v := 54) (by decide) (by decide +kernel)) (bL (p := 802) (v := 6) (by decide) (by decide +kernel)), rfl⟩
theorem eL_law_803 : dc mL_law 803 (.aload_n 2) 1 804 := ⟨d_aload_2 (bL (p := 803) (v := 44) (by decide) (by decide +kernel)), rfl⟩
theorem eL_law_804 : dc mL_law 804 (.invokevirtual 141) 3 807 := ⟨d_invokevirtual (bL (p := 804) (v := 182) (by decide) (by decide +kernel)) (bL (p := 805) (v := 0) (by decide) (by decide +kernel)) (bL (p := 806) (v := 141) (by decide) (by decide +kernel)) (by decide), rfl⟩
theorem eL_law_807 : dc mL_law 807 (.iload 5) 2 809 := ⟨d_iload (bL (p := 807) (v := 21) (by decide) (by decide +kernel)) (bL (p := 808) (v := 5) (by decide) (by decide +kernel)), rfl⟩
theorem eL_law_809 : dc mL_law 809 (.if_icmp .eq 5) 3 812 := ⟨d_if_icmp_eq (bL (p := 809) (v := 159) (by decide) (by decide +kernel)) (bL (p := 810) (v := 0) (by decide) (by decide +kernel)) (bL (p := 811) (v := 5) (by decide) (by decide +kernel)) (by decide +kernel), rfl⟩
theorem eL_law_812 : dc mL_law 812 (.iconst 0) 1 813 := ⟨d_iconst_0 (bL (p := 812) (v := 3) (by decide) (by decide +kernel)), rfl⟩
theorem eL_law_813 : dc mL_law 813 (.ireturn) 1 814 := ⟨d_ireturn (bL (p := 813) (v := 172) (by decide) (by decide +kernel)), rfl⟩
theorem eL_law_814 : dc mL_law 814 (.iload 5) 2 816 := ⟨d_iload (bL (p := 814) (v := 21) (by decide) (by decide +kernel)) (bL (p := 815) (v := 5) (by decide) (by decide +kernel)), rfl⟩
theorem eL_law_816 : dc mL_law 816 (.ifCond .ne 15) 3 819 := ⟨d_ifCond_ne (bL (p := 816) (v := 154) (by decide) (by decide +kernel)) (bL (p := 817) (v := 0) (by decide) (by decide +kernel)) (bL (p := 818) (v := 15) (by decide) (by decide +kernel)) (by decide +kernel), rfl⟩
theorem eL_law_819 : dc mL_law 819 (.aload_n 3) 1 820 := ⟨d_aload_3 (bL (p := 819) (v := 45) (by decide) (by decide +kernel)), rfl⟩
theorem eL_law_820 : dc mL_law 820 (.iconst 0) 1 821 := ⟨d_iconst_0 (bL (p := 820) (v := 3) (by decide) (by decide +kernel)), rfl⟩
theorem eL_law_821 : dc mL_law 821 (.laload) 1 822 := ⟨d_laload (bL (p := 821) (v := 47) (by decide) (by decide +kernel)), rfl⟩
theorem eL_law_822 : dc mL_law 822 (.iload 6) 2 824 := ⟨d_iload (bL (p := 822) (v := 21) (by decide) (by decide +kernel)) (bL (p := 823) (v := 6) (by decide) (by decide +kernel)), rfl⟩
theorem eL_law_824 : dc mL_law 824 (.i2l) 1 825 := ⟨d_i2l (bL (p := 824) (v := 133) (by decide) (by decide +kernel)), rfl⟩
theorem eL_law_825 : dc mL_law 825 (.lcmp) 1 826 := ⟨d_lcmp (bL (p := 825) (v := 148) (by decide) (by decide +kernel)), rfl⟩
theorem eL_law_826 : dc mL_law 826 (.ifCond .eq 5) 3 829 := ⟨d_ifCond_eq (bL (p := 826) (v := 153) (by decide) (by decide +kernel)) (bL (p := 827) (v := 0) (by decide) (by decide +kernel)) (bL (p := 828) (v := 5) (by decide) (by decide +kernel)) (by decide +kernel), rfl⟩
theorem eL_law_829 : dc mL_law 829 (.iconst 0) 1 830 := ⟨d_iconst_0 (bL (p := 829) (v := 3) (by decide) (by decide +kernel)), rfl⟩
theorem eL_law_830 : dc mL_law 830 (.ireturn) 1 831 := ⟨d_ireturn (bL (p := 830) (v := 172) (by decide) (by decide +kernel)), rfl⟩
theorem eL_law_831 : dc mL_law 831 (.goto 2521) 3 834 := ⟨d_goto (bL (p := 831) (v := 167) (by decide) (by decide +kernel)) (bL (p := 832) (v := 9) (by decide) (by decide +kernel)) (bL (p := 833) (v := 217) (by decide) (by decide +kernel)) (by decide +kernel), rfl⟩
theorem eL_law_834 : dc mL_law 834 (.aload_n 1) 1 835 := ⟨d_aload_1 (bL (p := 834) (v := 43) (by decide) (by decide +kernel)), rfl⟩
theorem eL_law_835 : dc mL_law 835 (.invokevirtual 167) 3 838 := ⟨d_invokevirtual (bL (p := 835) (v := 182) (by decide) (by decide +kernel)) (bL (p := 836) (v := 0) (by decide) (by decide +kernel)) (bL (p := 837) (v := 167) (by decide) (by decide +kernel)) (by decide), rfl⟩
theorem eL_law_838 : dc mL_law 838 (.aload_n 2) 1 839 := ⟨d_aload_2 (bL (p := 838) (v := 44) (by decide) (by decide +kernel)), rfl⟩
theorem eL_law_839 : dc mL_law 839 (.invokevirtual 170) 3 842 := ⟨d_invokevirtual (bL (p := 839) (v := 182) (by decide) (by decide +kernel)) (bL (p := 840) (v := 0) (by decide) (by decide +kernel)) (bL (p := 841) (v := 170) (by decide) (by decide +kernel)) (by decide), rfl⟩
theorem eL_law_842 : dc mL_law 842 (.if_icmp .eq 2510) 3 845 := ⟨d_if_icmp_eq (bL (p := 842) (v := 159) (by decide) (by decide +kernel)) (bL (p := 843) (v := 9) (by decide) (by decide +kernel)) (bL (p := 844) (v := 206) (by decide) (by decide +kernel)) (by decide +kernel), rfl⟩
theorem eL_law_845 : dc mL_law 845 (.iconst 0) 1 846 := ⟨d_iconst_0 (bL (p := 845) (v := 3) (by decide) (by decide +kernel)), rfl⟩
theorem eL_law_846 : dc mL_law 846 (.ireturn) 1 847 := ⟨d_ireturn (bL (p := 846) (v := 172) (by decide) (by decide +kernel)), rfl⟩
theorem eL_law_847 : dc mL_law 847 (.aload_n 1) 1 848 := ⟨d_aload_1 (bL (p := 847) (v := 43) (by decide) (by decide +kernel)), rfl⟩
theorem eL_law_848 : dc mL_law 848 (.aload_n 0) 1 849 := ⟨d_aload_0 (bL (p := 848) (v := 42) (by decide) (by decide +kernel)), rfl⟩
theorem eL_law_849 : dc mL_law 849 (.iload 4) 2 851 := ⟨d_iload (bL (p := 849) (v := 21) (by decide) (by decide +kernel)) (bL (p := 850) (v := 4) (by decide) (by decide +kernel)), rfl⟩
theorem eL_law_851 : dc mL_law 851 (.iconst 1) 1 852 := ⟨d_iconst_1 (bL (p := 851) (v := 4) (by decide) (by decide +kernel)), rfl⟩
theorem eL_law_852 : dc mL_law 852 (.iadd) 1 853 := ⟨d_iadd (bL (p := 852) (v := 96) (by decide) (by decide +kernel)), rfl⟩
theorem eL_law_853 : dc mL_law 853 (.iaload) 1 854 := ⟨d_iaload (bL (p := 853) (v := 46) (by decide) (by decide +kernel)), rfl⟩
theorem eL_law_854 : dc mL_law 854 (.aload_n 0) 1 855 := ⟨d_aload_0 (bL (p := 854) (v := 42) (by decide) (by decide +kernel)), rfl⟩
theorem eL_law_855 : dc mL_law 855 (.iload 4) 2 857 := ⟨d_iload (bL (p := 855) (v := 21) (by decide) (by decide +kernel)) (bL (p := 856) (v := 4) (by decide) (by decide +kernel)), rfl⟩
theorem eL_law_857 : dc mL_law 857 (.iconst 2) 1 858 := ⟨d_iconst_2 (bL (p := 857) (v := 5) (by decide) (by decide +kernel)), rfl⟩
theorem eL_law_858 : dc mL_law 858 (.iadd) 1 859 := ⟨d_iadd (bL (p := 858) (v := 96) (by decide) (by decide +kernel)), rfl⟩
theorem eL_law_859 : dc mL_law 859 (.iaload) 1 860 := ⟨d_iaload (bL (p := 859) (v := 46) (by decide) (by decide +kernel)), rfl⟩
theorem eL_law_860 : dc mL_law 860 (.aload_n 0) 1 861 := ⟨d_aload_0 (bL (p := 860) (v := 42) (by decide) (by decide +kernel)), rfl⟩
theorem eL_law_861 : dc mL_law 861 (.iload 4) 2 863 := ⟨d_iload (bL (p := 861) (v := 21) (by decide) (by decide +kernel)) (bL (p := 862) (v := 4) (by decide) (by decide +kernel)), rfl⟩
theorem eL_law_863 : dc mL_law 863 (.iconst 3) 1 864 := ⟨d_iconst_3 (bL (p := 863) (v := 6) (by decide) (by decide +kernel)), rfl⟩
theorem eL_law_864 : dc mL_law 864 (.iadd) 1 865 := ⟨d_iadd (bL (p := 864) (v := 96) (by decide) (by decide +kernel)), rfl⟩
theorem eL_law_865 : dc mL_law 865 (.iaload) 1 866 := ⟨d_iaload (bL (p := 865) (v := 46) (by decide) (by decide +kernel)), rfl⟩
theorem eL_law_866 : dc mL_law 866 (.aload_n 3) 1 867 := ⟨d_aload_3 (bL (p := 866) (v := 45) (by decide) (by decide +kernel)), rfl⟩
theorem eL_law_867 : dc mL_law 867 (.invokestatic 171) 3 870 := ⟨d_invokestatic (bL (p := 867) (v := 184) (by decide) (by decide +kernel)) (bL (p := 868) (v := 0) (by decide) (by decide +kernel)) (bL (p := 869) (v := 171) (by decide) (by decide +kernel)) (by decide), rfl⟩
theorem eL_law_870 : dc mL_law 870 (.istore 5) 2 872 := ⟨d_istore (bL (p := 870) (v := 54) (by decide) (by decide +kernel)) (bL (p := 871) (v := 5) (by decide) (by decide +kernel)), rfl⟩
theorem eL_law_872 : dc mL_law 872 (.aload_n 2) 1 873 := ⟨d_aload_2 (bL (p := 872) (v := 44) (by decide) (by decide +kernel)), rfl⟩
theorem eL_law_873 : dc mL_law 873 (.aload_n 0) 1 874 := ⟨d_aload_0 (bL (p := 873) (v := 42) (by decide) (by decide +kernel)), rfl⟩
theorem eL_law_874 : dc mL_law 874 (.iload 4) 2 876 := ⟨d_iload (bL (p := 874) (v := 21) (by decide) (by decide +kernel)) (bL (p := 875) (v := 4) (by decide) (by decide +kernel)), rfl⟩
theorem eL_law_876 : dc mL_law 876 (.iconst 1) 1 877 := ⟨d_iconst_1 (bL (p := 876) (v := 4) (by decide) (by decide +kernel)), rfl⟩
theorem eL_law_877 : dc mL_law 877 (.iadd) 1 878 := ⟨d_iadd (bL (p := 877) (v := 96) (by decide) (by decide +kernel)), rfl⟩
theorem eL_law_878 : dc mL_law 878 (.iaload) 1 879 := ⟨d_iaload (bL (p := 878) (v := 46) (by decide) (by decide +kernel)), rfl⟩
theorem eL_law_879 : dc mL_law 879 (.aload_n 0) 1 880 := ⟨d_aload_0 (bL (p := 879) (v := 42) (by decide) (by decide +kernel)), rfl⟩
theorem eL_law_880 : dc mL_law 880 (.iload 4) 2 882 := ⟨d_iload (bL (p := 880) (v := 21) (by decide) (by decide +kernel)) (bL (p := 881) (v := 4) (by decide) (by decide +kernel)), rfl⟩
theorem eL_law_882 : dc mL_law 882 (.iconst 2) 1 883 := ⟨d_iconst_2 (bL (p := 882) (v := 5) (by decide) (by decide +kernel)), rfl⟩
theorem eL_law_883 : dc mL_law 883 (.iadd) 1 884 := ⟨d_iadd (bL (p := 883) (v := 96) (by decide) (by decide +kernel)), rfl⟩
theorem eL_law_884 : dc mL_law 884 (.iaload) 1 885 := ⟨d_iaload (bL (p := 884) (v := 46) (by decide) (by decide +kernel)), rfl⟩
theorem eL_law_885 : dc mL_law 885 (.aload_n 0) 1 886 := ⟨d_aload_0 (bL (p := 885) (v := 42) (by decide) (by decide +kernel)), rfl⟩
theorem eL_law_886 : dc mL_law 886 (.iload 4) 2 888 := ⟨d_iload (bL (p := 886) (v := 21) (by decide) (by decide +kernel)) (bL (p := 887) (v := 4) (by decide) (by decide +kernel)), rfl⟩
theorem eL_law_888 : dc mL_law 888 (.iconst 3) 1 889 := ⟨d_iconst_3 (bL (p := 888) (v := 6) (by decide) (by decide +kernel)), rfl⟩
theorem eL_law_889 : dc mL_law 889 (.iadd) 1 890 := ⟨d_iadd (bL (p := 889) (v := 96) (by decide) (by decide +kernel)), rfl⟩
theorem eL_law_890 : dc mL_law 890 (.iaload) 1 891 := ⟨d_iaload (bL (p := 890) (v := 46) (by decide) (by decide +kernel)), rfl⟩
theorem eL_law_891 : dc mL_law 891 (.invokevirtual 173) 3 894 := ⟨d_invokevirtual (bL (p := 891) (v := 182) (by decide) (by decide +kernel)) (bL (p := 892) (v := 0) (by decide) (by decide +kernel)) (bL (p := 893) (v := 173) (by decide) (by decide +kernel)) (by decide), rfl⟩
theorem eL_law_894 : dc mL_law 894 (.istore 6) 2 896 := ⟨d_istore (bL (p := 894) (v := 54) (by decide) (by decide +kernel)) (bL (p := 895) (v := 6) (by decide) (by decide +kernel)), rfl⟩
theorem eL_law_896 : dc mL_law 896 (.aload_n 2) 1 897 := ⟨d_aload_2 (bL (p := 896) (v := 44) (by decide) (by decide +kernel)), rfl⟩
theorem eL_law_897 : dc mL_law 897 (.invokevirtual 141) 3 900 := ⟨d_invokevirtual (bL (p := 897) (v := 182) (by decide) (by decide +kernel)) (bL (p := 898) (v := 0) (by decide) (by decide +kernel)) (bL (p := 899) (v := 141) (by decide) (by decide +kernel)) (by decide), rfl⟩
theorem eL_law_900 : dc mL_law 900 (.iload 5) 2 902 := ⟨d_iload (bL (p := 900) (v := 21) (by decide) (by decide +kernel)) (bL (p := 901) (v := 5) (by decide) (by decide +kernel)), rfl⟩
theorem eL_law_902 : dc mL_law 902 (.if_icmp .eq 5) 3 905 := ⟨d_if_icmp_eq (bL (p := 902) (v := 159) (by decide) (by decide +kernel)) (bL (p := 903) (v := 0) (by decide) (by decide +kernel)) (bL (p := 904) (v := 5) (by decide) (by decide +kernel)) (by decide +kernel), rfl⟩
theorem eL_law_905 : dc mL_law 905 (.iconst 0) 1 906 := ⟨d_iconst_0 (bL (p := 905) (v := 3) (by decide) (by decide +kernel)), rfl⟩
theorem eL_law_906 : dc mL_law 906 (.ireturn) 1 907 := ⟨d_ireturn (bL (p := 906) (v := 172) (by decide) (by decide +kernel)), rfl⟩
theorem eL_law_907 : dc mL_law 907 (.iload 5) 2 909 := ⟨d_iload (bL (p := 907) (v := 21) (by decide) (by decide +kernel)) (bL (p := 908) (v := 5) (by decide) (by decide +kernel)), rfl⟩
theorem eL_law_909 : dc mL_law 909 (.ifCond .ne 15) 3 912 := ⟨d_ifCond_ne (bL (p := 909) (v := 154) (by decide) (by decide +kernel)) (bL (p := 910) (v := 0) (by decide) (by decide +kernel)) (bL (p := 911) (v := 15) (by decide) (by decide +kernel)) (by decide +kernel), rfl⟩
theorem eL_law_912 : dc mL_law 912 (.aload_n 3) 1 913 := ⟨d_aload_3 (bL (p := 912) (v := 45) (by decide) (by decide +kernel)), rfl⟩
theorem eL_law_913 : dc mL_law 913 (.iconst 0) 1 914 := ⟨d_iconst_0 (bL (p := 913) (v := 3) (by decide) (by decide +kernel)), rfl⟩
theorem eL_law_914 : dc mL_law 914 (.laload) 1 915 := ⟨d_laload (bL (p := 914) (v := 47) (by decide) (by decide +kernel)), rfl⟩
theorem eL_law_915 : dc mL_law 915 (.iload 6) 2 917 := ⟨d_iload (bL (p := 915) (v := 21) (by decide) (by decide +kernel)) (bL (p := 916) (v := 6) (by decide) (by decide +kernel)), rfl⟩
theorem eL_law_917 : dc mL_law 917 (.i2l) 1 918 := ⟨d_i2l (bL (p := 917) (v := 133) (by decide) (by decide +kernel)), rfl⟩
theorem eL_law_918 : dc mL_law 918 (.lcmp) 1 919 := ⟨d_lcmp (bL (p := 918) (v := 148) (by decide) (by decide +kernel)), rfl⟩
theorem eL_law_919 : dc mL_law 919 (.ifCond .eq 5) 3 922 := ⟨d_ifCond_eq (bL (p := 919) (v := 153) (by decide) (by decide +kernel)) (bL (p := 920) (v := 0) (by decide) (by decide +kernel)) (bL (p := 921) (v := 5) (by decide) (by decide +kernel)) (by decide +kernel), rfl⟩
theorem eL_law_922 : dc mL_law 922 (.iconst 0) 1 923 := ⟨d_iconst_0 (bL (p := 922) (v := 3) (by decide) (by decide +kernel)), rfl⟩
theorem eL_law_923 : dc mL_law 923 (.ireturn) 1 924 := ⟨d_ireturn (bL (p := 923) (v := 172) (by decide) (by decide +kernel)), rfl⟩
theorem eL_law_924 : dc mL_law 924 (.goto 2428) 3 927 := ⟨d_goto (bL (p := 924) (v := 167) (by decide) (by decide +kernel)) (bL (p := 925) (v := 9) (by decide) (by decide +kernel)) (bL (p := 926) (v := 124) (by decide) (by decide +kernel)) (by decide +kernel), rfl⟩
theorem eL_law_927 : dc mL_law 927 (.aload_n 1) 1 928 := ⟨d_aload_1 (bL (p := 927) (v := 43) (by decide) (by decide +kernel)), rfl⟩
theorem eL_law_928 : dc mL_law 928 (.aload_n 0) 1 929 := ⟨d_aload_0 (bL (p := 928) (v := 42) (by decide) (by decide +kernel)), rfl⟩
theorem eL_law_929 : dc mL_law 929 (.iload 4) 2 931 := ⟨d_iload (bL (p := 929) (v := 21) (by decide) (by decide +kernel)) (bL (p := 930) (v := 4) (by decide) (by decide +kernel)), rfl⟩
theorem eL_law_931 : dc mL_law 931 (.iconst 1) 1 932 := ⟨d_iconst_1 (bL (p := 931) (v := 4) (by decide) (by decide +kernel)), rfl⟩
theorem eL_law_932 : dc mL_law 932 (.iadd) 1 933 := ⟨d_iadd (bL (p := 932) (v := 96) (by decide) (by decide +kernel)), rfl⟩
theorem eL_law_933 : dc mL_law 933 (.iaload) 1 934 := ⟨d_iaload (bL (p := 933) (v := 46) (by decide) (by decide +kernel)), rfl⟩
theorem eL_law_934 : dc mL_law 934 (.aload_n 0) 1 935 := ⟨d_aload_0 (bL (p := 934) (v := 42) (by decide) (by decide +kernel)), rfl⟩
theorem eL_law_935 : dc mL_law 935 (.iload 4) 2 937 := ⟨d_iload (bL (p := 935) (v := 21) (by decide) (by decide +kernel)) (bL (p := 936) (v := 4) (by decide) (by decide +kernel)), rfl⟩
theorem eL_law_937 : dc mL_law 937 (.iconst 2) 1 938 := ⟨d_iconst_2 (bL (p := 937) (v := 5) (by decide) (by decide +kernel)), rfl⟩
theorem eL_law_938 : dc mL_law 938 (.iadd) 1 939 := ⟨d_iadd (bL (p := 938) (v := 96) (by decide) (by decide +kernel)), rfl⟩
theorem eL_law_939 : dc mL_law 939 (.iaload) 1 940 := ⟨d_iaload (bL (p := 939) (v := 46) (by decide) (by decide +kernel)), rfl⟩
theorem eL_law_940 : dc mL_law 940 (.aload_n 0) 1 941 := ⟨d_aload_0 (bL (p := 940) (v := 42) (by decide) (by decide +kernel)), rfl⟩
theorem eL_law_941 : dc mL_law 941 (.iload 4) 2 943 := ⟨d_iload (bL (p := 941) (v := 21) (by decide) (by decide +kernel)) (bL (p := 942) (v := 4) (by decide) (by decide +kernel)), rfl⟩
theorem eL_law_943 : dc mL_law 943 (.iconst 3) 1 944 := ⟨d_iconst_3 (bL (p := 943) (v := 6) (by decide) (by decide +kernel)), rfl⟩
theorem eL_law_944 : dc mL_law 944 (.iadd) 1 945 := ⟨d_iadd (bL (p := 944) (v := 96) (by decide) (by decide +kernel)), rfl⟩
theorem eL_law_945 : dc mL_law 945 (.iaload) 1 946 := ⟨d_iaload (bL (p := 945) (v := 46) (by decide) (by decide +kernel)), rfl⟩
theorem eL_law_946 : dc mL_law 946 (.ifCond .eq 7) 3 949 := ⟨d_ifCond_eq (bL (p := 946) (v := 153) (by decide) (by decide +kernel)) (bL (p := 947) (v := 0) (by decide) (by decide +kernel)) (bL (p := 948) (v := 7) (by decide) (by decide +kernel)) (by decide +kernel), rfl⟩
theorem eL_law_949 : dc mL_law 949 (.iconst 1) 1 950 := ⟨d_iconst_1 (bL (p := 949) (v := 4) (by decide) (by decide +kernel)), rfl⟩
theorem eL_law_950 : dc mL_law 950 (.goto 4) 3 953 := ⟨d_goto (bL (p := 950) (v := 167) (by decide) (by decide +kernel)) (bL (p := 951) (v := 0) (by decide) (by decide +kernel)) (bL (p := 952) (v := 4) (by decide) (by decide +kernel)) (by decide +kernel), rfl⟩
theorem eL_law_953 : dc mL_law 953 (.iconst 0) 1 954 := ⟨d_iconst_0 (bL (p := 953) (v := 3) (by decide) (by decide +kernel)), rfl⟩
theorem eL_law_954 : dc mL_law 954 (.aload_n 0) 1 955 := ⟨d_aload_0 (bL (p := 954) (v := 42) (by decide) (by decide +kernel)), rfl⟩
theorem eL_law_955 : dc mL_law 955 (.iload 4) 2 957 := ⟨d_iload (bL (p := 955) (v := 21) (by decide) (by decide +kernel)) (bL (p := 956) (v := 4) (by decide) (by decide +kernel)), rfl⟩
theorem eL_law_957 : dc mL_law 957 (.iconst 4) 1 958 := ⟨d_iconst_4 (bL (p := 957) (v := 7) (by decide) (by decide +kernel)), rfl⟩
theorem eL_law_958 : dc mL_law 958 (.iadd) 1 959 := ⟨d_iadd (bL (p := 958) (v := 96) (by decide) (by decide +kernel)), rfl⟩
theorem eL_law_959 : dc mL_law 959 (.iaload) 1 960 := ⟨d_iaload (bL (p := 959) (v := 46) (by decide) (by decide +kernel)), rfl⟩
theorem eL_law_960 : dc mL_law 960 (.ifCond .eq 7) 3 963 := ⟨d_ifCond_eq (bL (p := 960) (v := 153) (by decide) (by decide +kernel)) (bL (p := 961) (v := 0) (by decide) (by decide +kernel)) (bL (p := 962) (v := 7) (by decide) (by decide +kernel)) (by decide +kernel), rfl⟩
theorem eL_law_963 : dc mL_law 963 (.iconst 1) 1 964 := ⟨d_iconst_1 (bL (p := 963) (v := 4) (by decide) (by decide +kernel)), rfl⟩
theorem eL_law_964 : dc mL_law 964 (.goto 4) 3 967 := ⟨d_goto (bL (p := 964) (v := 167) (by decide) (by decide +kernel)) (bL (p := 965) (v := 0) (by decide) (by decide +kernel)) (bL (p := 966) (v := 4) (by decide) (by decide +kernel)) (by decide +kernel), rfl⟩
theorem eL_law_967 : dc mL_law 967 (.iconst 0) 1 968 := ⟨d_iconst_0 (bL (p := 967) (v := 3) (by decide) (by decide +kernel)), rfl⟩
theorem eL_law_968 : dc mL_law 968 (.aload_n 0) 1 969 := ⟨d_aload_0 (bL (p := 968) (v := 42) (by decide) (by decide +kernel)), rfl⟩
theorem eL_law_969 : dc mL_law 969 (.iload 4) 2 971 := ⟨d_iload (bL (p := 969) (v := 21) (by decide) (by decide +kernel)) (bL (p := 970) (v := 4) (by decide) (by decide +kernel)), rfl⟩
theorem eL_law_971 : dc mL_law 971 (.iconst 5) 1 972 := ⟨d_iconst_5 (bL (p := 971) (v := 8) (by decide) (by decide +kernel)), rfl⟩
theorem eL_law_972 : dc mL_law 972 (.iadd) 1 973 := ⟨d_iadd (bL (p := 972) (v := 96) (by decide) (by decide +kernel)), rfl⟩
theorem eL_law_973 : dc mL_law 973 (.iaload) 1 974 := ⟨d_iaload (bL (p := 973) (v := 46) (by decide) (by decide +kernel)), rfl⟩
theorem eL_law_974 : dc mL_law 974 (.aload_n 3) 1 975 := ⟨d_aload_3 (bL (p := 974) (v := 45) (by decide) (by decide +kernel)), rfl⟩
theorem eL_law_975 : dc mL_law 975 (.invokestatic 174) 3 978 := ⟨d_invokestatic (bL (p := 975) (v := 184) (by decide) (by decide +kernel)) (bL (p := 976) (v := 0) (by decide) (by decide +kernel)) (bL (p := 977) (v := 174) (by decide) (by decide +kernel)) (by decide), rfl⟩
theorem eL_law_978 : dc mL_law 978 (.istore 5) 2 980 := ⟨d_istore (bL (p := 978) (v := 54) (by decide) (by decide +kernel)) (bL (p := 979) (v := 5) (by decide) (by decide +kernel)), rfl⟩
theorem eL_law_980 : dc mL_law 980 (.aload_n 2) 1 981 := ⟨d_aload_2 (bL (p := 980) (v := 44) (by decide) (by decide +kernel)), rfl⟩
theorem eL_law_981 : dc mL_law 981 (.aload_n 0) 1 982 := ⟨d_aload_0 (bL (p := 981) (v := 42) (by decide) (by decide +kernel)), rfl⟩
theorem eL_law_982 : dc mL_law 982 (.iload 4) 2 984 := ⟨d_iload (bL (p := 982) (v := 21) (by decide) (by decide +kernel)) (bL (p := 983) (v := 4) (by decide) (by decide +kernel)), rfl⟩
theorem eL_law_984 : dc mL_law 984 (.iconst 1) 1 985 := ⟨d_iconst_1 (bL (p := 984) (v := 4) (by decide) (by decide +kernel)), rfl⟩
theorem eL_law_985 : dc mL_law 985 (.iadd) 1 986 := ⟨d_iadd (bL (p := 985) (v := 96) (by decide) (by decide +kernel)), rfl⟩
