theorem ck_222 : prg_222.all (chk 222) = true := by decide +kernel
theorem mo_222 : mokM Mt 222 := ⟨by decide +kernel, lw_ok_mem (w := 7032) (by decide +kernel), lw_ok_mem (w := 1010) (by decide +kernel), ⟨by decide +kernel, by decide +kernel⟩, by decide +kernel⟩
theorem ck_223 : prg_223.all (chk 223) = true := by decide +kernel
theorem mo_223 : mokM Mt 223 := ⟨by decide +kernel, lw_ok_mem (w := 7036) (by decide +kernel), lw_ok_mem (w := 1010) (by decide +kernel), ⟨by decide +kernel, by decide +kernel⟩, by decide +kernel⟩
theorem ck_224 : prg_224.all (chk 224) = true := by decide +kernel
theorem mo_224 : mokM Mt 224 := ⟨by decide +kernel, lw_ok_mem (w := 7041) (by decide +kernel), lw_ok_mem (w := 1010) (by decide +kernel), ⟨by decide +kernel, by decide +kernel⟩, by decide +kernel⟩
theorem ck_225 : prg_225.all (chk 225) = true := by decide +kernel
theorem mo_225 : mokM Mt 225 := ⟨by decide +kernel, lw_ok_mem (w := 7050) (by decide +kernel), lw_ok_mem (w := 1010) (by decide +kernel), ⟨by decide +kernel, by decide +kernel⟩, by decide +kernel⟩
theorem ck_226 : prg_226.all (chk 226) = true := by decide +kernel
theorem mo_226 : mokM Mt 226 := ⟨by decide +kernel, lw_ok_mem (w := 7045) (by decide +kernel), lw_ok_mem (w := 1010) (by decide +kernel), ⟨by decide +kernel, by decide +kernel⟩, by decide +kernel⟩
theorem ck_227 : prg_227.all (chk 227) = true := by decide +kernel
theorem mo_227 : mokM Mt 227 := ⟨by decide +kernel, lw_ok_mem (w := 7054) (by decide +kernel), lw_ok_mem (w := 1010) (by decide +kernel), ⟨by decide +kernel, by decide +kernel⟩, by decide +kernel⟩
theorem ck_228 : prg_228.all (chk 228) = true := by decide +kernel
theorem mo_228 : mokM Mt 228 := ⟨by decide +kernel, lw_ok_mem (w := 7058) (by decide +kernel), lw_ok_mem (w := 1010) (by decide +kernel), ⟨by decide +kernel, by decide +kernel⟩, by decide +kernel⟩
theorem ck_229 : prg_229.all (chk 229) = true := by decide +kernel
theorem mo_229 : mokM Mt 229 := ⟨by decide +kernel, lw_ok_mem (w := 7062) (by decide +kernel), lw_ok_mem (w := 1010) (by decide +kernel), ⟨by decide +kernel, by decide +kernel⟩, by decide +kernel⟩
theorem ck_230 : prg_230.all (chk 230) = true := by decide +kernel
theorem mo_230 : mokM Mt 230 := ⟨by decide +kernel, lw_ok_mem (w := 2122) (by decide +kernel), lw_ok_mem (w := 1012) (by decide +kernel), ⟨by decide +kernel, by decide +kernel⟩, by decide +kernel⟩
theorem ck_231 : prg_231.all (chk 231) = true := by decide +kernel
theorem mo_231 : mokM Mt 231 := ⟨by decide +kernel, lw_ok_mem (w := 1097) (by decide +kernel), lw_ok_mem (w := 1005) (by decide +kernel), ⟨by decide +kernel, by decide +kernel⟩, by decide +kernel⟩
theorem ck_232 : prg_232.all (chk 232) = true := by decide +kernel
theorem mo_232 : mokM Mt 232 := ⟨by decide +kernel, lw_ok_mem (w := 3052) (by decide +kernel), lw_ok_mem (w := 1005) (by decide +kernel), ⟨by decide +kernel, by decide +kernel⟩, by decide +kernel⟩
theorem ck_233 : prg_233.all (chk 233) = true := by decide +kernel
theorem mo_233 : mokM Mt 233 := ⟨by decide +kernel, lw_ok_mem (w := 4070) (by decide +kernel), lw_ok_mem (w := 1005) (by decide +kernel), ⟨by decide +kernel, by decide +kernel⟩, by decide +kernel⟩
theorem ck_234 : prg_234.all (chk 234) = true := by decide +kernel
theorem mo_234 : mokM Mt 234 := ⟨by decide +kernel, lw_ok_mem (w := 3161) (by decide +kernel), lw_ok_mem (w := 1014) (by decide +kernel), ⟨by decide +kernel, by decide +kernel⟩, by decide +kernel⟩
theorem ck_235 : prg_235.all (chk 235) = true := by decide +kernel
theorem mo_235 : mokM Mt 235 := ⟨by decide +kernel, lw_ok_mem (w := 3171) (by decide +kernel), lw_ok_mem (w := 1014) (by decide +kernel), ⟨by decide +kernel, by decide +kernel⟩, by decide +kernel⟩
theorem ck_236 : prg_236.all (chk 236) = true := by decide +kernel
theorem mo_236 : mokM Mt 236 := ⟨by decide +kernel, lw_ok_mem (w := 3238) (by decide +kernel), lw_ok_mem (w := 1014) (by decide +kernel), ⟨by decide +kernel, by decide +kernel⟩, by decide +kernel⟩
theorem ck_237 : prg_237.all (chk 237) = true := by decide +kernel
theorem mo_237 : mokM Mt 237 := ⟨by decide +kernel, lw_ok_mem (w := 4002) (by decide +kernel), lw_ok_mem (w := 1014) (by decide +kernel), ⟨by decide +kernel, by decide +kernel⟩, by decide +kernel⟩
theorem ck_238 : prg_238.all (chk 238) = true := by decide +kernel
theorem mo_238 : mokM Mt 238 := ⟨by decide +kernel, lw_ok_mem (w := 3165) (by decide +kernel), lw_ok_mem (w := 1014) (by decide +kernel), ⟨by decide +kernel, by decide +kernel⟩, by decide +kernel⟩
theorem ck_239 : prg_239.all (chk 239) = true := by decide +kernel
theorem mo_239 : mokM Mt 239 := ⟨by decide +kernel, lw_ok_mem (w := 3175) (by decide +kernel), lw_ok_mem (w := 1014) (by decide +kernel), ⟨by decide +kernel, by decide +kernel⟩, by decide +kernel⟩
theorem ck_240 : prg_240.all (chk 240) = true := by decide +kernel
theorem mo_240 : mokM Mt 240 := ⟨by decide +kernel, lw_ok_mem (w := 3181) (by decide +kernel), lw_ok_mem (w := 1014) (by decide +kernel), ⟨by decide +kernel, by decide +kernel⟩, by decide +kernel⟩
theorem ck_241 : prg_241.all (chk 241) = true := by decide +kernel
theorem mo_241 : mokM Mt 241 := ⟨by decide +kernel, lw_ok_mem (w := 3178) (by decide +kernel), lw_ok_mem (w := 1015) (by decide +kernel), ⟨by decide +kernel, by decide +kernel⟩, by decide +kernel⟩
theorem ck_242 : prg_242.all (chk 242) = true := by decide +kernel
theorem mo_242 : mokM Mt 242 := ⟨by decide +kernel, lw_ok_mem (w := 4009) (by decide +kernel), lw_ok_mem (w := 1015) (by decide +kernel), ⟨by decide +kernel, by decide +kernel⟩, by decide +kernel⟩
theorem ck_243 : prg_243.all (chk 243) = true := by decide +kernel
theorem mo_243 : mokM Mt 243 := ⟨by decide +kernel, lw_ok_mem (w := 4006) (by decide +kernel), lw_ok_mem (w := 1015) (by decide +kernel), ⟨by decide +kernel, by decide +kernel⟩, by decide +kernel⟩
theorem ck_244 : prg_244.all (chk 244) = true := by decide +kernel
theorem mo_244 : mokM Mt 244 := ⟨by decide +kernel, lw_ok_mem (w := 4014) (by decide +kernel), lw_ok_mem (w := 1015) (by decide +kernel), ⟨by decide +kernel, by decide +kernel⟩, by decide +kernel⟩
theorem ck_245 : prg_245.all (chk 245) = true := by decide +kernel
theorem mo_245 : mokM Mt 245 := ⟨by decide +kernel, lw_ok_mem (w := 3186) (by decide +kernel), lw_ok_mem (w := 1016) (by decide +kernel), ⟨by decide +kernel, by decide +kernel⟩, by decide +kernel⟩
theorem ck_246_0 : prg_246_0.all (chk 246) = true := by decide +kernel
theorem ck_246_1 : prg_246_1.all (chk 246) = true := by decide +kernel
theorem ck_246_2 : prg_246_2.all (chk 246) = true := by decide +kernel
theorem ck_246_3 : prg_246_3.all (chk 246) = true := by decide +kernel
theorem ck_246_4 : prg_246_4.all (chk 246) = true := by decide +kernel
theorem ck_246_5 : prg_246_5.all (chk 246) = true := by decide +kernel
theorem ck_246_6 : prg_246_6.all (chk 246) = true := by decide +kernel
theorem ck_246_7 : prg_246_7.all (chk 246) = true := by decide +kernel
theorem ck_246_8 : prg_246_8.all (chk 246) = true := by decide +kernel
theorem ck_246_9 : prg_246_9.all (chk 246) = true := by decide +kernel
