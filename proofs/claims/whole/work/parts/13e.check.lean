theorem ck_194_1 : prg_194_1.all (chk 194) = true := by decide +kernel
theorem ck_194 : prg_194.all (chk 194) = true := by
  unfold prg_194
  simp only [List.all_append, ck_194_0, ck_194_1, Bool.and_self]
theorem mo_194 : mokM Mt 194 := ⟨by decide +kernel, lw_ok_mem (w := 6158) (by decide +kernel), lw_ok_mem (w := 1010) (by decide +kernel), ⟨by decide +kernel, by decide +kernel⟩, by decide +kernel⟩
theorem ck_195 : prg_195.all (chk 195) = true := by decide +kernel
theorem mo_195 : mokM Mt 195 := ⟨by decide +kernel, lw_ok_mem (w := 6213) (by decide +kernel), lw_ok_mem (w := 1010) (by decide +kernel), ⟨by decide +kernel, by decide +kernel⟩, by decide +kernel⟩
theorem ck_196 : prg_196.all (chk 196) = true := by decide +kernel
theorem mo_196 : mokM Mt 196 := ⟨by decide +kernel, lw_ok_mem (w := 6178) (by decide +kernel), lw_ok_mem (w := 1010) (by decide +kernel), ⟨by decide +kernel, by decide +kernel⟩, by decide +kernel⟩
theorem ck_197 : prg_197.all (chk 197) = true := by decide +kernel
theorem mo_197 : mokM Mt 197 := ⟨by decide +kernel, lw_ok_mem (w := 6174) (by decide +kernel), lw_ok_mem (w := 1010) (by decide +kernel), ⟨by decide +kernel, by decide +kernel⟩, by decide +kernel⟩
theorem ck_198 : prg_198.all (chk 198) = true := by decide +kernel
theorem mo_198 : mokM Mt 198 := ⟨by decide +kernel, lw_ok_mem (w := 6209) (by decide +kernel), lw_ok_mem (w := 1010) (by decide +kernel), ⟨by decide +kernel, by decide +kernel⟩, by decide +kernel⟩
theorem ck_199 : prg_199.all (chk 199) = true := by decide +kernel
theorem mo_199 : mokM Mt 199 := ⟨by decide +kernel, lw_ok_mem (w := 6206) (by decide +kernel), lw_ok_mem (w := 1010) (by decide +kernel), ⟨by decide +kernel, by decide +kernel⟩, by decide +kernel⟩
theorem ck_200 : prg_200.all (chk 200) = true := by decide +kernel
theorem mo_200 : mokM Mt 200 := ⟨by decide +kernel, lw_ok_mem (w := 6182) (by decide +kernel), lw_ok_mem (w := 1010) (by decide +kernel), ⟨by decide +kernel, by decide +kernel⟩, by decide +kernel⟩
theorem ck_201 : prg_201.all (chk 201) = true := by decide +kernel
theorem mo_201 : mokM Mt 201 := ⟨by decide +kernel, lw_ok_mem (w := 6186) (by decide +kernel), lw_ok_mem (w := 1010) (by decide +kernel), ⟨by decide +kernel, by decide +kernel⟩, by decide +kernel⟩
theorem ck_202 : prg_202.all (chk 202) = true := by decide +kernel
theorem mo_202 : mokM Mt 202 := ⟨by decide +kernel, lw_ok_mem (w := 6190) (by decide +kernel), lw_ok_mem (w := 1010) (by decide +kernel), ⟨by decide +kernel, by decide +kernel⟩, by decide +kernel⟩
theorem ck_203 : prg_203.all (chk 203) = true := by decide +kernel
theorem mo_203 : mokM Mt 203 := ⟨by decide +kernel, lw_ok_mem (w := 6194) (by decide +kernel), lw_ok_mem (w := 1010) (by decide +kernel), ⟨by decide +kernel, by decide +kernel⟩, by decide +kernel⟩
theorem ck_204 : prg_204.all (chk 204) = true := by decide +kernel
theorem mo_204 : mokM Mt 204 := ⟨by decide +kernel, lw_ok_mem (w := 6198) (by decide +kernel), lw_ok_mem (w := 1010) (by decide +kernel), ⟨by decide +kernel, by decide +kernel⟩, by decide +kernel⟩
theorem ck_205 : prg_205.all (chk 205) = true := by decide +kernel
theorem mo_205 : mokM Mt 205 := ⟨by decide +kernel, lw_ok_mem (w := 6202) (by decide +kernel), lw_ok_mem (w := 1010) (by decide +kernel), ⟨by decide +kernel, by decide +kernel⟩, by decide +kernel⟩
theorem ck_206 : prg_206.all (chk 206) = true := by decide +kernel
theorem mo_206 : mokM Mt 206 := ⟨by decide +kernel, lw_ok_mem (w := 6154) (by decide +kernel), lw_ok_mem (w := 1010) (by decide +kernel), ⟨by decide +kernel, by decide +kernel⟩, by decide +kernel⟩
theorem ck_207 : prg_207.all (chk 207) = true := by decide +kernel
theorem mo_207 : mokM Mt 207 := ⟨by decide +kernel, lw_ok_mem (w := 6150) (by decide +kernel), lw_ok_mem (w := 1010) (by decide +kernel), ⟨by decide +kernel, by decide +kernel⟩, by decide +kernel⟩
theorem ck_208 : prg_208.all (chk 208) = true := by decide +kernel
theorem mo_208 : mokM Mt 208 := ⟨by decide +kernel, lw_ok_mem (w := 6217) (by decide +kernel), lw_ok_mem (w := 1010) (by decide +kernel), ⟨by decide +kernel, by decide +kernel⟩, by decide +kernel⟩
theorem ck_209 : prg_209.all (chk 209) = true := by decide +kernel
theorem mo_209 : mokM Mt 209 := ⟨by decide +kernel, lw_ok_mem (w := 5177) (by decide +kernel), lw_ok_mem (w := 1010) (by decide +kernel), ⟨by decide +kernel, by decide +kernel⟩, by decide +kernel⟩
theorem ck_210 : prg_210.all (chk 210) = true := by decide +kernel
theorem mo_210 : mokM Mt 210 := ⟨by decide +kernel, lw_ok_mem (w := 6225) (by decide +kernel), lw_ok_mem (w := 1010) (by decide +kernel), ⟨by decide +kernel, by decide +kernel⟩, by decide +kernel⟩
theorem ck_211 : prg_211.all (chk 211) = true := by decide +kernel
theorem mo_211 : mokM Mt 211 := ⟨by decide +kernel, lw_ok_mem (w := 5192) (by decide +kernel), lw_ok_mem (w := 1010) (by decide +kernel), ⟨by decide +kernel, by decide +kernel⟩, by decide +kernel⟩
theorem ck_212 : prg_212.all (chk 212) = true := by decide +kernel
theorem mo_212 : mokM Mt 212 := ⟨by decide +kernel, lw_ok_mem (w := 5189) (by decide +kernel), lw_ok_mem (w := 1010) (by decide +kernel), ⟨by decide +kernel, by decide +kernel⟩, by decide +kernel⟩
theorem ck_213 : prg_213.all (chk 213) = true := by decide +kernel
theorem mo_213 : mokM Mt 213 := ⟨by decide +kernel, lw_ok_mem (w := 6235) (by decide +kernel), lw_ok_mem (w := 1010) (by decide +kernel), ⟨by decide +kernel, by decide +kernel⟩, by decide +kernel⟩
theorem ck_214 : prg_214.all (chk 214) = true := by decide +kernel
theorem mo_214 : mokM Mt 214 := ⟨by decide +kernel, lw_ok_mem (w := 6232) (by decide +kernel), lw_ok_mem (w := 1010) (by decide +kernel), ⟨by decide +kernel, by decide +kernel⟩, by decide +kernel⟩
theorem ck_215 : prg_215.all (chk 215) = true := by decide +kernel
theorem mo_215 : mokM Mt 215 := ⟨by decide +kernel, lw_ok_mem (w := 7000) (by decide +kernel), lw_ok_mem (w := 1010) (by decide +kernel), ⟨by decide +kernel, by decide +kernel⟩, by decide +kernel⟩
theorem ck_216 : prg_216.all (chk 216) = true := by decide +kernel
theorem mo_216 : mokM Mt 216 := ⟨by decide +kernel, lw_ok_mem (w := 7008) (by decide +kernel), lw_ok_mem (w := 1010) (by decide +kernel), ⟨by decide +kernel, by decide +kernel⟩, by decide +kernel⟩
theorem ck_217 : prg_217.all (chk 217) = true := by decide +kernel
theorem mo_217 : mokM Mt 217 := ⟨by decide +kernel, lw_ok_mem (w := 7012) (by decide +kernel), lw_ok_mem (w := 1010) (by decide +kernel), ⟨by decide +kernel, by decide +kernel⟩, by decide +kernel⟩
theorem ck_218 : prg_218.all (chk 218) = true := by decide +kernel
theorem mo_218 : mokM Mt 218 := ⟨by decide +kernel, lw_ok_mem (w := 7016) (by decide +kernel), lw_ok_mem (w := 1010) (by decide +kernel), ⟨by decide +kernel, by decide +kernel⟩, by decide +kernel⟩
theorem ck_219 : prg_219.all (chk 219) = true := by decide +kernel
theorem mo_219 : mokM Mt 219 := ⟨by decide +kernel, lw_ok_mem (w := 7023) (by decide +kernel), lw_ok_mem (w := 1010) (by decide +kernel), ⟨by decide +kernel, by decide +kernel⟩, by decide +kernel⟩
theorem ck_220 : prg_220.all (chk 220) = true := by decide +kernel
theorem mo_220 : mokM Mt 220 := ⟨by decide +kernel, lw_ok_mem (w := 7020) (by decide +kernel), lw_ok_mem (w := 1010) (by decide +kernel), ⟨by decide +kernel, by decide +kernel⟩, by decide +kernel⟩
theorem ck_221 : prg_221.all (chk 221) = true := by decide +kernel
theorem mo_221 : mokM Mt 221 := ⟨by decide +kernel, lw_ok_mem (w := 7028) (by decide +kernel), lw_ok_mem (w := 1010) (by decide +kernel), ⟨by decide +kernel, by decide +kernel⟩, by decide +kernel⟩
