theorem ck_152 : prg_152.all (chk 152) = true := by decide +kernel
theorem mo_152 : mokM Mt 152 := ⟨by decide +kernel, lw_ok_mem (w := 5225) (by decide +kernel), lw_ok_mem (w := 1010) (by decide +kernel), ⟨by decide +kernel, by decide +kernel⟩, by decide +kernel⟩
theorem ck_153 : prg_153.all (chk 153) = true := by decide +kernel
theorem mo_153 : mokM Mt 153 := ⟨by decide +kernel, lw_ok_mem (w := 5221) (by decide +kernel), lw_ok_mem (w := 1010) (by decide +kernel), ⟨by decide +kernel, by decide +kernel⟩, by decide +kernel⟩
theorem ck_154 : prg_154.all (chk 154) = true := by decide +kernel
theorem mo_154 : mokM Mt 154 := ⟨by decide +kernel, lw_ok_mem (w := 5229) (by decide +kernel), lw_ok_mem (w := 1010) (by decide +kernel), ⟨by decide +kernel, by decide +kernel⟩, by decide +kernel⟩
theorem ck_155 : prg_155.all (chk 155) = true := by decide +kernel
theorem mo_155 : mokM Mt 155 := ⟨by decide +kernel, lw_ok_mem (w := 5217) (by decide +kernel), lw_ok_mem (w := 1010) (by decide +kernel), ⟨by decide +kernel, by decide +kernel⟩, by decide +kernel⟩
theorem ck_156 : prg_156.all (chk 156) = true := by decide +kernel
theorem mo_156 : mokM Mt 156 := ⟨by decide +kernel, lw_ok_mem (w := 5213) (by decide +kernel), lw_ok_mem (w := 1010) (by decide +kernel), ⟨by decide +kernel, by decide +kernel⟩, by decide +kernel⟩
theorem ck_157 : prg_157.all (chk 157) = true := by decide +kernel
theorem mo_157 : mokM Mt 157 := ⟨by decide +kernel, lw_ok_mem (w := 5236) (by decide +kernel), lw_ok_mem (w := 1010) (by decide +kernel), ⟨by decide +kernel, by decide +kernel⟩, by decide +kernel⟩
theorem ck_158 : prg_158.all (chk 158) = true := by decide +kernel
theorem mo_158 : mokM Mt 158 := ⟨by decide +kernel, lw_ok_mem (w := 5161) (by decide +kernel), lw_ok_mem (w := 1010) (by decide +kernel), ⟨by decide +kernel, by decide +kernel⟩, by decide +kernel⟩
theorem ck_159 : prg_159.all (chk 159) = true := by decide +kernel
theorem mo_159 : mokM Mt 159 := ⟨by decide +kernel, lw_ok_mem (w := 6003) (by decide +kernel), lw_ok_mem (w := 1010) (by decide +kernel), ⟨by decide +kernel, by decide +kernel⟩, by decide +kernel⟩
theorem ck_160 : prg_160.all (chk 160) = true := by decide +kernel
theorem mo_160 : mokM Mt 160 := ⟨by decide +kernel, lw_ok_mem (w := 6000) (by decide +kernel), lw_ok_mem (w := 1010) (by decide +kernel), ⟨by decide +kernel, by decide +kernel⟩, by decide +kernel⟩
theorem ck_161 : prg_161.all (chk 161) = true := by decide +kernel
theorem mo_161 : mokM Mt 161 := ⟨by decide +kernel, lw_ok_mem (w := 6008) (by decide +kernel), lw_ok_mem (w := 1010) (by decide +kernel), ⟨by decide +kernel, by decide +kernel⟩, by decide +kernel⟩
theorem ck_162 : prg_162.all (chk 162) = true := by decide +kernel
theorem mo_162 : mokM Mt 162 := ⟨by decide +kernel, lw_ok_mem (w := 6016) (by decide +kernel), lw_ok_mem (w := 1010) (by decide +kernel), ⟨by decide +kernel, by decide +kernel⟩, by decide +kernel⟩
theorem ck_163 : prg_163.all (chk 163) = true := by decide +kernel
theorem mo_163 : mokM Mt 163 := ⟨by decide +kernel, lw_ok_mem (w := 6022) (by decide +kernel), lw_ok_mem (w := 1010) (by decide +kernel), ⟨by decide +kernel, by decide +kernel⟩, by decide +kernel⟩
theorem ck_164 : prg_164.all (chk 164) = true := by decide +kernel
theorem mo_164 : mokM Mt 164 := ⟨by decide +kernel, lw_ok_mem (w := 6031) (by decide +kernel), lw_ok_mem (w := 1010) (by decide +kernel), ⟨by decide +kernel, by decide +kernel⟩, by decide +kernel⟩
theorem ck_165 : prg_165.all (chk 165) = true := by decide +kernel
theorem mo_165 : mokM Mt 165 := ⟨by decide +kernel, lw_ok_mem (w := 6026) (by decide +kernel), lw_ok_mem (w := 1010) (by decide +kernel), ⟨by decide +kernel, by decide +kernel⟩, by decide +kernel⟩
theorem ck_166 : prg_166.all (chk 166) = true := by decide +kernel
theorem mo_166 : mokM Mt 166 := ⟨by decide +kernel, lw_ok_mem (w := 6035) (by decide +kernel), lw_ok_mem (w := 1010) (by decide +kernel), ⟨by decide +kernel, by decide +kernel⟩, by decide +kernel⟩
theorem ck_167 : prg_167.all (chk 167) = true := by decide +kernel
theorem mo_167 : mokM Mt 167 := ⟨by decide +kernel, lw_ok_mem (w := 6040) (by decide +kernel), lw_ok_mem (w := 1010) (by decide +kernel), ⟨by decide +kernel, by decide +kernel⟩, by decide +kernel⟩
theorem ck_168 : prg_168.all (chk 168) = true := by decide +kernel
theorem mo_168 : mokM Mt 168 := ⟨by decide +kernel, lw_ok_mem (w := 6045) (by decide +kernel), lw_ok_mem (w := 1010) (by decide +kernel), ⟨by decide +kernel, by decide +kernel⟩, by decide +kernel⟩
theorem ck_169 : prg_169.all (chk 169) = true := by decide +kernel
theorem mo_169 : mokM Mt 169 := ⟨by decide +kernel, lw_ok_mem (w := 6054) (by decide +kernel), lw_ok_mem (w := 1010) (by decide +kernel), ⟨by decide +kernel, by decide +kernel⟩, by decide +kernel⟩
theorem ck_170 : prg_170.all (chk 170) = true := by decide +kernel
theorem mo_170 : mokM Mt 170 := ⟨by decide +kernel, lw_ok_mem (w := 6058) (by decide +kernel), lw_ok_mem (w := 1010) (by decide +kernel), ⟨by decide +kernel, by decide +kernel⟩, by decide +kernel⟩
theorem ck_171 : prg_171.all (chk 171) = true := by decide +kernel
theorem mo_171 : mokM Mt 171 := ⟨by decide +kernel, lw_ok_mem (w := 6062) (by decide +kernel), lw_ok_mem (w := 1010) (by decide +kernel), ⟨by decide +kernel, by decide +kernel⟩, by decide +kernel⟩
theorem ck_172 : prg_172.all (chk 172) = true := by decide +kernel
theorem mo_172 : mokM Mt 172 := ⟨by decide +kernel, lw_ok_mem (w := 6070) (by decide +kernel), lw_ok_mem (w := 1010) (by decide +kernel), ⟨by decide +kernel, by decide +kernel⟩, by decide +kernel⟩
theorem ck_173 : prg_173.all (chk 173) = true := by decide +kernel
theorem mo_173 : mokM Mt 173 := ⟨by decide +kernel, lw_ok_mem (w := 6066) (by decide +kernel), lw_ok_mem (w := 1010) (by decide +kernel), ⟨by decide +kernel, by decide +kernel⟩, by decide +kernel⟩
theorem ck_174 : prg_174.all (chk 174) = true := by decide +kernel
theorem mo_174 : mokM Mt 174 := ⟨by decide +kernel, lw_ok_mem (w := 6083) (by decide +kernel), lw_ok_mem (w := 1010) (by decide +kernel), ⟨by decide +kernel, by decide +kernel⟩, by decide +kernel⟩
theorem ck_175 : prg_175.all (chk 175) = true := by decide +kernel
theorem mo_175 : mokM Mt 175 := ⟨by decide +kernel, lw_ok_mem (w := 6079) (by decide +kernel), lw_ok_mem (w := 1010) (by decide +kernel), ⟨by decide +kernel, by decide +kernel⟩, by decide +kernel⟩
theorem ck_176 : prg_176.all (chk 176) = true := by decide +kernel
theorem mo_176 : mokM Mt 176 := ⟨by decide +kernel, lw_ok_mem (w := 6074) (by decide +kernel), lw_ok_mem (w := 1010) (by decide +kernel), ⟨by decide +kernel, by decide +kernel⟩, by decide +kernel⟩
theorem ck_177 : prg_177.all (chk 177) = true := by decide +kernel
theorem mo_177 : mokM Mt 177 := ⟨by decide +kernel, lw_ok_mem (w := 6087) (by decide +kernel), lw_ok_mem (w := 1010) (by decide +kernel), ⟨by decide +kernel, by decide +kernel⟩, by decide +kernel⟩
theorem ck_178 : prg_178.all (chk 178) = true := by decide +kernel
theorem mo_178 : mokM Mt 178 := ⟨by decide +kernel, lw_ok_mem (w := 6105) (by decide +kernel), lw_ok_mem (w := 1010) (by decide +kernel), ⟨by decide +kernel, by decide +kernel⟩, by decide +kernel⟩
theorem ck_179 : prg_179.all (chk 179) = true := by decide +kernel
theorem mo_179 : mokM Mt 179 := ⟨by decide +kernel, lw_ok_mem (w := 6101) (by decide +kernel), lw_ok_mem (w := 1010) (by decide +kernel), ⟨by decide +kernel, by decide +kernel⟩, by decide +kernel⟩
theorem ck_180 : prg_180.all (chk 180) = true := by decide +kernel
theorem mo_180 : mokM Mt 180 := ⟨by decide +kernel, lw_ok_mem (w := 6109) (by decide +kernel), lw_ok_mem (w := 1010) (by decide +kernel), ⟨by decide +kernel, by decide +kernel⟩, by decide +kernel⟩
theorem ck_181 : prg_181.all (chk 181) = true := by decide +kernel
theorem mo_181 : mokM Mt 181 := ⟨by decide +kernel, lw_ok_mem (w := 6097) (by decide +kernel), lw_ok_mem (w := 1010) (by decide +kernel), ⟨by decide +kernel, by decide +kernel⟩, by decide +kernel⟩
theorem ck_182 : prg_182.all (chk 182) = true := by decide +kernel
theorem mo_182 : mokM Mt 182 := ⟨by decide +kernel, lw_ok_mem (w := 6112) (by decide +kernel), lw_ok_mem (w := 1010) (by decide +kernel), ⟨by decide +kernel, by decide +kernel⟩, by decide +kernel⟩
theorem ck_183 : prg_183.all (chk 183) = true := by decide +kernel
theorem mo_183 : mokM Mt 183 := ⟨by decide +kernel, lw_ok_mem (w := 6092) (by decide +kernel), lw_ok_mem (w := 1010) (by decide +kernel), ⟨by decide +kernel, by decide +kernel⟩, by decide +kernel⟩
theorem ck_184 : prg_184.all (chk 184) = true := by decide +kernel
theorem mo_184 : mokM Mt 184 := ⟨by decide +kernel, lw_ok_mem (w := 6121) (by decide +kernel), lw_ok_mem (w := 1010) (by decide +kernel), ⟨by decide +kernel, by decide +kernel⟩, by decide +kernel⟩
theorem ck_185 : prg_185.all (chk 185) = true := by decide +kernel
theorem mo_185 : mokM Mt 185 := ⟨by decide +kernel, lw_ok_mem (w := 6116) (by decide +kernel), lw_ok_mem (w := 1010) (by decide +kernel), ⟨by decide +kernel, by decide +kernel⟩, by decide +kernel⟩
theorem ck_186 : prg_186.all (chk 186) = true := by decide +kernel
theorem mo_186 : mokM Mt 186 := ⟨by decide +kernel, lw_ok_mem (w := 6125) (by decide +kernel), lw_ok_mem (w := 1010) (by decide +kernel), ⟨by decide +kernel, by decide +kernel⟩, by decide +kernel⟩
theorem ck_187 : prg_187.all (chk 187) = true := by decide +kernel
theorem mo_187 : mokM Mt 187 := ⟨by decide +kernel, lw_ok_mem (w := 6134) (by decide +kernel), lw_ok_mem (w := 1010) (by decide +kernel), ⟨by decide +kernel, by decide +kernel⟩, by decide +kernel⟩
theorem ck_188 : prg_188.all (chk 188) = true := by decide +kernel
theorem mo_188 : mokM Mt 188 := ⟨by decide +kernel, lw_ok_mem (w := 6129) (by decide +kernel), lw_ok_mem (w := 1010) (by decide +kernel), ⟨by decide +kernel, by decide +kernel⟩, by decide +kernel⟩
theorem ck_189 : prg_189.all (chk 189) = true := by decide +kernel
theorem mo_189 : mokM Mt 189 := ⟨by decide +kernel, lw_ok_mem (w := 6138) (by decide +kernel), lw_ok_mem (w := 1010) (by decide +kernel), ⟨by decide +kernel, by decide +kernel⟩, by decide +kernel⟩
theorem ck_190 : prg_190.all (chk 190) = true := by decide +kernel
theorem mo_190 : mokM Mt 190 := ⟨by decide +kernel, lw_ok_mem (w := 6142) (by decide +kernel), lw_ok_mem (w := 1010) (by decide +kernel), ⟨by decide +kernel, by decide +kernel⟩, by decide +kernel⟩
theorem ck_191 : prg_191.all (chk 191) = true := by decide +kernel
theorem mo_191 : mokM Mt 191 := ⟨by decide +kernel, lw_ok_mem (w := 6146) (by decide +kernel), lw_ok_mem (w := 1010) (by decide +kernel), ⟨by decide +kernel, by decide +kernel⟩, by decide +kernel⟩
theorem ck_192 : prg_192.all (chk 192) = true := by decide +kernel
theorem mo_192 : mokM Mt 192 := ⟨by decide +kernel, lw_ok_mem (w := 6162) (by decide +kernel), lw_ok_mem (w := 1010) (by decide +kernel), ⟨by decide +kernel, by decide +kernel⟩, by decide +kernel⟩
theorem ck_193 : prg_193.all (chk 193) = true := by decide +kernel
theorem mo_193 : mokM Mt 193 := ⟨by decide +kernel, lw_ok_mem (w := 6168) (by decide +kernel), lw_ok_mem (w := 1010) (by decide +kernel), ⟨by decide +kernel, by decide +kernel⟩, by decide +kernel⟩
theorem ck_194_0 : prg_194_0.all (chk 194) = true := by decide +kernel
