theorem ck_99 : prg_99.all (chk 99) = true := by decide +kernel
theorem mo_99 : mokM Mt 99 := ⟨by decide +kernel, lw_ok_mem (w := 3078) (by decide +kernel), lw_ok_mem (w := 1001) (by decide +kernel), ⟨by decide +kernel, by decide +kernel⟩, by decide +kernel⟩
theorem ck_100 : prg_100.all (chk 100) = true := by decide +kernel
theorem mo_100 : mokM Mt 100 := ⟨by decide +kernel, lw_ok_mem (w := 3088) (by decide +kernel), lw_ok_mem (w := 1001) (by decide +kernel), ⟨by decide +kernel, by decide +kernel⟩, by decide +kernel⟩
theorem ck_101 : prg_101.all (chk 101) = true := by decide +kernel
theorem mo_101 : mokM Mt 101 := ⟨by decide +kernel, lw_ok_mem (w := 3096) (by decide +kernel), lw_ok_mem (w := 1001) (by decide +kernel), ⟨by decide +kernel, by decide +kernel⟩, by decide +kernel⟩
theorem ck_102 : prg_102.all (chk 102) = true := by decide +kernel
theorem mo_102 : mokM Mt 102 := ⟨by decide +kernel, lw_ok_mem (w := 3106) (by decide +kernel), lw_ok_mem (w := 1001) (by decide +kernel), ⟨by decide +kernel, by decide +kernel⟩, by decide +kernel⟩
theorem ck_103 : prg_103.all (chk 103) = true := by decide +kernel
theorem mo_103 : mokM Mt 103 := ⟨by decide +kernel, lw_ok_mem (w := 3114) (by decide +kernel), lw_ok_mem (w := 1001) (by decide +kernel), ⟨by decide +kernel, by decide +kernel⟩, by decide +kernel⟩
theorem ck_104 : prg_104.all (chk 104) = true := by decide +kernel
theorem mo_104 : mokM Mt 104 := ⟨by decide +kernel, lw_ok_mem (w := 3123) (by decide +kernel), lw_ok_mem (w := 1001) (by decide +kernel), ⟨by decide +kernel, by decide +kernel⟩, by decide +kernel⟩
theorem ck_105 : prg_105.all (chk 105) = true := by decide +kernel
theorem mo_105 : mokM Mt 105 := ⟨by decide +kernel, lw_ok_mem (w := 3127) (by decide +kernel), lw_ok_mem (w := 1001) (by decide +kernel), ⟨by decide +kernel, by decide +kernel⟩, by decide +kernel⟩
theorem ck_106 : prg_106.all (chk 106) = true := by decide +kernel
theorem mo_106 : mokM Mt 106 := ⟨by decide +kernel, lw_ok_mem (w := 4106) (by decide +kernel), lw_ok_mem (w := 1001) (by decide +kernel), ⟨by decide +kernel, by decide +kernel⟩, by decide +kernel⟩
theorem ck_107 : prg_107.all (chk 107) = true := by decide +kernel
theorem mo_107 : mokM Mt 107 := ⟨by decide +kernel, lw_ok_mem (w := 4111) (by decide +kernel), lw_ok_mem (w := 1001) (by decide +kernel), ⟨by decide +kernel, by decide +kernel⟩, by decide +kernel⟩
theorem ck_108 : prg_108.all (chk 108) = true := by decide +kernel
theorem mo_108 : mokM Mt 108 := ⟨by decide +kernel, lw_ok_mem (w := 4116) (by decide +kernel), lw_ok_mem (w := 1001) (by decide +kernel), ⟨by decide +kernel, by decide +kernel⟩, by decide +kernel⟩
theorem ck_109 : prg_109.all (chk 109) = true := by decide +kernel
theorem mo_109 : mokM Mt 109 := ⟨by decide +kernel, lw_ok_mem (w := 4130) (by decide +kernel), lw_ok_mem (w := 1001) (by decide +kernel), ⟨by decide +kernel, by decide +kernel⟩, by decide +kernel⟩
theorem ck_110 : prg_110.all (chk 110) = true := by decide +kernel
theorem mo_110 : mokM Mt 110 := ⟨by decide +kernel, lw_ok_mem (w := 4142) (by decide +kernel), lw_ok_mem (w := 1001) (by decide +kernel), ⟨by decide +kernel, by decide +kernel⟩, by decide +kernel⟩
theorem ck_111 : prg_111.all (chk 111) = true := by decide +kernel
theorem mo_111 : mokM Mt 111 := ⟨by decide +kernel, lw_ok_mem (w := 4153) (by decide +kernel), lw_ok_mem (w := 1001) (by decide +kernel), ⟨by decide +kernel, by decide +kernel⟩, by decide +kernel⟩
theorem ck_112 : prg_112.all (chk 112) = true := by decide +kernel
theorem mo_112 : mokM Mt 112 := ⟨by decide +kernel, lw_ok_mem (w := 4187) (by decide +kernel), lw_ok_mem (w := 1001) (by decide +kernel), ⟨by decide +kernel, by decide +kernel⟩, by decide +kernel⟩
theorem ck_113 : prg_113.all (chk 113) = true := by decide +kernel
theorem mo_113 : mokM Mt 113 := ⟨by decide +kernel, lw_ok_mem (w := 4196) (by decide +kernel), lw_ok_mem (w := 1001) (by decide +kernel), ⟨by decide +kernel, by decide +kernel⟩, by decide +kernel⟩
theorem ck_114 : prg_114.all (chk 114) = true := by decide +kernel
theorem mo_114 : mokM Mt 114 := ⟨by decide +kernel, lw_ok_mem (w := 4213) (by decide +kernel), lw_ok_mem (w := 1001) (by decide +kernel), ⟨by decide +kernel, by decide +kernel⟩, by decide +kernel⟩
theorem ck_115 : prg_115.all (chk 115) = true := by decide +kernel
theorem mo_115 : mokM Mt 115 := ⟨by decide +kernel, lw_ok_mem (w := 4217) (by decide +kernel), lw_ok_mem (w := 1001) (by decide +kernel), ⟨by decide +kernel, by decide +kernel⟩, by decide +kernel⟩
theorem ck_116 : prg_116.all (chk 116) = true := by decide +kernel
theorem mo_116 : mokM Mt 116 := ⟨by decide +kernel, lw_ok_mem (w := 4221) (by decide +kernel), lw_ok_mem (w := 1001) (by decide +kernel), ⟨by decide +kernel, by decide +kernel⟩, by decide +kernel⟩
theorem ck_117 : prg_117.all (chk 117) = true := by decide +kernel
theorem mo_117 : mokM Mt 117 := ⟨by decide +kernel, lw_ok_mem (w := 4226) (by decide +kernel), lw_ok_mem (w := 1001) (by decide +kernel), ⟨by decide +kernel, by decide +kernel⟩, by decide +kernel⟩
theorem ck_118 : prg_118.all (chk 118) = true := by decide +kernel
theorem mo_118 : mokM Mt 118 := ⟨by decide +kernel, lw_ok_mem (w := 4230) (by decide +kernel), lw_ok_mem (w := 1001) (by decide +kernel), ⟨by decide +kernel, by decide +kernel⟩, by decide +kernel⟩
theorem ck_119 : prg_119.all (chk 119) = true := by decide +kernel
theorem mo_119 : mokM Mt 119 := ⟨by decide +kernel, lw_ok_mem (w := 5008) (by decide +kernel), lw_ok_mem (w := 1001) (by decide +kernel), ⟨by decide +kernel, by decide +kernel⟩, by decide +kernel⟩
theorem ck_120 : prg_120.all (chk 120) = true := by decide +kernel
theorem mo_120 : mokM Mt 120 := ⟨by decide +kernel, lw_ok_mem (w := 5012) (by decide +kernel), lw_ok_mem (w := 1001) (by decide +kernel), ⟨by decide +kernel, by decide +kernel⟩, by decide +kernel⟩
theorem ck_121 : prg_121.all (chk 121) = true := by decide +kernel
theorem mo_121 : mokM Mt 121 := ⟨by decide +kernel, lw_ok_mem (w := 5016) (by decide +kernel), lw_ok_mem (w := 1001) (by decide +kernel), ⟨by decide +kernel, by decide +kernel⟩, by decide +kernel⟩
theorem ck_122 : prg_122.all (chk 122) = true := by decide +kernel
theorem mo_122 : mokM Mt 122 := ⟨by decide +kernel, lw_ok_mem (w := 2059) (by decide +kernel), lw_ok_mem (w := 1001) (by decide +kernel), ⟨by decide +kernel, by decide +kernel⟩, by decide +kernel⟩
theorem ck_123 : prg_123.all (chk 123) = true := by decide +kernel
theorem mo_123 : mokM Mt 123 := ⟨by decide +kernel, lw_ok_mem (w := 2099) (by decide +kernel), lw_ok_mem (w := 1001) (by decide +kernel), ⟨by decide +kernel, by decide +kernel⟩, by decide +kernel⟩
theorem ck_124 : prg_124.all (chk 124) = true := by decide +kernel
theorem mo_124 : mokM Mt 124 := ⟨by decide +kernel, lw_ok_mem (w := 2056) (by decide +kernel), lw_ok_mem (w := 1001) (by decide +kernel), ⟨by decide +kernel, by decide +kernel⟩, by decide +kernel⟩
theorem ck_125 : prg_125.all (chk 125) = true := by decide +kernel
theorem mo_125 : mokM Mt 125 := ⟨by decide +kernel, lw_ok_mem (w := 2062) (by decide +kernel), lw_ok_mem (w := 1001) (by decide +kernel), ⟨by decide +kernel, by decide +kernel⟩, by decide +kernel⟩
theorem ck_126 : prg_126.all (chk 126) = true := by decide +kernel
theorem mo_126 : mokM Mt 126 := ⟨by decide +kernel, lw_ok_mem (w := 4120) (by decide +kernel), lw_ok_mem (w := 1001) (by decide +kernel), ⟨by decide +kernel, by decide +kernel⟩, by decide +kernel⟩
theorem ck_127 : prg_127.all (chk 127) = true := by decide +kernel
theorem mo_127 : mokM Mt 127 := ⟨by decide +kernel, lw_ok_mem (w := 4200) (by decide +kernel), lw_ok_mem (w := 1001) (by decide +kernel), ⟨by decide +kernel, by decide +kernel⟩, by decide +kernel⟩
theorem ck_128 : prg_128.all (chk 128) = true := by decide +kernel
theorem mo_128 : mokM Mt 128 := ⟨by decide +kernel, lw_ok_mem (w := 5004) (by decide +kernel), lw_ok_mem (w := 1001) (by decide +kernel), ⟨by decide +kernel, by decide +kernel⟩, by decide +kernel⟩
theorem ck_129 : prg_129.all (chk 129) = true := by decide +kernel
theorem mo_129 : mokM Mt 129 := ⟨by decide +kernel, lw_ok_mem (w := 3119) (by decide +kernel), lw_ok_mem (w := 1001) (by decide +kernel), ⟨by decide +kernel, by decide +kernel⟩, by decide +kernel⟩
theorem ck_130 : prg_130.all (chk 130) = true := by decide +kernel
theorem mo_130 : mokM Mt 130 := ⟨by decide +kernel, lw_ok_mem (w := 3071) (by decide +kernel), lw_ok_mem (w := 1001) (by decide +kernel), ⟨by decide +kernel, by decide +kernel⟩, by decide +kernel⟩
theorem ck_131 : prg_131.all (chk 131) = true := by decide +kernel
theorem mo_131 : mokM Mt 131 := ⟨by decide +kernel, lw_ok_mem (w := 3074) (by decide +kernel), lw_ok_mem (w := 1001) (by decide +kernel), ⟨by decide +kernel, by decide +kernel⟩, by decide +kernel⟩
theorem ck_132 : prg_132.all (chk 132) = true := by decide +kernel
theorem mo_132 : mokM Mt 132 := ⟨by decide +kernel, lw_ok_mem (w := 5022) (by decide +kernel), lw_ok_mem (w := 1010) (by decide +kernel), ⟨by decide +kernel, by decide +kernel⟩, by decide +kernel⟩
theorem ck_133 : prg_133.all (chk 133) = true := by decide +kernel
theorem mo_133 : mokM Mt 133 := ⟨by decide +kernel, lw_ok_mem (w := 5146) (by decide +kernel), lw_ok_mem (w := 1010) (by decide +kernel), ⟨by decide +kernel, by decide +kernel⟩, by decide +kernel⟩
theorem ck_134 : prg_134.all (chk 134) = true := by decide +kernel
theorem mo_134 : mokM Mt 134 := ⟨by decide +kernel, lw_ok_mem (w := 5195) (by decide +kernel), lw_ok_mem (w := 1010) (by decide +kernel), ⟨by decide +kernel, by decide +kernel⟩, by decide +kernel⟩
theorem ck_135 : prg_135.all (chk 135) = true := by decide +kernel
theorem mo_135 : mokM Mt 135 := ⟨by decide +kernel, lw_ok_mem (w := 6228) (by decide +kernel), lw_ok_mem (w := 1010) (by decide +kernel), ⟨by decide +kernel, by decide +kernel⟩, by decide +kernel⟩
theorem ck_136 : prg_136.all (chk 136) = true := by decide +kernel
theorem mo_136 : mokM Mt 136 := ⟨by decide +kernel, lw_ok_mem (w := 5232) (by decide +kernel), lw_ok_mem (w := 1010) (by decide +kernel), ⟨by decide +kernel, by decide +kernel⟩, by decide +kernel⟩
theorem ck_137 : prg_137.all (chk 137) = true := by decide +kernel
theorem mo_137 : mokM Mt 137 := ⟨by decide +kernel, lw_ok_mem (w := 6012) (by decide +kernel), lw_ok_mem (w := 1010) (by decide +kernel), ⟨by decide +kernel, by decide +kernel⟩, by decide +kernel⟩
theorem ck_138 : prg_138.all (chk 138) = true := by decide +kernel
theorem mo_138 : mokM Mt 138 := ⟨by decide +kernel, lw_ok_mem (w := 5181) (by decide +kernel), lw_ok_mem (w := 1010) (by decide +kernel), ⟨by decide +kernel, by decide +kernel⟩, by decide +kernel⟩
theorem ck_139 : prg_139.all (chk 139) = true := by decide +kernel
theorem mo_139 : mokM Mt 139 := ⟨by decide +kernel, lw_ok_mem (w := 5169) (by decide +kernel), lw_ok_mem (w := 1010) (by decide +kernel), ⟨by decide +kernel, by decide +kernel⟩, by decide +kernel⟩
theorem ck_140 : prg_140.all (chk 140) = true := by decide +kernel
theorem mo_140 : mokM Mt 140 := ⟨by decide +kernel, lw_ok_mem (w := 5165) (by decide +kernel), lw_ok_mem (w := 1010) (by decide +kernel), ⟨by decide +kernel, by decide +kernel⟩, by decide +kernel⟩
theorem ck_141 : prg_141.all (chk 141) = true := by decide +kernel
theorem mo_141 : mokM Mt 141 := ⟨by decide +kernel, lw_ok_mem (w := 5151) (by decide +kernel), lw_ok_mem (w := 1010) (by decide +kernel), ⟨by decide +kernel, by decide +kernel⟩, by decide +kernel⟩
theorem ck_142 : prg_142.all (chk 142) = true := by decide +kernel
theorem mo_142 : mokM Mt 142 := ⟨by decide +kernel, lw_ok_mem (w := 6221) (by decide +kernel), lw_ok_mem (w := 1010) (by decide +kernel), ⟨by decide +kernel, by decide +kernel⟩, by decide +kernel⟩
theorem ck_143 : prg_143.all (chk 143) = true := by decide +kernel
theorem mo_143 : mokM Mt 143 := ⟨by decide +kernel, lw_ok_mem (w := 6049) (by decide +kernel), lw_ok_mem (w := 1010) (by decide +kernel), ⟨by decide +kernel, by decide +kernel⟩, by decide +kernel⟩
theorem ck_144 : prg_144.all (chk 144) = true := by decide +kernel
theorem mo_144 : mokM Mt 144 := ⟨by decide +kernel, lw_ok_mem (w := 5205) (by decide +kernel), lw_ok_mem (w := 1010) (by decide +kernel), ⟨by decide +kernel, by decide +kernel⟩, by decide +kernel⟩
theorem ck_145 : prg_145.all (chk 145) = true := by decide +kernel
theorem mo_145 : mokM Mt 145 := ⟨by decide +kernel, lw_ok_mem (w := 5157) (by decide +kernel), lw_ok_mem (w := 1010) (by decide +kernel), ⟨by decide +kernel, by decide +kernel⟩, by decide +kernel⟩
theorem ck_146 : prg_146.all (chk 146) = true := by decide +kernel
theorem mo_146 : mokM Mt 146 := ⟨by decide +kernel, lw_ok_mem (w := 5142) (by decide +kernel), lw_ok_mem (w := 1010) (by decide +kernel), ⟨by decide +kernel, by decide +kernel⟩, by decide +kernel⟩
theorem ck_147 : prg_147.all (chk 147) = true := by decide +kernel
theorem mo_147 : mokM Mt 147 := ⟨by decide +kernel, lw_ok_mem (w := 5185) (by decide +kernel), lw_ok_mem (w := 1010) (by decide +kernel), ⟨by decide +kernel, by decide +kernel⟩, by decide +kernel⟩
theorem ck_148 : prg_148.all (chk 148) = true := by decide +kernel
theorem mo_148 : mokM Mt 148 := ⟨by decide +kernel, lw_ok_mem (w := 5198) (by decide +kernel), lw_ok_mem (w := 1010) (by decide +kernel), ⟨by decide +kernel, by decide +kernel⟩, by decide +kernel⟩
theorem ck_149 : prg_149.all (chk 149) = true := by decide +kernel
theorem mo_149 : mokM Mt 149 := ⟨by decide +kernel, lw_ok_mem (w := 5173) (by decide +kernel), lw_ok_mem (w := 1010) (by decide +kernel), ⟨by decide +kernel, by decide +kernel⟩, by decide +kernel⟩
theorem ck_150 : prg_150.all (chk 150) = true := by decide +kernel
theorem mo_150 : mokM Mt 150 := ⟨by decide +kernel, lw_ok_mem (w := 5202) (by decide +kernel), lw_ok_mem (w := 1010) (by decide +kernel), ⟨by decide +kernel, by decide +kernel⟩, by decide +kernel⟩
theorem ck_151 : prg_151.all (chk 151) = true := by decide +kernel
theorem mo_151 : mokM Mt 151 := ⟨by decide +kernel, lw_ok_mem (w := 5209) (by decide +kernel), lw_ok_mem (w := 1010) (by decide +kernel), ⟨by decide +kernel, by decide +kernel⟩, by decide +kernel⟩
