theorem ck_47 : prg_47.all (chk 47) = true := by decide +kernel
theorem mo_47 : mokM Mt 47 := ⟨by decide +kernel, lw_ok_mem (w := 2137) (by decide +kernel), lw_ok_mem (w := 1006) (by decide +kernel), ⟨by decide +kernel, by decide +kernel⟩, by decide +kernel⟩
theorem ck_48 : prg_48.all (chk 48) = true := by decide +kernel
theorem mo_48 : mokM Mt 48 := ⟨by decide +kernel, lw_ok_mem (w := 2133) (by decide +kernel), lw_ok_mem (w := 1006) (by decide +kernel), ⟨by decide +kernel, by decide +kernel⟩, by decide +kernel⟩
theorem ck_49 : prg_49.all (chk 49) = true := by decide +kernel
theorem mo_49 : mokM Mt 49 := ⟨by decide +kernel, lw_ok_mem (w := 2154) (by decide +kernel), lw_ok_mem (w := 1006) (by decide +kernel), ⟨by decide +kernel, by decide +kernel⟩, by decide +kernel⟩
theorem ck_50 : prg_50.all (chk 50) = true := by decide +kernel
theorem mo_50 : mokM Mt 50 := ⟨by decide +kernel, lw_ok_mem (w := 2162) (by decide +kernel), lw_ok_mem (w := 1006) (by decide +kernel), ⟨by decide +kernel, by decide +kernel⟩, by decide +kernel⟩
theorem ck_51 : prg_51.all (chk 51) = true := by decide +kernel
theorem mo_51 : mokM Mt 51 := ⟨by decide +kernel, lw_ok_mem (w := 2158) (by decide +kernel), lw_ok_mem (w := 1006) (by decide +kernel), ⟨by decide +kernel, by decide +kernel⟩, by decide +kernel⟩
theorem ck_52 : prg_52.all (chk 52) = true := by decide +kernel
theorem mo_52 : mokM Mt 52 := ⟨by decide +kernel, lw_ok_mem (w := 3010) (by decide +kernel), lw_ok_mem (w := 1006) (by decide +kernel), ⟨by decide +kernel, by decide +kernel⟩, by decide +kernel⟩
theorem ck_53 : prg_53.all (chk 53) = true := by decide +kernel
theorem mo_53 : mokM Mt 53 := ⟨by decide +kernel, lw_ok_mem (w := 2237) (by decide +kernel), lw_ok_mem (w := 1006) (by decide +kernel), ⟨by decide +kernel, by decide +kernel⟩, by decide +kernel⟩
theorem ck_54 : prg_54.all (chk 54) = true := by decide +kernel
theorem mo_54 : mokM Mt 54 := ⟨by decide +kernel, lw_ok_mem (w := 3110) (by decide +kernel), lw_ok_mem (w := 1006) (by decide +kernel), ⟨by decide +kernel, by decide +kernel⟩, by decide +kernel⟩
theorem ck_55 : prg_55.all (chk 55) = true := by decide +kernel
theorem mo_55 : mokM Mt 55 := ⟨by decide +kernel, lw_ok_mem (w := 3019) (by decide +kernel), lw_ok_mem (w := 1006) (by decide +kernel), ⟨by decide +kernel, by decide +kernel⟩, by decide +kernel⟩
theorem ck_56 : prg_56.all (chk 56) = true := by decide +kernel
theorem mo_56 : mokM Mt 56 := ⟨by decide +kernel, lw_ok_mem (w := 3023) (by decide +kernel), lw_ok_mem (w := 1006) (by decide +kernel), ⟨by decide +kernel, by decide +kernel⟩, by decide +kernel⟩
theorem ck_57 : prg_57.all (chk 57) = true := by decide +kernel
theorem mo_57 : mokM Mt 57 := ⟨by decide +kernel, lw_ok_mem (w := 3027) (by decide +kernel), lw_ok_mem (w := 1006) (by decide +kernel), ⟨by decide +kernel, by decide +kernel⟩, by decide +kernel⟩
theorem ck_58 : prg_58.all (chk 58) = true := by decide +kernel
theorem mo_58 : mokM Mt 58 := ⟨by decide +kernel, lw_ok_mem (w := 3031) (by decide +kernel), lw_ok_mem (w := 1006) (by decide +kernel), ⟨by decide +kernel, by decide +kernel⟩, by decide +kernel⟩
theorem ck_59 : prg_59.all (chk 59) = true := by decide +kernel
theorem mo_59 : mokM Mt 59 := ⟨by decide +kernel, lw_ok_mem (w := 3049) (by decide +kernel), lw_ok_mem (w := 1006) (by decide +kernel), ⟨by decide +kernel, by decide +kernel⟩, by decide +kernel⟩
theorem ck_60 : prg_60.all (chk 60) = true := by decide +kernel
theorem mo_60 : mokM Mt 60 := ⟨by decide +kernel, lw_ok_mem (w := 3055) (by decide +kernel), lw_ok_mem (w := 1006) (by decide +kernel), ⟨by decide +kernel, by decide +kernel⟩, by decide +kernel⟩
theorem ck_61 : prg_61.all (chk 61) = true := by decide +kernel
theorem mo_61 : mokM Mt 61 := ⟨by decide +kernel, lw_ok_mem (w := 3067) (by decide +kernel), lw_ok_mem (w := 1006) (by decide +kernel), ⟨by decide +kernel, by decide +kernel⟩, by decide +kernel⟩
theorem ck_62 : prg_62.all (chk 62) = true := by decide +kernel
theorem mo_62 : mokM Mt 62 := ⟨by decide +kernel, lw_ok_mem (w := 3045) (by decide +kernel), lw_ok_mem (w := 1006) (by decide +kernel), ⟨by decide +kernel, by decide +kernel⟩, by decide +kernel⟩
theorem ck_63 : prg_63.all (chk 63) = true := by decide +kernel
theorem mo_63 : mokM Mt 63 := ⟨by decide +kernel, lw_ok_mem (w := 3082) (by decide +kernel), lw_ok_mem (w := 1006) (by decide +kernel), ⟨by decide +kernel, by decide +kernel⟩, by decide +kernel⟩
theorem ck_64 : prg_64.all (chk 64) = true := by decide +kernel
theorem mo_64 : mokM Mt 64 := ⟨by decide +kernel, lw_ok_mem (w := 3092) (by decide +kernel), lw_ok_mem (w := 1006) (by decide +kernel), ⟨by decide +kernel, by decide +kernel⟩, by decide +kernel⟩
theorem ck_65 : prg_65.all (chk 65) = true := by decide +kernel
theorem mo_65 : mokM Mt 65 := ⟨by decide +kernel, lw_ok_mem (w := 3100) (by decide +kernel), lw_ok_mem (w := 1006) (by decide +kernel), ⟨by decide +kernel, by decide +kernel⟩, by decide +kernel⟩
theorem ck_66 : prg_66.all (chk 66) = true := by decide +kernel
theorem mo_66 : mokM Mt 66 := ⟨by decide +kernel, lw_ok_mem (w := 1211) (by decide +kernel), lw_ok_mem (w := 1008) (by decide +kernel), ⟨by decide +kernel, by decide +kernel⟩, by decide +kernel⟩
theorem ck_67 : prg_67.all (chk 67) = true := by decide +kernel
theorem mo_67 : mokM Mt 67 := ⟨by decide +kernel, lw_ok_mem (w := 4124) (by decide +kernel), lw_ok_mem (w := 1008) (by decide +kernel), ⟨by decide +kernel, by decide +kernel⟩, by decide +kernel⟩
theorem ck_68 : prg_68.all (chk 68) = true := by decide +kernel
theorem mo_68 : mokM Mt 68 := ⟨by decide +kernel, lw_ok_mem (w := 4208) (by decide +kernel), lw_ok_mem (w := 1008) (by decide +kernel), ⟨by decide +kernel, by decide +kernel⟩, by decide +kernel⟩
theorem ck_69 : prg_69.all (chk 69) = true := by decide +kernel
theorem mo_69 : mokM Mt 69 := ⟨by decide +kernel, lw_ok_mem (w := 4135) (by decide +kernel), lw_ok_mem (w := 1008) (by decide +kernel), ⟨by decide +kernel, by decide +kernel⟩, by decide +kernel⟩
theorem ck_70 : prg_70.all (chk 70) = true := by decide +kernel
theorem mo_70 : mokM Mt 70 := ⟨by decide +kernel, lw_ok_mem (w := 4191) (by decide +kernel), lw_ok_mem (w := 1008) (by decide +kernel), ⟨by decide +kernel, by decide +kernel⟩, by decide +kernel⟩
theorem ck_71 : prg_71.all (chk 71) = true := by decide +kernel
theorem mo_71 : mokM Mt 71 := ⟨by decide +kernel, lw_ok_mem (w := 4146) (by decide +kernel), lw_ok_mem (w := 1008) (by decide +kernel), ⟨by decide +kernel, by decide +kernel⟩, by decide +kernel⟩
theorem ck_72 : prg_72.all (chk 72) = true := by decide +kernel
theorem mo_72 : mokM Mt 72 := ⟨by decide +kernel, lw_ok_mem (w := 4157) (by decide +kernel), lw_ok_mem (w := 1008) (by decide +kernel), ⟨by decide +kernel, by decide +kernel⟩, by decide +kernel⟩
theorem ck_73 : prg_73.all (chk 73) = true := by decide +kernel
theorem mo_73 : mokM Mt 73 := ⟨by decide +kernel, lw_ok_mem (w := 4162) (by decide +kernel), lw_ok_mem (w := 1008) (by decide +kernel), ⟨by decide +kernel, by decide +kernel⟩, by decide +kernel⟩
theorem ck_74 : prg_74.all (chk 74) = true := by decide +kernel
theorem mo_74 : mokM Mt 74 := ⟨by decide +kernel, lw_ok_mem (w := 4166) (by decide +kernel), lw_ok_mem (w := 1008) (by decide +kernel), ⟨by decide +kernel, by decide +kernel⟩, by decide +kernel⟩
theorem ck_75 : prg_75.all (chk 75) = true := by decide +kernel
theorem mo_75 : mokM Mt 75 := ⟨by decide +kernel, lw_ok_mem (w := 4170) (by decide +kernel), lw_ok_mem (w := 1008) (by decide +kernel), ⟨by decide +kernel, by decide +kernel⟩, by decide +kernel⟩
theorem ck_76 : prg_76.all (chk 76) = true := by decide +kernel
theorem mo_76 : mokM Mt 76 := ⟨by decide +kernel, lw_ok_mem (w := 4173) (by decide +kernel), lw_ok_mem (w := 1008) (by decide +kernel), ⟨by decide +kernel, by decide +kernel⟩, by decide +kernel⟩
theorem ck_77 : prg_77.all (chk 77) = true := by decide +kernel
theorem mo_77 : mokM Mt 77 := ⟨by decide +kernel, lw_ok_mem (w := 4178) (by decide +kernel), lw_ok_mem (w := 1008) (by decide +kernel), ⟨by decide +kernel, by decide +kernel⟩, by decide +kernel⟩
theorem ck_78 : prg_78.all (chk 78) = true := by decide +kernel
theorem mo_78 : mokM Mt 78 := ⟨by decide +kernel, lw_ok_mem (w := 4183) (by decide +kernel), lw_ok_mem (w := 1008) (by decide +kernel), ⟨by decide +kernel, by decide +kernel⟩, by decide +kernel⟩
theorem ck_79 : prg_79.all (chk 79) = true := by decide +kernel
theorem mo_79 : mokM Mt 79 := ⟨by decide +kernel, lw_ok_mem (w := 1231) (by decide +kernel), lw_ok_mem (w := 1009) (by decide +kernel), ⟨by decide +kernel, by decide +kernel⟩, by decide +kernel⟩
theorem ck_80 : prg_80.all (chk 80) = true := by decide +kernel
theorem mo_80 : mokM Mt 80 := ⟨by decide +kernel, lw_ok_mem (w := 4082) (by decide +kernel), lw_ok_mem (w := 1019) (by decide +kernel), ⟨by decide +kernel, by decide +kernel⟩, by decide +kernel⟩
theorem ck_81 : prg_81.all (chk 81) = true := by decide +kernel
theorem mo_81 : mokM Mt 81 := ⟨by decide +kernel, lw_ok_mem (w := 1024) (by decide +kernel), lw_ok_mem (w := 1001) (by decide +kernel), ⟨by decide +kernel, by decide +kernel⟩, by decide +kernel⟩
theorem ck_82 : prg_82.all (chk 82) = true := by decide +kernel
theorem mo_82 : mokM Mt 82 := ⟨by decide +kernel, lw_ok_mem (w := 2053) (by decide +kernel), lw_ok_mem (w := 1001) (by decide +kernel), ⟨by decide +kernel, by decide +kernel⟩, by decide +kernel⟩
theorem ck_83 : prg_83.all (chk 83) = true := by decide +kernel
theorem mo_83 : mokM Mt 83 := ⟨by decide +kernel, lw_ok_mem (w := 2072) (by decide +kernel), lw_ok_mem (w := 1001) (by decide +kernel), ⟨by decide +kernel, by decide +kernel⟩, by decide +kernel⟩
theorem ck_84 : prg_84.all (chk 84) = true := by decide +kernel
theorem mo_84 : mokM Mt 84 := ⟨by decide +kernel, lw_ok_mem (w := 2166) (by decide +kernel), lw_ok_mem (w := 1001) (by decide +kernel), ⟨by decide +kernel, by decide +kernel⟩, by decide +kernel⟩
theorem ck_85 : prg_85.all (chk 85) = true := by decide +kernel
theorem mo_85 : mokM Mt 85 := ⟨by decide +kernel, lw_ok_mem (w := 2177) (by decide +kernel), lw_ok_mem (w := 1001) (by decide +kernel), ⟨by decide +kernel, by decide +kernel⟩, by decide +kernel⟩
theorem ck_86 : prg_86.all (chk 86) = true := by decide +kernel
theorem mo_86 : mokM Mt 86 := ⟨by decide +kernel, lw_ok_mem (w := 2181) (by decide +kernel), lw_ok_mem (w := 1001) (by decide +kernel), ⟨by decide +kernel, by decide +kernel⟩, by decide +kernel⟩
theorem ck_87 : prg_87.all (chk 87) = true := by decide +kernel
theorem mo_87 : mokM Mt 87 := ⟨by decide +kernel, lw_ok_mem (w := 2185) (by decide +kernel), lw_ok_mem (w := 1001) (by decide +kernel), ⟨by decide +kernel, by decide +kernel⟩, by decide +kernel⟩
theorem ck_88 : prg_88.all (chk 88) = true := by decide +kernel
theorem mo_88 : mokM Mt 88 := ⟨by decide +kernel, lw_ok_mem (w := 2189) (by decide +kernel), lw_ok_mem (w := 1001) (by decide +kernel), ⟨by decide +kernel, by decide +kernel⟩, by decide +kernel⟩
theorem ck_89 : prg_89.all (chk 89) = true := by decide +kernel
theorem mo_89 : mokM Mt 89 := ⟨by decide +kernel, lw_ok_mem (w := 2200) (by decide +kernel), lw_ok_mem (w := 1001) (by decide +kernel), ⟨by decide +kernel, by decide +kernel⟩, by decide +kernel⟩
theorem ck_90 : prg_90.all (chk 90) = true := by decide +kernel
theorem mo_90 : mokM Mt 90 := ⟨by decide +kernel, lw_ok_mem (w := 2209) (by decide +kernel), lw_ok_mem (w := 1001) (by decide +kernel), ⟨by decide +kernel, by decide +kernel⟩, by decide +kernel⟩
theorem ck_91 : prg_91.all (chk 91) = true := by decide +kernel
theorem mo_91 : mokM Mt 91 := ⟨by decide +kernel, lw_ok_mem (w := 2214) (by decide +kernel), lw_ok_mem (w := 1001) (by decide +kernel), ⟨by decide +kernel, by decide +kernel⟩, by decide +kernel⟩
theorem ck_92 : prg_92.all (chk 92) = true := by decide +kernel
theorem mo_92 : mokM Mt 92 := ⟨by decide +kernel, lw_ok_mem (w := 2229) (by decide +kernel), lw_ok_mem (w := 1001) (by decide +kernel), ⟨by decide +kernel, by decide +kernel⟩, by decide +kernel⟩
theorem ck_93 : prg_93.all (chk 93) = true := by decide +kernel
theorem mo_93 : mokM Mt 93 := ⟨by decide +kernel, lw_ok_mem (w := 2233) (by decide +kernel), lw_ok_mem (w := 1001) (by decide +kernel), ⟨by decide +kernel, by decide +kernel⟩, by decide +kernel⟩
theorem ck_94 : prg_94.all (chk 94) = true := by decide +kernel
theorem mo_94 : mokM Mt 94 := ⟨by decide +kernel, lw_ok_mem (w := 3001) (by decide +kernel), lw_ok_mem (w := 1001) (by decide +kernel), ⟨by decide +kernel, by decide +kernel⟩, by decide +kernel⟩
theorem ck_95 : prg_95.all (chk 95) = true := by decide +kernel
theorem mo_95 : mokM Mt 95 := ⟨by decide +kernel, lw_ok_mem (w := 3006) (by decide +kernel), lw_ok_mem (w := 1001) (by decide +kernel), ⟨by decide +kernel, by decide +kernel⟩, by decide +kernel⟩
theorem ck_96 : prg_96.all (chk 96) = true := by decide +kernel
theorem mo_96 : mokM Mt 96 := ⟨by decide +kernel, lw_ok_mem (w := 3014) (by decide +kernel), lw_ok_mem (w := 1001) (by decide +kernel), ⟨by decide +kernel, by decide +kernel⟩, by decide +kernel⟩
theorem ck_97 : prg_97.all (chk 97) = true := by decide +kernel
theorem mo_97 : mokM Mt 97 := ⟨by decide +kernel, lw_ok_mem (w := 3036) (by decide +kernel), lw_ok_mem (w := 1001) (by decide +kernel), ⟨by decide +kernel, by decide +kernel⟩, by decide +kernel⟩
theorem ck_98 : prg_98.all (chk 98) = true := by decide +kernel
theorem mo_98 : mokM Mt 98 := ⟨by decide +kernel, lw_ok_mem (w := 3040) (by decide +kernel), lw_ok_mem (w := 1001) (by decide +kernel), ⟨by decide +kernel, by decide +kernel⟩, by decide +kernel⟩
