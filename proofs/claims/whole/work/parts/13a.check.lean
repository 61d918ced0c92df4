theorem ck_0 : prg_0.all (chk 0) = true := by decide +kernel
theorem mo_0 : mokM Mt 0 := ⟨by decide +kernel, lw_ok_mem (w := 1040) (by decide +kernel), lw_ok_mem (w := 1003) (by decide +kernel), ⟨by decide +kernel, by decide +kernel⟩, by decide +kernel⟩
theorem ck_1 : prg_1.all (chk 1) = true := by decide +kernel
theorem mo_1 : mokM Mt 1 := ⟨by decide +kernel, lw_ok_mem (w := 2193) (by decide +kernel), lw_ok_mem (w := 1003) (by decide +kernel), ⟨by decide +kernel, by decide +kernel⟩, by decide +kernel⟩
theorem ck_2 : prg_2.all (chk 2) = true := by decide +kernel
theorem mo_2 : mokM Mt 2 := ⟨by decide +kernel, lw_ok_mem (w := 2204) (by decide +kernel), lw_ok_mem (w := 1003) (by decide +kernel), ⟨by decide +kernel, by decide +kernel⟩, by decide +kernel⟩
theorem ck_3 : prg_3.all (chk 3) = true := by decide +kernel
theorem mo_3 : mokM Mt 3 := ⟨by decide +kernel, lw_ok_mem (w := 2096) (by decide +kernel), lw_ok_mem (w := 1003) (by decide +kernel), ⟨by decide +kernel, by decide +kernel⟩, by decide +kernel⟩
theorem ck_4 : prg_4.all (chk 4) = true := by decide +kernel
theorem mo_4 : mokM Mt 4 := ⟨by decide +kernel, lw_ok_mem (w := 4239) (by decide +kernel), lw_ok_mem (w := 1003) (by decide +kernel), ⟨by decide +kernel, by decide +kernel⟩, by decide +kernel⟩
theorem ck_5 : prg_5.all (chk 5) = true := by decide +kernel
theorem mo_5 : mokM Mt 5 := ⟨by decide +kernel, lw_ok_mem (w := 1062) (by decide +kernel), lw_ok_mem (w := 1004) (by decide +kernel), ⟨by decide +kernel, by decide +kernel⟩, by decide +kernel⟩
theorem ck_6 : prg_6.all (chk 6) = true := by decide +kernel
theorem mo_6 : mokM Mt 6 := ⟨by decide +kernel, lw_ok_mem (w := 4204) (by decide +kernel), lw_ok_mem (w := 1004) (by decide +kernel), ⟨by decide +kernel, by decide +kernel⟩, by decide +kernel⟩
theorem ck_7 : prg_7.all (chk 7) = true := by decide +kernel
theorem mo_7 : mokM Mt 7 := ⟨by decide +kernel, lw_ok_mem (w := 2170) (by decide +kernel), lw_ok_mem (w := 1004) (by decide +kernel), ⟨by decide +kernel, by decide +kernel⟩, by decide +kernel⟩
theorem ck_8 : prg_8.all (chk 8) = true := by decide +kernel
theorem mo_8 : mokM Mt 8 := ⟨by decide +kernel, lw_ok_mem (w := 2129) (by decide +kernel), lw_ok_mem (w := 1004) (by decide +kernel), ⟨by decide +kernel, by decide +kernel⟩, by decide +kernel⟩
theorem ck_9 : prg_9.all (chk 9) = true := by decide +kernel
theorem mo_9 : mokM Mt 9 := ⟨by decide +kernel, lw_ok_mem (w := 3059) (by decide +kernel), lw_ok_mem (w := 1004) (by decide +kernel), ⟨by decide +kernel, by decide +kernel⟩, by decide +kernel⟩
theorem ck_10 : prg_10.all (chk 10) = true := by decide +kernel
theorem mo_10 : mokM Mt 10 := ⟨by decide +kernel, lw_ok_mem (w := 3063) (by decide +kernel), lw_ok_mem (w := 1004) (by decide +kernel), ⟨by decide +kernel, by decide +kernel⟩, by decide +kernel⟩
theorem ck_11 : prg_11.all (chk 11) = true := by decide +kernel
theorem mo_11 : mokM Mt 11 := ⟨by decide +kernel, lw_ok_mem (w := 1032) (by decide +kernel), lw_ok_mem (w := 1002) (by decide +kernel), ⟨by decide +kernel, by decide +kernel⟩, by decide +kernel⟩
theorem ck_12 : prg_12.all (chk 12) = true := by decide +kernel
theorem mo_12 : mokM Mt 12 := ⟨by decide +kernel, lw_ok_mem (w := 2076) (by decide +kernel), lw_ok_mem (w := 1002) (by decide +kernel), ⟨by decide +kernel, by decide +kernel⟩, by decide +kernel⟩
theorem ck_13 : prg_13.all (chk 13) = true := by decide +kernel
theorem mo_13 : mokM Mt 13 := ⟨by decide +kernel, lw_ok_mem (w := 2092) (by decide +kernel), lw_ok_mem (w := 1002) (by decide +kernel), ⟨by decide +kernel, by decide +kernel⟩, by decide +kernel⟩
theorem ck_14 : prg_14.all (chk 14) = true := by decide +kernel
theorem mo_14 : mokM Mt 14 := ⟨by decide +kernel, lw_ok_mem (w := 2067) (by decide +kernel), lw_ok_mem (w := 1002) (by decide +kernel), ⟨by decide +kernel, by decide +kernel⟩, by decide +kernel⟩
theorem ck_15 : prg_15.all (chk 15) = true := by decide +kernel
theorem mo_15 : mokM Mt 15 := ⟨by decide +kernel, lw_ok_mem (w := 4102) (by decide +kernel), lw_ok_mem (w := 1002) (by decide +kernel), ⟨by decide +kernel, by decide +kernel⟩, by decide +kernel⟩
theorem ck_16 : prg_16.all (chk 16) = true := by decide +kernel
theorem mo_16 : mokM Mt 16 := ⟨by decide +kernel, lw_ok_mem (w := 2088) (by decide +kernel), lw_ok_mem (w := 1002) (by decide +kernel), ⟨by decide +kernel, by decide +kernel⟩, by decide +kernel⟩
theorem ck_17 : prg_17.all (chk 17) = true := by decide +kernel
theorem mo_17 : mokM Mt 17 := ⟨by decide +kernel, lw_ok_mem (w := 2223) (by decide +kernel), lw_ok_mem (w := 1002) (by decide +kernel), ⟨by decide +kernel, by decide +kernel⟩, by decide +kernel⟩
theorem ck_18 : prg_18.all (chk 18) = true := by decide +kernel
theorem mo_18 : mokM Mt 18 := ⟨by decide +kernel, lw_ok_mem (w := 2219) (by decide +kernel), lw_ok_mem (w := 1002) (by decide +kernel), ⟨by decide +kernel, by decide +kernel⟩, by decide +kernel⟩
theorem ck_19 : prg_19.all (chk 19) = true := by decide +kernel
theorem mo_19 : mokM Mt 19 := ⟨by decide +kernel, lw_ok_mem (w := 4234) (by decide +kernel), lw_ok_mem (w := 1002) (by decide +kernel), ⟨by decide +kernel, by decide +kernel⟩, by decide +kernel⟩
theorem ck_20 : prg_20.all (chk 20) = true := by decide +kernel
theorem mo_20 : mokM Mt 20 := ⟨by decide +kernel, lw_ok_mem (w := 1173) (by decide +kernel), lw_ok_mem (w := 1007) (by decide +kernel), ⟨by decide +kernel, by decide +kernel⟩, by decide +kernel⟩
theorem ck_21 : prg_21.all (chk 21) = true := by decide +kernel
theorem mo_21 : mokM Mt 21 := ⟨by decide +kernel, lw_ok_mem (w := 3131) (by decide +kernel), lw_ok_mem (w := 1007) (by decide +kernel), ⟨by decide +kernel, by decide +kernel⟩, by decide +kernel⟩
theorem ck_22 : prg_22.all (chk 22) = true := by decide +kernel
theorem mo_22 : mokM Mt 22 := ⟨by decide +kernel, lw_ok_mem (w := 4065) (by decide +kernel), lw_ok_mem (w := 1007) (by decide +kernel), ⟨by decide +kernel, by decide +kernel⟩, by decide +kernel⟩
theorem ck_23 : prg_23.all (chk 23) = true := by decide +kernel
theorem mo_23 : mokM Mt 23 := ⟨by decide +kernel, lw_ok_mem (w := 3142) (by decide +kernel), lw_ok_mem (w := 1007) (by decide +kernel), ⟨by decide +kernel, by decide +kernel⟩, by decide +kernel⟩
theorem ck_24 : prg_24.all (chk 24) = true := by decide +kernel
theorem mo_24 : mokM Mt 24 := ⟨by decide +kernel, lw_ok_mem (w := 3145) (by decide +kernel), lw_ok_mem (w := 1007) (by decide +kernel), ⟨by decide +kernel, by decide +kernel⟩, by decide +kernel⟩
theorem ck_25 : prg_25.all (chk 25) = true := by decide +kernel
theorem mo_25 : mokM Mt 25 := ⟨by decide +kernel, lw_ok_mem (w := 3148) (by decide +kernel), lw_ok_mem (w := 1007) (by decide +kernel), ⟨by decide +kernel, by decide +kernel⟩, by decide +kernel⟩
theorem ck_26 : prg_26.all (chk 26) = true := by decide +kernel
theorem mo_26 : mokM Mt 26 := ⟨by decide +kernel, lw_ok_mem (w := 3138) (by decide +kernel), lw_ok_mem (w := 1007) (by decide +kernel), ⟨by decide +kernel, by decide +kernel⟩, by decide +kernel⟩
theorem ck_27 : prg_27.all (chk 27) = true := by decide +kernel
theorem mo_27 : mokM Mt 27 := ⟨by decide +kernel, lw_ok_mem (w := 3157) (by decide +kernel), lw_ok_mem (w := 1007) (by decide +kernel), ⟨by decide +kernel, by decide +kernel⟩, by decide +kernel⟩
theorem ck_28 : prg_28.all (chk 28) = true := by decide +kernel
theorem mo_28 : mokM Mt 28 := ⟨by decide +kernel, lw_ok_mem (w := 3152) (by decide +kernel), lw_ok_mem (w := 1007) (by decide +kernel), ⟨by decide +kernel, by decide +kernel⟩, by decide +kernel⟩
theorem ck_29 : prg_29.all (chk 29) = true := by decide +kernel
theorem mo_29 : mokM Mt 29 := ⟨by decide +kernel, lw_ok_mem (w := 3231) (by decide +kernel), lw_ok_mem (w := 1007) (by decide +kernel), ⟨by decide +kernel, by decide +kernel⟩, by decide +kernel⟩
theorem ck_30 : prg_30.all (chk 30) = true := by decide +kernel
theorem mo_30 : mokM Mt 30 := ⟨by decide +kernel, lw_ok_mem (w := 3219) (by decide +kernel), lw_ok_mem (w := 1007) (by decide +kernel), ⟨by decide +kernel, by decide +kernel⟩, by decide +kernel⟩
theorem ck_31 : prg_31.all (chk 31) = true := by decide +kernel
theorem mo_31 : mokM Mt 31 := ⟨by decide +kernel, lw_ok_mem (w := 4053) (by decide +kernel), lw_ok_mem (w := 1007) (by decide +kernel), ⟨by decide +kernel, by decide +kernel⟩, by decide +kernel⟩
theorem ck_32 : prg_32.all (chk 32) = true := by decide +kernel
theorem mo_32 : mokM Mt 32 := ⟨by decide +kernel, lw_ok_mem (w := 4061) (by decide +kernel), lw_ok_mem (w := 1007) (by decide +kernel), ⟨by decide +kernel, by decide +kernel⟩, by decide +kernel⟩
theorem ck_33 : prg_33.all (chk 33) = true := by decide +kernel
theorem mo_33 : mokM Mt 33 := ⟨by decide +kernel, lw_ok_mem (w := 3227) (by decide +kernel), lw_ok_mem (w := 1007) (by decide +kernel), ⟨by decide +kernel, by decide +kernel⟩, by decide +kernel⟩
theorem ck_34 : prg_34.all (chk 34) = true := by decide +kernel
theorem mo_34 : mokM Mt 34 := ⟨by decide +kernel, lw_ok_mem (w := 4057) (by decide +kernel), lw_ok_mem (w := 1007) (by decide +kernel), ⟨by decide +kernel, by decide +kernel⟩, by decide +kernel⟩
theorem ck_35 : prg_35.all (chk 35) = true := by decide +kernel
theorem mo_35 : mokM Mt 35 := ⟨by decide +kernel, lw_ok_mem (w := 3211) (by decide +kernel), lw_ok_mem (w := 1007) (by decide +kernel), ⟨by decide +kernel, by decide +kernel⟩, by decide +kernel⟩
theorem ck_36 : prg_36.all (chk 36) = true := by decide +kernel
theorem mo_36 : mokM Mt 36 := ⟨by decide +kernel, lw_ok_mem (w := 3215) (by decide +kernel), lw_ok_mem (w := 1007) (by decide +kernel), ⟨by decide +kernel, by decide +kernel⟩, by decide +kernel⟩
theorem ck_37 : prg_37.all (chk 37) = true := by decide +kernel
theorem mo_37 : mokM Mt 37 := ⟨by decide +kernel, lw_ok_mem (w := 3223) (by decide +kernel), lw_ok_mem (w := 1007) (by decide +kernel), ⟨by decide +kernel, by decide +kernel⟩, by decide +kernel⟩
theorem ck_38 : prg_38.all (chk 38) = true := by decide +kernel
theorem mo_38 : mokM Mt 38 := ⟨by decide +kernel, lw_ok_mem (w := 1133) (by decide +kernel), lw_ok_mem (w := 1006) (by decide +kernel), ⟨by decide +kernel, by decide +kernel⟩, by decide +kernel⟩
theorem ck_39 : prg_39.all (chk 39) = true := by decide +kernel
theorem mo_39 : mokM Mt 39 := ⟨by decide +kernel, lw_ok_mem (w := 2103) (by decide +kernel), lw_ok_mem (w := 1006) (by decide +kernel), ⟨by decide +kernel, by decide +kernel⟩, by decide +kernel⟩
theorem ck_40 : prg_40.all (chk 40) = true := by decide +kernel
theorem mo_40 : mokM Mt 40 := ⟨by decide +kernel, lw_ok_mem (w := 2106) (by decide +kernel), lw_ok_mem (w := 1006) (by decide +kernel), ⟨by decide +kernel, by decide +kernel⟩, by decide +kernel⟩
theorem ck_41 : prg_41.all (chk 41) = true := by decide +kernel
theorem mo_41 : mokM Mt 41 := ⟨by decide +kernel, lw_ok_mem (w := 2084) (by decide +kernel), lw_ok_mem (w := 1006) (by decide +kernel), ⟨by decide +kernel, by decide +kernel⟩, by decide +kernel⟩
theorem ck_42 : prg_42.all (chk 42) = true := by decide +kernel
theorem mo_42 : mokM Mt 42 := ⟨by decide +kernel, lw_ok_mem (w := 2080) (by decide +kernel), lw_ok_mem (w := 1006) (by decide +kernel), ⟨by decide +kernel, by decide +kernel⟩, by decide +kernel⟩
theorem ck_43 : prg_43.all (chk 43) = true := by decide +kernel
theorem mo_43 : mokM Mt 43 := ⟨by decide +kernel, lw_ok_mem (w := 2113) (by decide +kernel), lw_ok_mem (w := 1006) (by decide +kernel), ⟨by decide +kernel, by decide +kernel⟩, by decide +kernel⟩
theorem ck_44 : prg_44.all (chk 44) = true := by decide +kernel
theorem mo_44 : mokM Mt 44 := ⟨by decide +kernel, lw_ok_mem (w := 2119) (by decide +kernel), lw_ok_mem (w := 1006) (by decide +kernel), ⟨by decide +kernel, by decide +kernel⟩, by decide +kernel⟩
theorem ck_45 : prg_45.all (chk 45) = true := by decide +kernel
theorem mo_45 : mokM Mt 45 := ⟨by decide +kernel, lw_ok_mem (w := 2147) (by decide +kernel), lw_ok_mem (w := 1006) (by decide +kernel), ⟨by decide +kernel, by decide +kernel⟩, by decide +kernel⟩
theorem ck_46 : prg_46.all (chk 46) = true := by decide +kernel
theorem mo_46 : mokM Mt 46 := ⟨by decide +kernel, lw_ok_mem (w := 2143) (by decide +kernel), lw_ok_mem (w := 1006) (by decide +kernel), ⟨by decide +kernel, by decide +kernel⟩, by decide +kernel⟩
