theorem pg_230 (pc : Nat) : fe0 230 pc = lk prg_230 pc := rfl
theorem f_230_0 : fe0 230 0 = some (.iload_n 0, 1, 0, 0, 0, 0, 0) := (pg_230 0).trans rfl
theorem f_230_1 : fe0 230 1 = some (.iload_n 0, 1, 0, 0, 0, 0, 0) := (pg_230 1).trans rfl
theorem f_230_2 : fe0 230 2 = some (.iconst 1, 1, 0, 0, 0, 0, 0) := (pg_230 2).trans rfl
theorem f_230_3 : fe0 230 3 = some (.iushr, 1, 0, 0, 0, 0, 0) := (pg_230 3).trans rfl
theorem f_230_4 : fe0 230 4 = some (.ldc_w 265, 3, 0, 0, 1431655765, 0, 2123) := (pg_230 4).trans rfl
theorem f_230_7 : fe0 230 7 = some (.iand, 1, 0, 0, 0, 0, 0) := (pg_230 7).trans rfl
theorem f_230_8 : fe0 230 8 = some (.isub, 1, 0, 0, 0, 0, 0) := (pg_230 8).trans rfl
theorem f_230_9 : fe0 230 9 = some (.istore_n 0, 1, 0, 0, 0, 0, 0) := (pg_230 9).trans rfl
theorem f_230_10 : fe0 230 10 = some (.iload_n 0, 1, 0, 0, 0, 0, 0) := (pg_230 10).trans rfl
theorem f_230_11 : fe0 230 11 = some (.ldc_w 266, 3, 0, 0, 858993459, 0, 2124) := (pg_230 11).trans rfl
theorem f_230_14 : fe0 230 14 = some (.iand, 1, 0, 0, 0, 0, 0) := (pg_230 14).trans rfl
theorem f_230_15 : fe0 230 15 = some (.iload_n 0, 1, 0, 0, 0, 0, 0) := (pg_230 15).trans rfl
theorem f_230_16 : fe0 230 16 = some (.iconst 2, 1, 0, 0, 0, 0, 0) := (pg_230 16).trans rfl
theorem f_230_17 : fe0 230 17 = some (.iushr, 1, 0, 0, 0, 0, 0) := (pg_230 17).trans rfl
theorem f_230_18 : fe0 230 18 = some (.ldc_w 266, 3, 0, 0, 858993459, 0, 2124) := (pg_230 18).trans rfl
theorem f_230_21 : fe0 230 21 = some (.iand, 1, 0, 0, 0, 0, 0) := (pg_230 21).trans rfl
theorem f_230_22 : fe0 230 22 = some (.iadd, 1, 0, 0, 0, 0, 0) := (pg_230 22).trans rfl
theorem f_230_23 : fe0 230 23 = some (.istore_n 0, 1, 0, 0, 0, 0, 0) := (pg_230 23).trans rfl
theorem f_230_24 : fe0 230 24 = some (.iload_n 0, 1, 0, 0, 0, 0, 0) := (pg_230 24).trans rfl
theorem f_230_25 : fe0 230 25 = some (.iload_n 0, 1, 0, 0, 0, 0, 0) := (pg_230 25).trans rfl
theorem f_230_26 : fe0 230 26 = some (.iconst 4, 1, 0, 0, 0, 0, 0) := (pg_230 26).trans rfl
theorem f_230_27 : fe0 230 27 = some (.iushr, 1, 0, 0, 0, 0, 0) := (pg_230 27).trans rfl
theorem f_230_28 : fe0 230 28 = some (.iadd, 1, 0, 0, 0, 0, 0) := (pg_230 28).trans rfl
theorem f_230_29 : fe0 230 29 = some (.ldc_w 267, 3, 0, 0, 252645135, 0, 2125) := (pg_230 29).trans rfl
theorem f_230_32 : fe0 230 32 = some (.iand, 1, 0, 0, 0, 0, 0) := (pg_230 32).trans rfl
theorem f_230_33 : fe0 230 33 = some (.istore_n 0, 1, 0, 0, 0, 0, 0) := (pg_230 33).trans rfl
theorem f_230_34 : fe0 230 34 = some (.iload_n 0, 1, 0, 0, 0, 0, 0) := (pg_230 34).trans rfl
theorem f_230_35 : fe0 230 35 = some (.iload_n 0, 1, 0, 0, 0, 0, 0) := (pg_230 35).trans rfl
theorem f_230_36 : fe0 230 36 = some (.bipush 8, 2, 0, 0, 0, 0, 0) := (pg_230 36).trans rfl
theorem f_230_38 : fe0 230 38 = some (.iushr, 1, 0, 0, 0, 0, 0) := (pg_230 38).trans rfl
theorem f_230_39 : fe0 230 39 = some (.iadd, 1, 0, 0, 0, 0, 0) := (pg_230 39).trans rfl
theorem f_230_40 : fe0 230 40 = some (.istore_n 0, 1, 0, 0, 0, 0, 0) := (pg_230 40).trans rfl
theorem f_230_41 : fe0 230 41 = some (.iload_n 0, 1, 0, 0, 0, 0, 0) := (pg_230 41).trans rfl
theorem f_230_42 : fe0 230 42 = some (.iload_n 0, 1, 0, 0, 0, 0, 0) := (pg_230 42).trans rfl
theorem f_230_43 : fe0 230 43 = some (.bipush 16, 2, 0, 0, 0, 0, 0) := (pg_230 43).trans rfl
theorem f_230_45 : fe0 230 45 = some (.iushr, 1, 0, 0, 0, 0, 0) := (pg_230 45).trans rfl
theorem f_230_46 : fe0 230 46 = some (.iadd, 1, 0, 0, 0, 0, 0) := (pg_230 46).trans rfl
theorem f_230_47 : fe0 230 47 = some (.istore_n 0, 1, 0, 0, 0, 0, 0) := (pg_230 47).trans rfl
theorem f_230_48 : fe0 230 48 = some (.iload_n 0, 1, 0, 0, 0, 0, 0) := (pg_230 48).trans rfl
theorem f_230_49 : fe0 230 49 = some (.bipush 63, 2, 0, 0, 0, 0, 0) := (pg_230 49).trans rfl
theorem f_230_51 : fe0 230 51 = some (.iand, 1, 0, 0, 0, 0, 0) := (pg_230 51).trans rfl
theorem f_230_52 : fe0 230 52 = some (.ireturn, 1, 0, 0, 0, 0, 0) := (pg_230 52).trans rfl
theorem q_230_0 (d : Nat) (x0 : Int32) (μ : aMem) : Rn d 230 (0, [.int x0], [], μ) = some (some (.int ((((((((x0 - ((((x0 : Int32).toUInt32 >>> ((1 : Int32).toUInt32 &&& Int32.toUInt32 31)).toInt32) &&& 1431655765)) &&& 858993459) + ((((x0 - ((((x0 : Int32).toUInt32 >>> ((1 : Int32).toUInt32 &&& Int32.toUInt32 31)).toInt32) &&& 1431655765) : Int32).toUInt32 >>> ((2 : Int32).toUInt32 &&& Int32.toUInt32 31)).toInt32) &&& 858993459)) + (((((x0 - ((((x0 : Int32).toUInt32 >>> ((1 : Int32).toUInt32 &&& Int32.toUInt32 31)).toInt32) &&& 1431655765)) &&& 858993459) + ((((x0 - ((((x0 : Int32).toUInt32 >>> ((1 : Int32).toUInt32 &&& Int32.toUInt32 31)).toInt32) &&& 1431655765) : Int32).toUInt32 >>> ((2 : Int32).toUInt32 &&& Int32.toUInt32 31)).toInt32) &&& 858993459) : Int32).toUInt32 >>> ((4 : Int32).toUInt32 &&& Int32.toUInt32 31)).toInt32)) &&& 252645135) + (((((((x0 - ((((x0 : Int32).toUInt32 >>> ((1 : Int32).toUInt32 &&& Int32.toUInt32 31)).toInt32) &&& 1431655765)) &&& 858993459) + ((((x0 - ((((x0 : Int32).toUInt32 >>> ((1 : Int32).toUInt32 &&& Int32.toUInt32 31)).toInt32) &&& 1431655765) : Int32).toUInt32 >>> ((2 : Int32).toUInt32 &&& Int32.toUInt32 31)).toInt32) &&& 858993459)) + (((((x0 - ((((x0 : Int32).toUInt32 >>> ((1 : Int32).toUInt32 &&& Int32.toUInt32 31)).toInt32) &&& 1431655765)) &&& 858993459) + ((((x0 - ((((x0 : Int32).toUInt32 >>> ((1 : Int32).toUInt32 &&& Int32.toUInt32 31)).toInt32) &&& 1431655765) : Int32).toUInt32 >>> ((2 : Int32).toUInt32 &&& Int32.toUInt32 31)).toInt32) &&& 858993459) : Int32).toUInt32 >>> ((4 : Int32).toUInt32 &&& Int32.toUInt32 31)).toInt32)) &&& 252645135 : Int32).toUInt32 >>> ((8 : Int32).toUInt32 &&& Int32.toUInt32 31)).toInt32)) + ((((((((x0 - ((((x0 : Int32).toUInt32 >>> ((1 : Int32).toUInt32 &&& Int32.toUInt32 31)).toInt32) &&& 1431655765)) &&& 858993459) + ((((x0 - ((((x0 : Int32).toUInt32 >>> ((1 : Int32).toUInt32 &&& Int32.toUInt32 31)).toInt32) &&& 1431655765) : Int32).toUInt32 >>> ((2 : Int32).toUInt32 &&& Int32.toUInt32 31)).toInt32) &&& 858993459)) + (((((x0 - ((((x0 : Int32).toUInt32 >>> ((1 : Int32).toUInt32 &&& Int32.toUInt32 31)).toInt32) &&& 1431655765)) &&& 858993459) + ((((x0 - ((((x0 : Int32).toUInt32 >>> ((1 : Int32).toUInt32 &&& Int32.toUInt32 31)).toInt32) &&& 1431655765) : Int32).toUInt32 >>> ((2 : Int32).toUInt32 &&& Int32.toUInt32 31)).toInt32) &&& 858993459) : Int32).toUInt32 >>> ((4 : Int32).toUInt32 &&& Int32.toUInt32 31)).toInt32)) &&& 252645135) + (((((((x0 - ((((x0 : Int32).toUInt32 >>> ((1 : Int32).toUInt32 &&& Int32.toUInt32 31)).toInt32) &&& 1431655765)) &&& 858993459) + ((((x0 - ((((x0 : Int32).toUInt32 >>> ((1 : Int32).toUInt32 &&& Int32.toUInt32 31)).toInt32) &&& 1431655765) : Int32).toUInt32 >>> ((2 : Int32).toUInt32 &&& Int32.toUInt32 31)).toInt32) &&& 858993459)) + (((((x0 - ((((x0 : Int32).toUInt32 >>> ((1 : Int32).toUInt32 &&& Int32.toUInt32 31)).toInt32) &&& 1431655765)) &&& 858993459) + ((((x0 - ((((x0 : Int32).toUInt32 >>> ((1 : Int32).toUInt32 &&& Int32.toUInt32 31)).toInt32) &&& 1431655765) : Int32).toUInt32 >>> ((2 : Int32).toUInt32 &&& Int32.toUInt32 31)).toInt32) &&& 858993459) : Int32).toUInt32 >>> ((4 : Int32).toUInt32 &&& Int32.toUInt32 31)).toInt32)) &&& 252645135 : Int32).toUInt32 >>> ((8 : Int32).toUInt32 &&& Int32.toUInt32 31)).toInt32) : Int32).toUInt32 >>> ((16 : Int32).toUInt32 &&& Int32.toUInt32 31)).toInt32)) &&& 63)), μ) :=
  (e_nx f_230_0 rfl).trans ((e_nx f_230_1 rfl).trans ((e_nx (q := (_, _, .int 1 :: _, _)) f_230_2 rfl).trans ((e_nx f_230_3 rfl).trans ((e_nx (q := (_, _, .int 1431655765 :: _, _)) f_230_4 rfl).trans ((e_nx f_230_7 rfl).trans ((e_nx f_230_8 rfl).trans ((e_nx (q := (_, [.int (x0 - ((((x0 : Int32).toUInt32 >>> ((1 : Int32).toUInt32 &&& Int32.toUInt32 31)).toInt32) &&& 1431655765))], _, _)) f_230_9 rfl).trans ((e_nx f_230_10 rfl).trans ((e_nx (q := (_, _, .int 858993459 :: _, _)) f_230_11 rfl).trans ((e_nx f_230_14 rfl).trans ((e_nx f_230_15 rfl).trans ((e_nx (q := (_, _, .int 2 :: _, _)) f_230_16 rfl).trans ((e_nx f_230_17 rfl).trans ((e_nx (q := (_, _, .int 858993459 :: _, _)) f_230_18 rfl).trans ((e_nx f_230_21 rfl).trans ((e_nx f_230_22 rfl).trans ((e_nx (q := (_, [.int (((x0 - ((((x0 : Int32).toUInt32 >>> ((1 : Int32).toUInt32 &&& Int32.toUInt32 31)).toInt32) &&& 1431655765)) &&& 858993459) + ((((x0 - ((((x0 : Int32).toUInt32 >>> ((1 : Int32).toUInt32 &&& Int32.toUInt32 31)).toInt32) &&& 1431655765) : Int32).toUInt32 >>> ((2 : Int32).toUInt32 &&& Int32.toUInt32 31)).toInt32) &&& 858993459))], _, _)) f_230_23 rfl).trans ((e_nx f_230_24 rfl).trans ((e_nx f_230_25 rfl).trans ((e_nx (q := (_, _, .int 4 :: _, _)) f_230_26 rfl).trans ((e_nx f_230_27 rfl).trans ((e_nx f_230_28 rfl).trans ((e_nx (q := (_, _, .int 252645135 :: _, _)) f_230_29 rfl).trans ((e_nx f_230_32 rfl).trans ((e_nx (q := (_, [.int (((((x0 - ((((x0 : Int32).toUInt32 >>> ((1 : Int32).toUInt32 &&& Int32.toUInt32 31)).toInt32) &&& 1431655765)) &&& 858993459) + ((((x0 - ((((x0 : Int32).toUInt32 >>> ((1 : Int32).toUInt32 &&& Int32.toUInt32 31)).toInt32) &&& 1431655765) : Int32).toUInt32 >>> ((2 : Int32).toUInt32 &&& Int32.toUInt32 31)).toInt32) &&& 858993459)) + (((((x0 - ((((x0 : Int32).toUInt32 >>> ((1 : Int32).toUInt32 &&& Int32.toUInt32 31)).toInt32) &&& 1431655765)) &&& 858993459) + ((((x0 - ((((x0 : Int32).toUInt32 >>> ((1 : Int32).toUInt32 &&& Int32.toUInt32 31)).toInt32) &&& 1431655765) : Int32).toUInt32 >>> ((2 : Int32).toUInt32 &&& Int32.toUInt32 31)).toInt32) &&& 858993459) : Int32).toUInt32 >>> ((4 : Int32).toUInt32 &&& Int32.toUInt32 31)).toInt32)) &&& 252645135)], _, _)) f_230_33 rfl).trans ((e_nx f_230_34 rfl).trans ((e_nx f_230_35 rfl).trans ((e_nx (q := (_, _, .int 8 :: _, _)) f_230_36 rfl).trans ((e_nx f_230_38 rfl).trans ((e_nx f_230_39 rfl).trans ((e_nx (q := (_, [.int ((((((x0 - ((((x0 : Int32).toUInt32 >>> ((1 : Int32).toUInt32 &&& Int32.toUInt32 31)).toInt32) &&& 1431655765)) &&& 858993459) + ((((x0 - ((((x0 : Int32).toUInt32 >>> ((1 : Int32).toUInt32 &&& Int32.toUInt32 31)).toInt32) &&& 1431655765) : Int32).toUInt32 >>> ((2 : Int32).toUInt32 &&& Int32.toUInt32 31)).toInt32) &&& 858993459)) + (((((x0 - ((((x0 : Int32).toUInt32 >>> ((1 : Int32).toUInt32 &&& Int32.toUInt32 31)).toInt32) &&& 1431655765)) &&& 858993459) + ((((x0 - ((((x0 : Int32).toUInt32 >>> ((1 : Int32).toUInt32 &&& Int32.toUInt32 31)).toInt32) &&& 1431655765) : Int32).toUInt32 >>> ((2 : Int32).toUInt32 &&& Int32.toUInt32 31)).toInt32) &&& 858993459) : Int32).toUInt32 >>> ((4 : Int32).toUInt32 &&& Int32.toUInt32 31)).toInt32)) &&& 252645135) + (((((((x0 - ((((x0 : Int32).toUInt32 >>> ((1 : Int32).toUInt32 &&& Int32.toUInt32 31)).toInt32) &&& 1431655765)) &&& 858993459) + ((((x0 - ((((x0 : Int32).toUInt32 >>> ((1 : Int32).toUInt32 &&& Int32.toUInt32 31)).toInt32) &&& 1431655765) : Int32).toUInt32 >>> ((2 : Int32).toUInt32 &&& Int32.toUInt32 31)).toInt32) &&& 858993459)) + (((((x0 - ((((x0 : Int32).toUInt32 >>> ((1 : Int32).toUInt32 &&& Int32.toUInt32 31)).toInt32) &&& 1431655765)) &&& 858993459) + ((((x0 - ((((x0 : Int32).toUInt32 >>> ((1 : Int32).toUInt32 &&& Int32.toUInt32 31)).toInt32) &&& 1431655765) : Int32).toUInt32 >>> ((2 : Int32).toUInt32 &&& Int32.toUInt32 31)).toInt32) &&& 858993459) : Int32).toUInt32 >>> ((4 : Int32).toUInt32 &&& Int32.toUInt32 31)).toInt32)) &&& 252645135 : Int32).toUInt32 >>> ((8 : Int32).toUInt32 &&& Int32.toUInt32 31)).toInt32))], _, _)) f_230_40 rfl).trans ((e_nx f_230_41 rfl).trans ((e_nx f_230_42 rfl).trans ((e_nx (q := (_, _, .int 16 :: _, _)) f_230_43 rfl).trans ((e_nx f_230_45 rfl).trans ((e_nx f_230_46 rfl).trans ((e_nx (q := (_, [.int (((((((x0 - ((((x0 : Int32).toUInt32 >>> ((1 : Int32).toUInt32 &&& Int32.toUInt32 31)).toInt32) &&& 1431655765)) &&& 858993459) + ((((x0 - ((((x0 : Int32).toUInt32 >>> ((1 : Int32).toUInt32 &&& Int32.toUInt32 31)).toInt32) &&& 1431655765) : Int32).toUInt32 >>> ((2 : Int32).toUInt32 &&& Int32.toUInt32 31)).toInt32) &&& 858993459)) + (((((x0 - ((((x0 : Int32).toUInt32 >>> ((1 : Int32).toUInt32 &&& Int32.toUInt32 31)).toInt32) &&& 1431655765)) &&& 858993459) + ((((x0 - ((((x0 : Int32).toUInt32 >>> ((1 : Int32).toUInt32 &&& Int32.toUInt32 31)).toInt32) &&& 1431655765) : Int32).toUInt32 >>> ((2 : Int32).toUInt32 &&& Int32.toUInt32 31)).toInt32) &&& 858993459) : Int32).toUInt32 >>> ((4 : Int32).toUInt32 &&& Int32.toUInt32 31)).toInt32)) &&& 252645135) + (((((((x0 - ((((x0 : Int32).toUInt32 >>> ((1 : Int32).toUInt32 &&& Int32.toUInt32 31)).toInt32) &&& 1431655765)) &&& 858993459) + ((((x0 - ((((x0 : Int32).toUInt32 >>> ((1 : Int32).toUInt32 &&& Int32.toUInt32 31)).toInt32) &&& 1431655765) : Int32).toUInt32 >>> ((2 : Int32).toUInt32 &&& Int32.toUInt32 31)).toInt32) &&& 858993459)) + (((((x0 - ((((x0 : Int32).toUInt32 >>> ((1 : Int32).toUInt32 &&& Int32.toUInt32 31)).toInt32) &&& 1431655765)) &&& 858993459) + ((((x0 - ((((x0 : Int32).toUInt32 >>> ((1 : Int32).toUInt32 &&& Int32.toUInt32 31)).toInt32) &&& 1431655765) : Int32).toUInt32 >>> ((2 : Int32).toUInt32 &&& Int32.toUInt32 31)).toInt32) &&& 858993459) : Int32).toUInt32 >>> ((4 : Int32).toUInt32 &&& Int32.toUInt32 31)).toInt32)) &&& 252645135 : Int32).toUInt32 >>> ((8 : Int32).toUInt32 &&& Int32.toUInt32 31)).toInt32)) + ((((((((x0 - ((((x0 : Int32).toUInt32 >>> ((1 : Int32).toUInt32 &&& Int32.toUInt32 31)).toInt32) &&& 1431655765)) &&& 858993459) + ((((x0 - ((((x0 : Int32).toUInt32 >>> ((1 : Int32).toUInt32 &&& Int32.toUInt32 31)).toInt32) &&& 1431655765) : Int32).toUInt32 >>> ((2 : Int32).toUInt32 &&& Int32.toUInt32 31)).toInt32) &&& 858993459)) + (((((x0 - ((((x0 : Int32).toUInt32 >>> ((1 : Int32).toUInt32 &&& Int32.toUInt32 31)).toInt32) &&& 1431655765)) &&& 858993459) + ((((x0 - ((((x0 : Int32).toUInt32 >>> ((1 : Int32).toUInt32 &&& Int32.toUInt32 31)).toInt32) &&& 1431655765) : Int32).toUInt32 >>> ((2 : Int32).toUInt32 &&& Int32.toUInt32 31)).toInt32) &&& 858993459) : Int32).toUInt32 >>> ((4 : Int32).toUInt32 &&& Int32.toUInt32 31)).toInt32)) &&& 252645135) + (((((((x0 - ((((x0 : Int32).toUInt32 >>> ((1 : Int32).toUInt32 &&& Int32.toUInt32 31)).toInt32) &&& 1431655765)) &&& 858993459) + ((((x0 - ((((x0 : Int32).toUInt32 >>> ((1 : Int32).toUInt32 &&& Int32.toUInt32 31)).toInt32) &&& 1431655765) : Int32).toUInt32 >>> ((2 : Int32).toUInt32 &&& Int32.toUInt32 31)).toInt32) &&& 858993459)) + (((((x0 - ((((x0 : Int32).toUInt32 >>> ((1 : Int32).toUInt32 &&& Int32.toUInt32 31)).toInt32) &&& 1431655765)) &&& 858993459) + ((((x0 - ((((x0 : Int32).toUInt32 >>> ((1 : Int32).toUInt32 &&& Int32.toUInt32 31)).toInt32) &&& 1431655765) : Int32).toUInt32 >>> ((2 : Int32).toUInt32 &&& Int32.toUInt32 31)).toInt32) &&& 858993459) : Int32).toUInt32 >>> ((4 : Int32).toUInt32 &&& Int32.toUInt32 31)).toInt32)) &&& 252645135 : Int32).toUInt32 >>> ((8 : Int32).toUInt32 &&& Int32.toUInt32 31)).toInt32) : Int32).toUInt32 >>> ((16 : Int32).toUInt32 &&& Int32.toUInt32 31)).toInt32))], _, _)) f_230_47 rfl).trans ((e_nx f_230_48 rfl).trans ((e_nx (q := (_, _, .int 63 :: _, _)) f_230_49 rfl).trans ((e_nx f_230_51 rfl).trans (e_rt f_230_52 rfl)))))))))))))))))))))))))))))))))))))))))
theorem pg_231 (pc : Nat) : fe0 231 pc = lk prg_231 pc := rfl
theorem f_231_0 : fe0 231 0 = some (.iconst 0, 1, 0, 0, 0, 0, 0) := (pg_231 0).trans rfl
theorem f_231_1 : fe0 231 1 = some (.istore_n 2, 1, 0, 0, 0, 0, 0) := (pg_231 1).trans rfl
theorem f_231_2 : fe0 231 2 = some (.aload_n 0, 1, 0, 0, 0, 0, 0) := (pg_231 2).trans rfl
theorem f_231_3 : fe0 231 3 = some (.arraylength, 1, 0, 0, 0, 0, 0) := (pg_231 3).trans rfl
theorem f_231_4 : fe0 231 4 = some (.istore_n 3, 1, 0, 0, 0, 0, 0) := (pg_231 4).trans rfl
theorem f_231_5 : fe0 231 5 = some (.iload_n 2, 1, 0, 0, 0, 0, 0) := (pg_231 5).trans rfl
theorem f_231_6 : fe0 231 6 = some (.iload_n 3, 1, 0, 0, 0, 0, 0) := (pg_231 6).trans rfl
theorem f_231_7 : fe0 231 7 = some (.if_icmp .ge 13, 3, 0, 0, 0, 0, 0) := (pg_231 7).trans rfl
theorem f_231_10 : fe0 231 10 = some (.aload_n 0, 1, 0, 0, 0, 0, 0) := (pg_231 10).trans rfl
theorem f_231_11 : fe0 231 11 = some (.iload_n 2, 1, 0, 0, 0, 0, 0) := (pg_231 11).trans rfl
theorem f_231_12 : fe0 231 12 = some (.iload_n 1, 1, 0, 0, 0, 0, 0) := (pg_231 12).trans rfl
theorem f_231_13 : fe0 231 13 = some (.iastore, 1, 0, 0, 0, 0, 0) := (pg_231 13).trans rfl
theorem f_231_14 : fe0 231 14 = some (.iinc 2 1, 3, 0, 0, 0, 0, 0) := (pg_231 14).trans rfl
theorem f_231_17 : fe0 231 17 = some (.goto (-12), 3, 0, 0, 0, 0, 0) := (pg_231 17).trans rfl
theorem f_231_20 : fe0 231 20 = some (.return_, 1, 0, 0, 0, 0, 0) := (pg_231 20).trans rfl
theorem q_231_0 (d : Nat) (l0 : Nat) (x1 : Int32) (μ : aMem) : Rn d 231 (0, [.ref l0, .int x1, un, un], [], μ) = (rdL μ l0).bind fun v1 => Rn d 231 (5, [.ref l0, .int x1, .int 0, .int v1], [], μ) :=
  (e_nx (q := (_, _, .int 0 :: _, _)) f_231_0 rfl).trans ((e_nx (q := (_, [.ref l0, .int x1, .int 0, un], _, _)) f_231_1 rfl).trans ((e_nx f_231_2 rfl).trans ((e_al (L := [.ref l0, .int x1, .int 0, un]) (r := []) (μ := μ) f_231_3).trans (m_congr fun v1 => e_nx (q := (_, [.ref l0, .int x1, .int 0, .int v1], _, _)) f_231_4 rfl))))
theorem q_231_5 (d : Nat) (l0 : Nat) (x1 : Int32) (x2 : Int32) (x3 : Int32) (μ : aMem) : Rn d 231 (5, [.ref l0, .int x1, .int x2, .int x3], [], μ) = if x3 ≤ x2 then (some (none, μ)) else (if (mS μ l0).1 = 10 ∧ inb x2 (mS μ l0).2 then (Rn d 231 (5, [.ref l0, .int x1, .int (x2 + 1), .int x3], [], setF μ l0 (ix x2) x1)) else none) :=
  (e_nx f_231_5 rfl).trans ((e_nx f_231_6 rfl).trans ((e_ge f_231_7 rfl).trans (b_congr (fun h1 => e_rt f_231_20 rfl) (fun h1 => (e_nx f_231_10 rfl).trans ((e_nx f_231_11 rfl).trans ((e_nx f_231_12 rfl).trans ((e_gd f_231_13 rfl).trans (g_congr (Iff.rfl) (fun h2 => (e_nx (q := (_, [.ref l0, .int x1, .int (x2 + 1), .int x3], _, _)) f_231_14 rfl).trans (e_nx f_231_17 rfl))))))))))
theorem pg_232 (pc : Nat) : fe0 232 pc = lk prg_232 pc := rfl
theorem f_232_0 : fe0 232 0 = some (.iconst 0, 1, 0, 0, 0, 0, 0) := (pg_232 0).trans rfl
theorem f_232_1 : fe0 232 1 = some (.istore_n 3, 1, 0, 0, 0, 0, 0) := (pg_232 1).trans rfl
theorem f_232_2 : fe0 232 2 = some (.aload_n 0, 1, 0, 0, 0, 0, 0) := (pg_232 2).trans rfl
theorem f_232_3 : fe0 232 3 = some (.arraylength, 1, 0, 0, 0, 0, 0) := (pg_232 3).trans rfl
theorem f_232_4 : fe0 232 4 = some (.istore 4, 2, 0, 0, 0, 0, 0) := (pg_232 4).trans rfl
theorem f_232_6 : fe0 232 6 = some (.iload_n 3, 1, 0, 0, 0, 0, 0) := (pg_232 6).trans rfl
theorem f_232_7 : fe0 232 7 = some (.iload 4, 2, 0, 0, 0, 0, 0) := (pg_232 7).trans rfl
theorem f_232_9 : fe0 232 9 = some (.if_icmp .ge 13, 3, 0, 0, 0, 0, 0) := (pg_232 9).trans rfl
theorem f_232_12 : fe0 232 12 = some (.aload_n 0, 1, 0, 0, 0, 0, 0) := (pg_232 12).trans rfl
theorem f_232_13 : fe0 232 13 = some (.iload_n 3, 1, 0, 0, 0, 0, 0) := (pg_232 13).trans rfl
theorem f_232_14 : fe0 232 14 = some (.lload_n 1, 1, 0, 0, 0, 0, 0) := (pg_232 14).trans rfl
theorem f_232_15 : fe0 232 15 = some (.lastore, 1, 0, 0, 0, 0, 0) := (pg_232 15).trans rfl
theorem f_232_16 : fe0 232 16 = some (.iinc 3 1, 3, 0, 0, 0, 0, 0) := (pg_232 16).trans rfl
theorem f_232_19 : fe0 232 19 = some (.goto (-13), 3, 0, 0, 0, 0, 0) := (pg_232 19).trans rfl
theorem f_232_22 : fe0 232 22 = some (.return_, 1, 0, 0, 0, 0, 0) := (pg_232 22).trans rfl
theorem q_232_0 (d : Nat) (l0 : Nat) (j1 : Int64) (μ : aMem) : Rn d 232 (0, [.ref l0, .long j1, un, un, un], [], μ) = (rdL μ l0).bind fun v1 => Rn d 232 (6, [.ref l0, .long j1, un, .int 0, .int v1], [], μ) :=
  (e_nx (q := (_, _, .int 0 :: _, _)) f_232_0 rfl).trans ((e_nx (q := (_, [.ref l0, .long j1, un, .int 0, un], _, _)) f_232_1 rfl).trans ((e_nx f_232_2 rfl).trans ((e_al (L := [.ref l0, .long j1, un, .int 0, un]) (r := []) (μ := μ) f_232_3).trans (m_congr fun v1 => e_nx (q := (_, [.ref l0, .long j1, un, .int 0, .int v1], _, _)) f_232_4 rfl))))
theorem q_232_6 (d : Nat) (l0 : Nat) (j1 : Int64) (x3 : Int32) (x4 : Int32) (μ : aMem) : Rn d 232 (6, [.ref l0, .long j1, un, .int x3, .int x4], [], μ) = if x4 ≤ x3 then (some (none, μ)) else (if (mS μ l0).1 = 11 ∧ inb x3 (mS μ l0).2 then (Rn d 232 (6, [.ref l0, .long j1, un, .int (x3 + 1), .int x4], [], setJ μ l0 (ix x3) j1)) else none) :=
  (e_nx f_232_6 rfl).trans ((e_nx f_232_7 rfl).trans ((e_ge f_232_9 rfl).trans (b_congr (fun h1 => e_rt f_232_22 rfl) (fun h1 => (e_nx f_232_12 rfl).trans ((e_nx f_232_13 rfl).trans ((e_nx f_232_14 rfl).trans ((e_gd f_232_15 rfl).trans (g_congr (Iff.rfl) (fun h2 => (e_nx (q := (_, [.ref l0, .long j1, un, .int (x3 + 1), .int x4], _, _)) f_232_16 rfl).trans (e_nx f_232_19 rfl))))))))))
theorem pg_233 (pc : Nat) : fe0 233 pc = lk prg_233 pc := rfl
theorem f_233_0 : fe0 233 0 = some (.iload_n 1, 1, 0, 0, 0, 0, 0) := (pg_233 0).trans rfl
theorem f_233_1 : fe0 233 1 = some (.aload_n 0, 1, 0, 0, 0, 0, 0) := (pg_233 1).trans rfl
theorem f_233_2 : fe0 233 2 = some (.arraylength, 1, 0, 0, 0, 0, 0) := (pg_233 2).trans rfl
theorem f_233_3 : fe0 233 3 = some (.if_icmp .ne 11, 3, 0, 0, 0, 0, 0) := (pg_233 3).trans rfl
theorem f_233_6 : fe0 233 6 = some (.aload_n 0, 1, 0, 0, 0, 0, 0) := (pg_233 6).trans rfl
theorem f_233_14 : fe0 233 14 = some (.iload_n 1, 1, 0, 0, 0, 0, 0) := (pg_233 14).trans rfl
theorem f_233_15 : fe0 233 15 = some (.newarray .int, 2, 10, 0, 0, 0, 0) := (pg_233 15).trans rfl
theorem f_233_17 : fe0 233 17 = some (.astore_n 2, 1, 0, 0, 0, 0, 0) := (pg_233 17).trans rfl
theorem f_233_18 : fe0 233 18 = some (.aload_n 0, 1, 0, 0, 0, 0, 0) := (pg_233 18).trans rfl
theorem f_233_19 : fe0 233 19 = some (.iconst 0, 1, 0, 0, 0, 0, 0) := (pg_233 19).trans rfl
theorem f_233_20 : fe0 233 20 = some (.aload_n 2, 1, 0, 0, 0, 0, 0) := (pg_233 20).trans rfl
theorem f_233_21 : fe0 233 21 = some (.iconst 0, 1, 0, 0, 0, 0, 0) := (pg_233 21).trans rfl
theorem f_233_22 : fe0 233 22 = some (.aload_n 0, 1, 0, 0, 0, 0, 0) := (pg_233 22).trans rfl
theorem f_233_23 : fe0 233 23 = some (.arraylength, 1, 0, 0, 0, 0, 0) := (pg_233 23).trans rfl
theorem f_233_24 : fe0 233 24 = some (.iload_n 1, 1, 0, 0, 0, 0, 0) := (pg_233 24).trans rfl
theorem f_233_25 : fe0 233 25 = some (.invokestatic 304, 3, 0, 0, 8, 0, 4078) := (pg_233 25).trans rfl
theorem f_233_28 : fe0 233 28 = some (.invokestatic 150, 3, 0, 0, 9, 0, 4079) := (pg_233 28).trans rfl
theorem f_233_31 : fe0 233 31 = some (.aload_n 2, 1, 0, 0, 0, 0, 0) := (pg_233 31).trans rfl
theorem f_233_32 : fe0 233 32 = some (.areturn, 1, 0, 0, 0, 0, 0) := (pg_233 32).trans rfl
theorem q_233_0 (d : Nat) (l0 : Nat) (x1 : Int32) (μ : aMem) : Rn d 233 (0, [.ref l0, .int x1, un], [], μ) = (rdL μ l0).bind fun v1 => if x1 = v1 then (Rn d 233 (7, [.ref l0, .int x1, un], [.ref l0], μ)) else (if mN μ < 900000 ∧ ¬ x1 < 0 ∧ ix x1 ≤ 1000000 then ((rdL (newC μ 10 (ix x1)) l0).bind fun v4 => if (mS (newC μ 10 (ix x1)) l0).1 = 10 ∧ (mS (newC μ 10 (ix x1)) (mN μ)).1 = 10 ∧ ¬ (0 : Int32) < 0 ∧ ¬ (0 : Int32) < 0 ∧ ¬ ((if x1 < v4 then x1 else v4) : Int32) < 0 ∧ ix 0 + ix (if x1 < v4 then x1 else v4) ≤ (mS (newC μ 10 (ix x1)) l0).2 ∧ ix 0 + ix (if x1 < v4 then x1 else v4) ≤ (mS (newC μ 10 (ix x1)) (mN μ)).2 then (if (mN μ) ≤ 999999 then some (some (.ref (mN μ)), cpyF (newC μ 10 (ix x1)) l0 (mN μ) (ix 0) (ix 0) (ix (if x1 < v4 then x1 else v4))) else none) else none) else none) :=
  (e_nx f_233_0 rfl).trans ((e_nx f_233_1 rfl).trans ((e_al (L := [.ref l0, .int x1, un]) (r := [.int x1]) (μ := μ) f_233_2).trans (m_congr fun v1 => (e_ne f_233_3 rfl).trans (b_congr (fun h2 => e_nx f_233_6 rfl) (fun h2 => (e_nx f_233_14 rfl).trans ((e_gd (L := [.ref l0, .int x1, un]) (st := [.int x1]) (μ := μ) f_233_15 rfl).trans (g_congr (nb_iff (by decide)) (fun h3 => (e_nx (q := (_, [.ref l0, .int x1, .ref (mN μ)], _, _)) f_233_17 rfl).trans ((e_nx f_233_18 rfl).trans ((e_nx (q := (_, _, .int 0 :: _, _)) f_233_19 rfl).trans ((e_nx f_233_20 rfl).trans ((e_nx (q := (_, _, .int 0 :: _, _)) f_233_21 rfl).trans ((e_nx f_233_22 rfl).trans ((e_al (L := [.ref l0, .int x1, .ref (mN μ)]) (r := [.int 0, .ref (mN μ), .int 0, .ref l0]) (μ := newC μ 10 (ix x1)) f_233_23).trans (m_congr fun v4 => (e_nx f_233_24 rfl).trans ((e_nx f_233_25 rfl).trans ((e_gd (L := [.ref l0, .int x1, .ref (mN μ)]) (st := [.int (if x1 < v4 then x1 else v4), .int 0, .ref (mN μ), .int 0, .ref l0]) (μ := newC μ 10 (ix x1)) f_233_28 rfl).trans (g_congr (ac_iff (Nat.le_of_ble_eq_true rfl)) (fun h5 => (e_nx f_233_31 rfl).trans (e_rg f_233_32 rfl))))))))))))))))))))
theorem pg_234 (pc : Nat) : fe0 234 pc = lk prg_234 pc := rfl
theorem f_234_0 : fe0 234 0 = some (.aload_n 0, 1, 0, 0, 0, 0, 0) := (pg_234 0).trans rfl
theorem f_234_1 : fe0 234 1 = some (.getfield 9, 3, 16, 0, 0, 0, 7063) := (pg_234 1).trans rfl
theorem f_234_4 : fe0 234 4 = some (.arraylength, 1, 0, 0, 0, 0, 0) := (pg_234 4).trans rfl
theorem f_234_5 : fe0 234 5 = some (.aload_n 0, 1, 0, 0, 0, 0, 0) := (pg_234 5).trans rfl
theorem f_234_6 : fe0 234 6 = some (.invokevirtual 335, 3, 238, 0, 1, 0, 3162) := (pg_234 6).trans rfl
theorem f_234_9 : fe0 234 9 = some (.ishr, 1, 0, 0, 0, 0, 0) := (pg_234 9).trans rfl
theorem f_234_10 : fe0 234 10 = some (.ireturn, 1, 0, 0, 0, 0, 0) := (pg_234 10).trans rfl
theorem q_234_0 (d : Nat) (l0 : Nat) (μ : aMem) : Rn (d + 1) 234 (0, [.ref l0], [], μ) = if 1000002 ≤ l0 ∧ l0 < 1000008 then ((rdL μ (l0 + 6)).bind fun v2 => (cI d 238 [.ref l0] μ).bind fun p3 => some (some (.int (v2 >>> (p3.1 &&& 31))), p3.2)) else none :=
  (e_nx f_234_0 rfl).trans ((e_gd f_234_1 rfl).trans (g_congr (Iff.rfl) (fun h1 => (e_al (L := [.ref l0]) (r := []) (μ := μ) f_234_4).trans (m_congr fun v2 => (e_nx f_234_5 rfl).trans (((e_gI (L := [.ref l0]) (st := [.ref l0, .int v2]) (μ := μ) (L' := [.ref l0]) (st' := [.int v2]) f_234_6 rfl rfl).trans (if_pos ((v_c2 rfl (Nat.le_of_ble_eq_true rfl)).mpr h1))).trans (m_congr fun p3 => (e_nx f_234_9 rfl).trans (e_rt f_234_10 rfl)))))))
theorem pg_235 (pc : Nat) : fe0 235 pc = lk prg_235 pc := rfl
theorem f_235_0 : fe0 235 0 = some (.aload_n 0, 1, 0, 0, 0, 0, 0) := (pg_235 0).trans rfl
theorem f_235_1 : fe0 235 1 = some (.invokevirtual 492, 3, 239, 0, 1, 0, 3172) := (pg_235 1).trans rfl
theorem f_235_4 : fe0 235 4 = some (.ifCond .eq 12, 3, 0, 0, 0, 0, 0) := (pg_235 4).trans rfl
theorem f_235_7 : fe0 235 7 = some (.aload_n 0, 1, 0, 0, 0, 0, 0) := (pg_235 7).trans rfl
theorem f_235_8 : fe0 235 8 = some (.getfield 9, 3, 16, 0, 0, 0, 7063) := (pg_235 8).trans rfl
theorem f_235_11 : fe0 235 11 = some (.iload_n 1, 1, 0, 0, 0, 0, 0) := (pg_235 11).trans rfl
theorem f_235_12 : fe0 235 12 = some (.invokestatic 495, 3, 241, 2, 2, 0, 3176) := (pg_235 12).trans rfl
theorem f_235_15 : fe0 235 15 = some (.ireturn, 1, 2, 0, 0, 0, 0) := (pg_235 15).trans rfl
theorem f_235_16 : fe0 235 16 = some (.aload_n 0, 1, 0, 0, 0, 0, 0) := (pg_235 16).trans rfl
theorem f_235_17 : fe0 235 17 = some (.getfield 9, 3, 16, 0, 0, 0, 7063) := (pg_235 17).trans rfl
theorem f_235_20 : fe0 235 20 = some (.iload_n 1, 1, 0, 0, 0, 0, 0) := (pg_235 20).trans rfl
theorem q_235_0 (d : Nat) (l0 : Nat) (x1 : Int32) (μ : aMem) : Rn (d + 1) 235 (0, [.ref l0, .int x1], [], μ) = if 1000002 ≤ l0 ∧ l0 < 1000008 then ((cI d 239 [.ref l0] μ).bind fun p1 => if p1.1 = 0 then (Rn (d + 1) 235 (21, [.ref l0, .int x1], [.int x1, .ref (l0 + 6)], p1.2)) else ((cI d 241 [.ref (l0 + 6), .int x1] p1.2).bind fun p4 => if ((p4.1 : Int32).toUInt32 % 65536).toInt32 = p4.1 then some (some (.int p4.1), p4.2) else none)) else none :=
  (e_nx f_235_0 rfl).trans ((e_gI (L := [.ref l0, .int x1]) (st := [.ref l0]) (μ := μ) (L' := [.ref l0, .int x1]) (st' := []) f_235_1 rfl rfl).trans (g_congr (v_c2 rfl (Nat.le_of_ble_eq_true rfl)) (fun h2 => m_congr fun p1 => (e_eq f_235_4 rfl).trans (b_congr (fun h3 => (e_nx f_235_16 rfl).trans ((e_gk f_235_17 (h2) rfl).trans (e_nx f_235_20 rfl))) (fun h3 => (e_nx f_235_7 rfl).trans ((e_gk f_235_8 (h2) rfl).trans ((e_nx f_235_11 rfl).trans ((e_cI (L := [.ref l0, .int x1]) (st := [.int x1, .ref (l0 + 6)]) (μ := p1.2) (L' := [.ref l0, .int x1]) (st' := []) f_235_12 rfl rfl).trans (m_congr fun p4 => (e_rg f_235_15 rfl).trans (g_congr rt2_iff (fun _ => rfl)))))))))))
theorem pg_236 (pc : Nat) : fe0 236 pc = lk prg_236 pc := rfl
theorem f_236_0 : fe0 236 0 = some (.aload_n 0, 1, 0, 0, 0, 0, 0) := (pg_236 0).trans rfl
theorem f_236_1 : fe0 236 1 = some (.iload_n 1, 1, 0, 0, 0, 0, 0) := (pg_236 1).trans rfl
theorem f_236_2 : fe0 236 2 = some (.iconst 0, 1, 0, 0, 0, 0, 0) := (pg_236 2).trans rfl
theorem f_236_3 : fe0 236 3 = some (.invokevirtual 633, 3, 237, 2, 1, 0, 3239) := (pg_236 3).trans rfl
theorem f_236_6 : fe0 236 6 = some (.ireturn, 1, 0, 0, 0, 0, 0) := (pg_236 6).trans rfl
theorem q_236_0 (d : Nat) (l0 : Nat) (x1 : Int32) (μ : aMem) : Rn (d + 1) 236 (0, [.ref l0, .int x1], [], μ) = if 1000002 ≤ l0 ∧ l0 < 1000008 then ((cI d 237 [.ref l0, .int x1, .int 0] μ).bind fun p1 => some (some (.int p1.1), p1.2)) else none :=
  (e_nx f_236_0 rfl).trans ((e_nx f_236_1 rfl).trans ((e_nx (q := (_, _, .int 0 :: _, _)) f_236_2 rfl).trans ((e_gI (L := [.ref l0, .int x1]) (st := [.int 0, .int x1, .ref l0]) (μ := μ) (L' := [.ref l0, .int x1]) (st' := []) f_236_3 rfl rfl).trans (g_congr (v_c2 rfl (Nat.le_of_ble_eq_true rfl)) (fun h2 => m_congr fun p1 => e_rt f_236_6 rfl)))))
theorem pg_237 (pc : Nat) : fe0 237 pc = lk prg_237 pc := rfl
theorem f_237_0 : fe0 237 0 = some (.aload_n 0, 1, 0, 0, 0, 0, 0) := (pg_237 0).trans rfl
theorem f_237_1 : fe0 237 1 = some (.invokevirtual 492, 3, 239, 0, 1, 0, 3172) := (pg_237 1).trans rfl
theorem f_237_4 : fe0 237 4 = some (.ifCond .eq 19, 3, 0, 0, 0, 0, 0) := (pg_237 4).trans rfl
theorem f_237_7 : fe0 237 7 = some (.aload_n 0, 1, 0, 0, 0, 0, 0) := (pg_237 7).trans rfl
theorem f_237_8 : fe0 237 8 = some (.getfield 9, 3, 16, 0, 0, 0, 7063) := (pg_237 8).trans rfl
theorem f_237_11 : fe0 237 11 = some (.iload_n 1, 1, 0, 0, 0, 0, 0) := (pg_237 11).trans rfl
theorem f_237_12 : fe0 237 12 = some (.iload_n 2, 1, 0, 0, 0, 0, 0) := (pg_237 12).trans rfl
theorem f_237_13 : fe0 237 13 = some (.aload_n 0, 1, 0, 0, 0, 0, 0) := (pg_237 13).trans rfl
theorem f_237_14 : fe0 237 14 = some (.invokevirtual 505, 3, 234, 0, 1, 0, 4003) := (pg_237 14).trans rfl
theorem f_237_17 : fe0 237 17 = some (.invokestatic 637, 3, 243, 4, 2, 0, 4004) := (pg_237 17).trans rfl
theorem f_237_20 : fe0 237 20 = some (.goto 16, 3, 0, 0, 0, 0, 0) := (pg_237 20).trans rfl
theorem f_237_23 : fe0 237 23 = some (.aload_n 0, 1, 0, 0, 0, 0, 0) := (pg_237 23).trans rfl
theorem f_237_24 : fe0 237 24 = some (.getfield 9, 3, 16, 0, 0, 0, 7063) := (pg_237 24).trans rfl
theorem f_237_27 : fe0 237 27 = some (.iload_n 1, 1, 0, 0, 0, 0, 0) := (pg_237 27).trans rfl
theorem f_237_28 : fe0 237 28 = some (.iload_n 2, 1, 0, 0, 0, 0, 0) := (pg_237 28).trans rfl
theorem f_237_29 : fe0 237 29 = some (.aload_n 0, 1, 0, 0, 0, 0, 0) := (pg_237 29).trans rfl
theorem f_237_30 : fe0 237 30 = some (.invokevirtual 505, 3, 234, 0, 1, 0, 4003) := (pg_237 30).trans rfl
theorem f_237_36 : fe0 237 36 = some (.ireturn, 1, 0, 0, 0, 0, 0) := (pg_237 36).trans rfl
theorem q_237_0 (d : Nat) (l0 : Nat) (x1 : Int32) (x2 : Int32) (μ : aMem) : Rn (d + 1) 237 (0, [.ref l0, .int x1, .int x2], [], μ) = if 1000002 ≤ l0 ∧ l0 < 1000008 then ((cI d 239 [.ref l0] μ).bind fun p1 => if p1.1 = 0 then ((cI d 234 [.ref l0] p1.2).bind fun p4 => Rn (d + 1) 237 (33, [.ref l0, .int x1, .int x2], [.int p4.1, .int x2, .int x1, .ref (l0 + 6)], p4.2)) else ((cI d 234 [.ref l0] p1.2).bind fun p5 => (cI d 243 [.ref (l0 + 6), .int x1, .int x2, .int p5.1] p5.2).bind fun p6 => some (some (.int p6.1), p6.2))) else none :=
  (e_nx f_237_0 rfl).trans ((e_gI (L := [.ref l0, .int x1, .int x2]) (st := [.ref l0]) (μ := μ) (L' := [.ref l0, .int x1, .int x2]) (st' := []) f_237_1 rfl rfl).trans (g_congr (v_c2 rfl (Nat.le_of_ble_eq_true rfl)) (fun h2 => m_congr fun p1 => (e_eq f_237_4 rfl).trans (b_congr (fun h3 => (e_nx f_237_23 rfl).trans ((e_gk f_237_24 (h2) rfl).trans ((e_nx f_237_27 rfl).trans ((e_nx f_237_28 rfl).trans ((e_nx f_237_29 rfl).trans (((e_gI (L := [.ref l0, .int x1, .int x2]) (st := [.ref l0, .int x2, .int x1, .ref (l0 + 6)]) (μ := p1.2) (L' := [.ref l0, .int x1, .int x2]) (st' := [.int x2, .int x1, .ref (l0 + 6)]) f_237_30 rfl rfl).trans (if_pos ((v_c2 rfl (Nat.le_of_ble_eq_true rfl)).mpr h2))).trans (m_congr fun p4 => rfl))))))) (fun h3 => (e_nx f_237_7 rfl).trans ((e_gk f_237_8 (h2) rfl).trans ((e_nx f_237_11 rfl).trans ((e_nx f_237_12 rfl).trans ((e_nx f_237_13 rfl).trans (((e_gI (L := [.ref l0, .int x1, .int x2]) (st := [.ref l0, .int x2, .int x1, .ref (l0 + 6)]) (μ := p1.2) (L' := [.ref l0, .int x1, .int x2]) (st' := [.int x2, .int x1, .ref (l0 + 6)]) f_237_14 rfl rfl).trans (if_pos ((v_c2 rfl (Nat.le_of_ble_eq_true rfl)).mpr h2))).trans (m_congr fun p5 => (e_cI (L := [.ref l0, .int x1, .int x2]) (st := [.int p5.1, .int x2, .int x1, .ref (l0 + 6)]) (μ := p5.2) (L' := [.ref l0, .int x1, .int x2]) (st' := []) f_237_17 rfl rfl).trans (m_congr fun p6 => (e_nx f_237_20 rfl).trans (e_rt f_237_36 rfl)))))))))))))
theorem pg_238 (pc : Nat) : fe0 238 pc = lk prg_238 pc := rfl
theorem f_238_0 : fe0 238 0 = some (.getstatic 38, 3, 2, 0, 0, 0, 3166) := (pg_238 0).trans rfl
theorem f_238_3 : fe0 238 3 = some (.ifCond .eq 10, 3, 0, 0, 0, 0, 0) := (pg_238 3).trans rfl
theorem f_238_6 : fe0 238 6 = some (.aload_n 0, 1, 0, 0, 0, 0, 0) := (pg_238 6).trans rfl
theorem f_238_7 : fe0 238 7 = some (.getfield 15, 3, 16, 1, 0, 0, 7064) := (pg_238 7).trans rfl
theorem f_238_10 : fe0 238 10 = some (.goto 4, 3, 0, 0, 0, 0, 0) := (pg_238 10).trans rfl
theorem f_238_13 : fe0 238 13 = some (.iconst 1, 1, 0, 0, 0, 0, 0) := (pg_238 13).trans rfl
theorem f_238_14 : fe0 238 14 = some (.ireturn, 1, 3, 0, 0, 0, 0) := (pg_238 14).trans rfl
theorem q_238_0 (d : Nat) (l0 : Nat) (μ : aMem) : Rn d 238 (0, [.ref l0], [], μ) = if (1 : Int32) = 0 then (some (some (.int 1), μ)) else (if 1000002 ≤ l0 ∧ l0 < 1000008 then (some (some (.int 0), μ)) else none) :=
  (e_nx f_238_0 rfl).trans ((e_eq f_238_3 rfl).trans (b_congr (fun h1 => (e_nx (q := (_, _, .int 1 :: _, _)) f_238_13 rfl).trans (e_rt f_238_14 rfl)) (fun h1 => (e_nx f_238_6 rfl).trans ((e_gd f_238_7 rfl).trans (g_congr (Iff.rfl) (fun h2 => (e_nx f_238_10 rfl).trans (e_rt f_238_14 rfl)))))))
theorem pg_239 (pc : Nat) : fe0 239 pc = lk prg_239 pc := rfl
theorem f_239_0 : fe0 239 0 = some (.getstatic 38, 3, 2, 0, 0, 0, 3166) := (pg_239 0).trans rfl
theorem f_239_3 : fe0 239 3 = some (.ifCond .eq 14, 3, 0, 0, 0, 0, 0) := (pg_239 3).trans rfl
theorem f_239_6 : fe0 239 6 = some (.aload_n 0, 1, 0, 0, 0, 0, 0) := (pg_239 6).trans rfl
theorem f_239_7 : fe0 239 7 = some (.getfield 15, 3, 16, 1, 0, 0, 7064) := (pg_239 7).trans rfl
theorem f_239_10 : fe0 239 10 = some (.ifCond .ne 7, 3, 0, 0, 0, 0, 0) := (pg_239 10).trans rfl
theorem f_239_13 : fe0 239 13 = some (.iconst 1, 1, 0, 0, 0, 0, 0) := (pg_239 13).trans rfl
theorem f_239_14 : fe0 239 14 = some (.goto 4, 3, 0, 0, 0, 0, 0) := (pg_239 14).trans rfl
theorem f_239_17 : fe0 239 17 = some (.iconst 0, 1, 0, 0, 0, 0, 0) := (pg_239 17).trans rfl
theorem f_239_18 : fe0 239 18 = some (.ireturn, 1, 1, 0, 0, 0, 0) := (pg_239 18).trans rfl
theorem q_239_0 (d : Nat) (l0 : Nat) (μ : aMem) : Rn d 239 (0, [.ref l0], [], μ) = if (1 : Int32) = 0 then (some (some (.int 0), μ)) else (if 1000002 ≤ l0 ∧ l0 < 1000008 then (if (0 : Int32) = 0 then (some (some (.int 1), μ)) else (some (some (.int 0), μ))) else none) :=
  (e_nx f_239_0 rfl).trans ((e_eq f_239_3 rfl).trans (b_congr (fun h1 => (e_nx (q := (_, _, .int 0 :: _, _)) f_239_17 rfl).trans (e_rt f_239_18 rfl)) (fun h1 => (e_nx f_239_6 rfl).trans ((e_gd f_239_7 rfl).trans (g_congr (Iff.rfl) (fun h2 => (e_ne f_239_10 rfl).trans (b_congr (fun h3 => (e_nx (q := (_, _, .int 1 :: _, _)) f_239_13 rfl).trans ((e_nx f_239_14 rfl).trans (e_rt f_239_18 rfl))) (fun h3 => (e_nx (q := (_, _, .int 0 :: _, _)) f_239_17 rfl).trans (e_rt f_239_18 rfl)))))))))
theorem pg_240 (pc : Nat) : fe0 240 pc = lk prg_240 pc := rfl
theorem f_240_0 : fe0 240 0 = some (.iload_n 0, 1, 0, 0, 0, 0, 0) := (pg_240 0).trans rfl
theorem f_240_1 : fe0 240 1 = some (.iload_n 1, 1, 0, 0, 0, 0, 0) := (pg_240 1).trans rfl
theorem f_240_2 : fe0 240 2 = some (.getstatic 1053, 3, 3, 0, 0, 0, 3182) := (pg_240 2).trans rfl
theorem f_240_5 : fe0 240 5 = some (.invokestatic 1059, 3, 245, 3, 2, 0, 3184) := (pg_240 5).trans rfl
theorem f_240_8 : fe0 240 8 = some (.pop, 1, 0, 0, 0, 0, 0) := (pg_240 8).trans rfl
theorem f_240_9 : fe0 240 9 = some (.return_, 1, 0, 0, 0, 0, 0) := (pg_240 9).trans rfl
theorem q_240_0 (d : Nat) (x0 : Int32) (x1 : Int32) (μ : aMem) : Rn (d + 1) 240 (0, [.int x0, .int x1], [], μ) = (cI d 245 [.int x0, .int x1, .ref 1000015] μ).bind fun p1 => some (none, p1.2) :=
  (e_nx f_240_0 rfl).trans ((e_nx f_240_1 rfl).trans ((e_nx f_240_2 rfl).trans ((e_cI (L := [.int x0, .int x1]) (st := [.ref 1000015, .int x1, .int x0]) (μ := μ) (L' := [.int x0, .int x1]) (st' := []) f_240_5 rfl rfl).trans (m_congr fun p1 => (e_nx f_240_8 rfl).trans (e_rt f_240_9 rfl)))))
theorem pg_241 (pc : Nat) : fe0 241 pc = lk prg_241 pc := rfl
theorem f_241_0 : fe0 241 0 = some (.iload_n 1, 1, 0, 0, 0, 0, 0) := (pg_241 0).trans rfl
theorem f_241_1 : fe0 241 1 = some (.aload_n 0, 1, 0, 0, 0, 0, 0) := (pg_241 1).trans rfl
theorem f_241_2 : fe0 241 2 = some (.arraylength, 1, 0, 0, 0, 0, 0) := (pg_241 2).trans rfl
theorem f_241_3 : fe0 241 3 = some (.invokestatic 9, 3, 240, 2, 2, 0, 3179) := (pg_241 3).trans rfl
theorem f_241_6 : fe0 241 6 = some (.aload_n 0, 1, 0, 0, 0, 0, 0) := (pg_241 6).trans rfl
theorem f_241_7 : fe0 241 7 = some (.iload_n 1, 1, 0, 0, 0, 0, 0) := (pg_241 7).trans rfl
theorem f_241_8 : fe0 241 8 = some (.baload, 1, 0, 0, 0, 0, 0) := (pg_241 8).trans rfl
theorem f_241_9 : fe0 241 9 = some (.sipush 255, 3, 0, 0, 0, 0, 0) := (pg_241 9).trans rfl
theorem f_241_12 : fe0 241 12 = some (.iand, 1, 0, 0, 0, 0, 0) := (pg_241 12).trans rfl
theorem f_241_13 : fe0 241 13 = some (.i2c, 1, 0, 0, 0, 0, 0) := (pg_241 13).trans rfl
theorem f_241_14 : fe0 241 14 = some (.ireturn, 1, 2, 0, 0, 0, 0) := (pg_241 14).trans rfl
theorem q_241_0 (d : Nat) (l0 : Nat) (x1 : Int32) (μ : aMem) : Rn (d + 1) 241 (0, [.ref l0, .int x1], [], μ) = (rdL μ l0).bind fun v1 => (cV d 240 [.int x1, .int v1] μ).bind fun p2 => (rdB l0 x1).bind fun v3 => if (((((v3 &&& 255 : Int32).toUInt32 % 65536).toInt32) : Int32).toUInt32 % 65536).toInt32 = (((v3 &&& 255 : Int32).toUInt32 % 65536).toInt32) then some (some (.int (((v3 &&& 255 : Int32).toUInt32 % 65536).toInt32)), p2) else none :=
  (e_nx f_241_0 rfl).trans ((e_nx f_241_1 rfl).trans ((e_al (L := [.ref l0, .int x1]) (r := [.int x1]) (μ := μ) f_241_2).trans (m_congr fun v1 => (e_cV (L := [.ref l0, .int x1]) (st := [.int v1, .int x1]) (μ := μ) (L' := [.ref l0, .int x1]) (st' := []) f_241_3 rfl rfl).trans (m_congr fun p2 => (e_nx f_241_6 rfl).trans ((e_nx f_241_7 rfl).trans ((e_ba (L := [.ref l0, .int x1]) (r := []) (μ := p2) f_241_8).trans (m_congr fun v3 => (e_nx (q := (_, _, .int 255 :: _, _)) f_241_9 rfl).trans ((e_nx f_241_12 rfl).trans ((e_nx f_241_13 rfl).trans ((e_rg f_241_14 rfl).trans (g_congr rt2_iff (fun _ => rfl))))))))))))
theorem pg_242 (pc : Nat) : fe0 242 pc = lk prg_242 pc := rfl
theorem f_242_0 : fe0 242 0 = some (.iload_n 0, 1, 0, 0, 0, 0, 0) := (pg_242 0).trans rfl
theorem f_242_1 : fe0 242 1 = some (.ifCond .lt 14, 3, 0, 0, 0, 0, 0) := (pg_242 1).trans rfl
theorem f_242_4 : fe0 242 4 = some (.iload_n 0, 1, 0, 0, 0, 0, 0) := (pg_242 4).trans rfl
theorem f_242_5 : fe0 242 5 = some (.sipush 255, 3, 0, 0, 0, 0, 0) := (pg_242 5).trans rfl
theorem f_242_8 : fe0 242 8 = some (.if_icmp .gt 7, 3, 0, 0, 0, 0, 0) := (pg_242 8).trans rfl
theorem f_242_11 : fe0 242 11 = some (.iconst 1, 1, 0, 0, 0, 0, 0) := (pg_242 11).trans rfl
theorem f_242_12 : fe0 242 12 = some (.goto 4, 3, 0, 0, 0, 0, 0) := (pg_242 12).trans rfl
theorem f_242_15 : fe0 242 15 = some (.iconst 0, 1, 0, 0, 0, 0, 0) := (pg_242 15).trans rfl
theorem f_242_16 : fe0 242 16 = some (.ireturn, 1, 1, 0, 0, 0, 0) := (pg_242 16).trans rfl
theorem q_242_0 (d : Nat) (x0 : Int32) (μ : aMem) : Rn d 242 (0, [.int x0], [], μ) = if x0 < 0 then (some (some (.int 0), μ)) else (if 255 < x0 then (some (some (.int 0), μ)) else (some (some (.int 1), μ))) :=
  (e_nx f_242_0 rfl).trans ((e_lt f_242_1 rfl).trans (b_congr (fun h1 => (e_nx (q := (_, _, .int 0 :: _, _)) f_242_15 rfl).trans (e_rt f_242_16 rfl)) (fun h1 => (e_nx f_242_4 rfl).trans ((e_nx (q := (_, _, .int 255 :: _, _)) f_242_5 rfl).trans ((e_gt f_242_8 rfl).trans (b_congr (fun h2 => (e_nx (q := (_, _, .int 0 :: _, _)) f_242_15 rfl).trans (e_rt f_242_16 rfl)) (fun h2 => (e_nx (q := (_, _, .int 1 :: _, _)) f_242_11 rfl).trans ((e_nx f_242_12 rfl).trans (e_rt f_242_16 rfl)))))))))
theorem pg_243 (pc : Nat) : fe0 243 pc = lk prg_243 pc := rfl
theorem f_243_0 : fe0 243 0 = some (.iload_n 1, 1, 0, 0, 0, 0, 0) := (pg_243 0).trans rfl
theorem f_243_1 : fe0 243 1 = some (.invokestatic 88, 3, 242, 1, 2, 0, 4007) := (pg_243 1).trans rfl
theorem f_243_4 : fe0 243 4 = some (.ifCond .ne 5, 3, 0, 0, 0, 0, 0) := (pg_243 4).trans rfl
theorem f_243_7 : fe0 243 7 = some (.iconst (-1), 1, 0, 0, 0, 0, 0) := (pg_243 7).trans rfl
theorem f_243_8 : fe0 243 8 = some (.ireturn, 1, 0, 0, 0, 0, 0) := (pg_243 8).trans rfl
theorem f_243_9 : fe0 243 9 = some (.iload_n 2, 1, 0, 0, 0, 0, 0) := (pg_243 9).trans rfl
theorem f_243_10 : fe0 243 10 = some (.iconst 0, 1, 0, 0, 0, 0, 0) := (pg_243 10).trans rfl
theorem f_243_11 : fe0 243 11 = some (.invokestatic 92, 3, 0, 0, 7, 0, 4010) := (pg_243 11).trans rfl
theorem f_243_14 : fe0 243 14 = some (.istore_n 2, 1, 0, 0, 0, 0, 0) := (pg_243 14).trans rfl
theorem f_243_15 : fe0 243 15 = some (.iload_n 3, 1, 0, 0, 0, 0, 0) := (pg_243 15).trans rfl
theorem f_243_16 : fe0 243 16 = some (.aload_n 0, 1, 0, 0, 0, 0, 0) := (pg_243 16).trans rfl
theorem f_243_17 : fe0 243 17 = some (.arraylength, 1, 0, 0, 0, 0, 0) := (pg_243 17).trans rfl
theorem f_243_18 : fe0 243 18 = some (.invokestatic 38, 3, 0, 0, 8, 0, 4011) := (pg_243 18).trans rfl
theorem f_243_21 : fe0 243 21 = some (.istore_n 3, 1, 0, 0, 0, 0, 0) := (pg_243 21).trans rfl
theorem f_243_22 : fe0 243 22 = some (.iload_n 2, 1, 0, 0, 0, 0, 0) := (pg_243 22).trans rfl
theorem f_243_23 : fe0 243 23 = some (.iload_n 3, 1, 0, 0, 0, 0, 0) := (pg_243 23).trans rfl
theorem f_243_24 : fe0 243 24 = some (.if_icmp .lt 5, 3, 0, 0, 0, 0, 0) := (pg_243 24).trans rfl
theorem f_243_27 : fe0 243 27 = some (.iconst (-1), 1, 0, 0, 0, 0, 0) := (pg_243 27).trans rfl
theorem f_243_28 : fe0 243 28 = some (.ireturn, 1, 0, 0, 0, 0, 0) := (pg_243 28).trans rfl
theorem f_243_29 : fe0 243 29 = some (.aload_n 0, 1, 0, 0, 0, 0, 0) := (pg_243 29).trans rfl
theorem f_243_30 : fe0 243 30 = some (.iload_n 1, 1, 0, 0, 0, 0, 0) := (pg_243 30).trans rfl
theorem f_243_31 : fe0 243 31 = some (.iload_n 2, 1, 0, 0, 0, 0, 0) := (pg_243 31).trans rfl
theorem f_243_32 : fe0 243 32 = some (.iload_n 3, 1, 0, 0, 0, 0, 0) := (pg_243 32).trans rfl
theorem f_243_33 : fe0 243 33 = some (.invokestatic 95, 3, 244, 4, 2, 0, 4012) := (pg_243 33).trans rfl
theorem f_243_36 : fe0 243 36 = some (.ireturn, 1, 0, 0, 0, 0, 0) := (pg_243 36).trans rfl
theorem q_243_0 (d : Nat) (l0 : Nat) (x1 : Int32) (x2 : Int32) (x3 : Int32) (μ : aMem) : Rn (d + 1) 243 (0, [.ref l0, .int x1, .int x2, .int x3], [], μ) = (cI d 242 [.int x1] μ).bind fun p1 => if p1.1 = 0 then (some (some (.int (-1)), p1.2)) else ((rdL p1.2 l0).bind fun v3 => if (if x2 < 0 then 0 else x2) < (if v3 < x3 then v3 else x3) then ((cI d 244 [.ref l0, .int x1, .int (if x2 < 0 then 0 else x2), .int (if v3 < x3 then v3 else x3)] p1.2).bind fun p5 => some (some (.int p5.1), p5.2)) else (some (some (.int (-1)), p1.2))) :=
  (e_nx f_243_0 rfl).trans ((e_cI (L := [.ref l0, .int x1, .int x2, .int x3]) (st := [.int x1]) (μ := μ) (L' := [.ref l0, .int x1, .int x2, .int x3]) (st' := []) f_243_1 rfl rfl).trans (m_congr fun p1 => (e_ne f_243_4 rfl).trans (b_congr (fun h2 => (e_nx (q := (_, _, .int (-1) :: _, _)) f_243_7 rfl).trans (e_rt f_243_8 rfl)) (fun h2 => (e_nx f_243_9 rfl).trans ((e_nx (q := (_, _, .int 0 :: _, _)) f_243_10 rfl).trans ((e_nx f_243_11 rfl).trans ((e_nx (q := (_, [.ref l0, .int x1, .int (if x2 < 0 then 0 else x2), .int x3], _, _)) f_243_14 rfl).trans ((e_nx f_243_15 rfl).trans ((e_nx f_243_16 rfl).trans ((e_al (L := [.ref l0, .int x1, .int (if x2 < 0 then 0 else x2), .int x3]) (r := [.int x3]) (μ := p1.2) f_243_17).trans (m_congr fun v3 => (e_nx f_243_18 rfl).trans ((e_nx (q := (_, [.ref l0, .int x1, .int (if x2 < 0 then 0 else x2), .int (if v3 < x3 then v3 else x3)], _, _)) f_243_21 rfl).trans ((e_nx f_243_22 rfl).trans ((e_nx f_243_23 rfl).trans ((e_lt f_243_24 rfl).trans (b_congr (fun h4 => (e_nx f_243_29 rfl).trans ((e_nx f_243_30 rfl).trans ((e_nx f_243_31 rfl).trans ((e_nx f_243_32 rfl).trans ((e_cI (L := [.ref l0, .int x1, .int (if x2 < 0 then 0 else x2), .int (if v3 < x3 then v3 else x3)]) (st := [.int (if v3 < x3 then v3 else x3), .int (if x2 < 0 then 0 else x2), .int x1, .ref l0]) (μ := p1.2) (L' := [.ref l0, .int x1, .int (if x2 < 0 then 0 else x2), .int (if v3 < x3 then v3 else x3)]) (st' := []) f_243_33 rfl rfl).trans (m_congr fun p5 => e_rt f_243_36 rfl)))))) (fun h4 => (e_nx (q := (_, _, .int (-1) :: _, _)) f_243_27 rfl).trans (e_rt f_243_28 rfl))))))))))))))))))
theorem pg_244 (pc : Nat) : fe0 244 pc = lk prg_244 pc := rfl
theorem f_244_0 : fe0 244 0 = some (.iload_n 1, 1, 0, 0, 0, 0, 0) := (pg_244 0).trans rfl
theorem f_244_1 : fe0 244 1 = some (.i2b, 1, 0, 0, 0, 0, 0) := (pg_244 1).trans rfl
theorem f_244_2 : fe0 244 2 = some (.istore 4, 2, 0, 0, 0, 0, 0) := (pg_244 2).trans rfl
theorem f_244_4 : fe0 244 4 = some (.iload_n 2, 1, 0, 0, 0, 0, 0) := (pg_244 4).trans rfl
theorem f_244_5 : fe0 244 5 = some (.istore 5, 2, 0, 0, 0, 0, 0) := (pg_244 5).trans rfl
theorem f_244_7 : fe0 244 7 = some (.iload 5, 2, 0, 0, 0, 0, 0) := (pg_244 7).trans rfl
theorem f_244_9 : fe0 244 9 = some (.iload_n 3, 1, 0, 0, 0, 0, 0) := (pg_244 9).trans rfl
theorem f_244_10 : fe0 244 10 = some (.if_icmp .ge 21, 3, 0, 0, 0, 0, 0) := (pg_244 10).trans rfl
theorem f_244_13 : fe0 244 13 = some (.aload_n 0, 1, 0, 0, 0, 0, 0) := (pg_244 13).trans rfl
theorem f_244_14 : fe0 244 14 = some (.iload 5, 2, 0, 0, 0, 0, 0) := (pg_244 14).trans rfl
theorem f_244_16 : fe0 244 16 = some (.baload, 1, 0, 0, 0, 0, 0) := (pg_244 16).trans rfl
theorem f_244_17 : fe0 244 17 = some (.iload 4, 2, 0, 0, 0, 0, 0) := (pg_244 17).trans rfl
theorem f_244_19 : fe0 244 19 = some (.if_icmp .ne 6, 3, 0, 0, 0, 0, 0) := (pg_244 19).trans rfl
theorem f_244_22 : fe0 244 22 = some (.iload 5, 2, 0, 0, 0, 0, 0) := (pg_244 22).trans rfl
theorem f_244_24 : fe0 244 24 = some (.ireturn, 1, 0, 0, 0, 0, 0) := (pg_244 24).trans rfl
theorem f_244_25 : fe0 244 25 = some (.iinc 5 1, 3, 0, 0, 0, 0, 0) := (pg_244 25).trans rfl
theorem f_244_28 : fe0 244 28 = some (.goto (-21), 3, 0, 0, 0, 0, 0) := (pg_244 28).trans rfl
theorem f_244_31 : fe0 244 31 = some (.iconst (-1), 1, 0, 0, 0, 0, 0) := (pg_244 31).trans rfl
theorem f_244_32 : fe0 244 32 = some (.ireturn, 1, 0, 0, 0, 0, 0) := (pg_244 32).trans rfl
theorem q_244_0 (d : Nat) (l0 : Nat) (x1 : Int32) (x2 : Int32) (x3 : Int32) (μ : aMem) : Rn d 244 (0, [.ref l0, .int x1, .int x2, .int x3, un, un], [], μ) = Rn d 244 (7, [.ref l0, .int x1, .int x2, .int x3, .int ((x1 : Int32).toInt8.toInt32), .int x2], [], μ) :=
  (e_nx f_244_0 rfl).trans ((e_nx f_244_1 rfl).trans ((e_nx (q := (_, [.ref l0, .int x1, .int x2, .int x3, .int ((x1 : Int32).toInt8.toInt32), un], _, _)) f_244_2 rfl).trans ((e_nx f_244_4 rfl).trans (e_nx (q := (_, [.ref l0, .int x1, .int x2, .int x3, .int ((x1 : Int32).toInt8.toInt32), .int x2], _, _)) f_244_5 rfl))))
theorem q_244_7 (d : Nat) (l0 : Nat) (x1 : Int32) (x2 : Int32) (x3 : Int32) (x4 : Int32) (x5 : Int32) (μ : aMem) : Rn d 244 (7, [.ref l0, .int x1, .int x2, .int x3, .int x4, .int x5], [], μ) = if x3 ≤ x5 then (some (some (.int (-1)), μ)) else ((rdB l0 x5).bind fun v2 => if v2 = x4 then (some (some (.int x5), μ)) else (Rn d 244 (7, [.ref l0, .int x1, .int x2, .int x3, .int x4, .int (x5 + 1)], [], μ))) :=
  (e_nx f_244_7 rfl).trans ((e_nx f_244_9 rfl).trans ((e_ge f_244_10 rfl).trans (b_congr (fun h1 => (e_nx (q := (_, _, .int (-1) :: _, _)) f_244_31 rfl).trans (e_rt f_244_32 rfl)) (fun h1 => (e_nx f_244_13 rfl).trans ((e_nx f_244_14 rfl).trans ((e_ba (L := [.ref l0, .int x1, .int x2, .int x3, .int x4, .int x5]) (r := []) (μ := μ) f_244_16).trans (m_congr fun v2 => (e_nx f_244_17 rfl).trans ((e_ne f_244_19 rfl).trans (b_congr (fun h3 => (e_nx f_244_22 rfl).trans (e_rt f_244_24 rfl)) (fun h3 => (e_nx (q := (_, [.ref l0, .int x1, .int x2, .int x3, .int x4, .int (x5 + 1)], _, _)) f_244_25 rfl).trans (e_nx f_244_28 rfl)))))))))))
theorem pg_245 (pc : Nat) : fe0 245 pc = lk prg_245 pc := rfl
theorem f_245_0 : fe0 245 0 = some (.iload_n 0, 1, 0, 0, 0, 0, 0) := (pg_245 0).trans rfl
theorem f_245_1 : fe0 245 1 = some (.ifCond .lt 8, 3, 0, 0, 0, 0, 0) := (pg_245 1).trans rfl
theorem f_245_4 : fe0 245 4 = some (.iload_n 0, 1, 0, 0, 0, 0, 0) := (pg_245 4).trans rfl
theorem f_245_5 : fe0 245 5 = some (.iload_n 1, 1, 0, 0, 0, 0, 0) := (pg_245 5).trans rfl
theorem f_245_6 : fe0 245 6 = some (.if_icmp .lt 10, 3, 0, 0, 0, 0, 0) := (pg_245 6).trans rfl
theorem f_245_9 : fe0 245 9 = some (.aload_n 2, 1, 0, 0, 0, 0, 0) := (pg_245 9).trans rfl
theorem f_245_10 : fe0 245 10 = some (.iload_n 0, 1, 0, 0, 0, 0, 0) := (pg_245 10).trans rfl
theorem f_245_11 : fe0 245 11 = some (.iload_n 1, 1, 0, 0, 0, 0, 0) := (pg_245 11).trans rfl
theorem f_245_16 : fe0 245 16 = some (.iload_n 0, 1, 0, 0, 0, 0, 0) := (pg_245 16).trans rfl
theorem f_245_17 : fe0 245 17 = some (.ireturn, 1, 0, 0, 0, 0, 0) := (pg_245 17).trans rfl
theorem q_245_0 (d : Nat) (x0 : Int32) (x1 : Int32) (l2 : Nat) (μ : aMem) : Rn d 245 (0, [.int x0, .int x1, .ref l2], [], μ) = if x0 < 0 then (Rn d 245 (12, [.int x0, .int x1, .ref l2], [.int x1, .int x0, .ref l2], μ)) else (if x0 < x1 then (some (some (.int x0), μ)) else (Rn d 245 (12, [.int x0, .int x1, .ref l2], [.int x1, .int x0, .ref l2], μ))) :=
  (e_nx f_245_0 rfl).trans ((e_lt f_245_1 rfl).trans (b_congr (fun h1 => (e_nx f_245_9 rfl).trans ((e_nx f_245_10 rfl).trans (e_nx f_245_11 rfl))) (fun h1 => (e_nx f_245_4 rfl).trans ((e_nx f_245_5 rfl).trans ((e_lt f_245_6 rfl).trans (b_congr (fun h2 => (e_nx f_245_16 rfl).trans (e_rt f_245_17 rfl)) (fun h2 => (e_nx f_245_9 rfl).trans ((e_nx f_245_10 rfl).trans (e_nx f_245_11 rfl)))))))))
theorem kb_246_0 : prg_246_0.all (fun q => decide (q.1 < 298)) = true := by decide +kernel
theorem kb_246_1 : prg_246_1.all (fun q => decide (q.1 < 416)) = true := by decide +kernel
theorem kb_246_2 : prg_246_2.all (fun q => decide (q.1 < 536)) = true := by decide +kernel
theorem kb_246_3 : prg_246_3.all (fun q => decide (q.1 < 678)) = true := by decide +kernel
theorem kb_246_4 : prg_246_4.all (fun q => decide (q.1 < 802)) = true := by decide +kernel
theorem kb_246_5 : prg_246_5.all (fun q => decide (q.1 < 932)) = true := by decide +kernel
theorem kb_246_6 : prg_246_6.all (fun q => decide (q.1 < 1054)) = true := by decide +kernel
theorem kb_246_7 : prg_246_7.all (fun q => decide (q.1 < 1172)) = true := by decide +kernel
theorem kb_246_8 : prg_246_8.all (fun q => decide (q.1 < 1290)) = true := by decide +kernel
theorem kb_246_9 : prg_246_9.all (fun q => decide (q.1 < 1428)) = true := by decide +kernel
theorem kc_246_0 {pc : Nat} {e : aEnt} (hp : 0 ≤ pc) (h : lk prg_246_0 pc = some e) : fe0 246 pc = some e := by
  show lk prg_246 pc = some e
  unfold prg_246
  simp only [lk_app, h, Option.none_or, Option.some_or]
theorem kc_246_1 {pc : Nat} {e : aEnt} (hp : 298 ≤ pc) (h : lk prg_246_1 pc = some e) : fe0 246 pc = some e := by
  show lk prg_246 pc = some e
  unfold prg_246
  simp only [lk_app, lk_lt kb_246_0 (show 298 ≤ pc by omega), h, Option.none_or, Option.some_or]
theorem kc_246_2 {pc : Nat} {e : aEnt} (hp : 416 ≤ pc) (h : lk prg_246_2 pc = some e) : fe0 246 pc = some e := by
  show lk prg_246 pc = some e
  unfold prg_246
  simp only [lk_app, lk_lt kb_246_0 (show 298 ≤ pc by omega), lk_lt kb_246_1 (show 416 ≤ pc by omega), h, Option.none_or, Option.some_or]
theorem kc_246_3 {pc : Nat} {e : aEnt} (hp : 536 ≤ pc) (h : lk prg_246_3 pc = some e) : fe0 246 pc = some e := by
  show lk prg_246 pc = some e
  unfold prg_246
  simp only [lk_app, lk_lt kb_246_0 (show 298 ≤ pc by omega), lk_lt kb_246_1 (show 416 ≤ pc by omega), lk_lt kb_246_2 (show 536 ≤ pc by omega), h, Option.none_or, Option.some_or]
theorem kc_246_4 {pc : Nat} {e : aEnt} (hp : 678 ≤ pc) (h : lk prg_246_4 pc = some e) : fe0 246 pc = some e := by
  show lk prg_246 pc = some e
  unfold prg_246
  simp only [lk_app, lk_lt kb_246_0 (show 298 ≤ pc by omega), lk_lt kb_246_1 (show 416 ≤ pc by omega), lk_lt kb_246_2 (show 536 ≤ pc by omega), lk_lt kb_246_3 (show 678 ≤ pc by omega), h, Option.none_or, Option.some_or]
theorem kc_246_5 {pc : Nat} {e : aEnt} (hp : 802 ≤ pc) (h : lk prg_246_5 pc = some e) : fe0 246 pc = some e := by
  show lk prg_246 pc = some e
  unfold prg_246
  simp only [lk_app, lk_lt kb_246_0 (show 298 ≤ pc by omega), lk_lt kb_246_1 (show 416 ≤ pc by omega), lk_lt kb_246_2 (show 536 ≤ pc by omega), lk_lt kb_246_3 (show 678 ≤ pc by omega), lk_lt kb_246_4 (show 802 ≤ pc by omega), h, Option.none_or, Option.some_or]
theorem kc_246_6 {pc : Nat} {e : aEnt} (hp : 932 ≤ pc) (h : lk prg_246_6 pc = some e) : fe0 246 pc = some e := by
  show lk prg_246 pc = some e
  unfold prg_246
  simp only [lk_app, lk_lt kb_246_0 (show 298 ≤ pc by omega), lk_lt kb_246_1 (show 416 ≤ pc by omega), lk_lt kb_246_2 (show 536 ≤ pc by omega), lk_lt kb_246_3 (show 678 ≤ pc by omega), lk_lt kb_246_4 (show 802 ≤ pc by omega), lk_lt kb_246_5 (show 932 ≤ pc by omega), h, Option.none_or, Option.some_or]
theorem kc_246_7 {pc : Nat} {e : aEnt} (hp : 1054 ≤ pc) (h : lk prg_246_7 pc = some e) : fe0 246 pc = some e := by
  show lk prg_246 pc = some e
  unfold prg_246
  simp only [lk_app, lk_lt kb_246_0 (show 298 ≤ pc by omega), lk_lt kb_246_1 (show 416 ≤ pc by omega), lk_lt kb_246_2 (show 536 ≤ pc by omega), lk_lt kb_246_3 (show 678 ≤ pc by omega), lk_lt kb_246_4 (show 802 ≤ pc by omega), lk_lt kb_246_5 (show 932 ≤ pc by omega), lk_lt kb_246_6 (show 1054 ≤ pc by omega), h, Option.none_or, Option.some_or]
theorem kc_246_8 {pc : Nat} {e : aEnt} (hp : 1172 ≤ pc) (h : lk prg_246_8 pc = some e) : fe0 246 pc = some e := by
  show lk prg_246 pc = some e
  unfold prg_246
  simp only [lk_app, lk_lt kb_246_0 (show 298 ≤ pc by omega), lk_lt kb_246_1 (show 416 ≤ pc by omega), lk_lt kb_246_2 (show 536 ≤ pc by omega), lk_lt kb_246_3 (show 678 ≤ pc by omega), lk_lt kb_246_4 (show 802 ≤ pc by omega), lk_lt kb_246_5 (show 932 ≤ pc by omega), lk_lt kb_246_6 (show 1054 ≤ pc by omega), lk_lt kb_246_7 (show 1172 ≤ pc by omega), h, Option.none_or, Option.some_or]
theorem kc_246_9 {pc : Nat} {e : aEnt} (hp : 1290 ≤ pc) (h : lk prg_246_9 pc = some e) : fe0 246 pc = some e := by
  show lk prg_246 pc = some e
  unfold prg_246
  simp only [lk_app, lk_lt kb_246_0 (show 298 ≤ pc by omega), lk_lt kb_246_1 (show 416 ≤ pc by omega), lk_lt kb_246_2 (show 536 ≤ pc by omega), lk_lt kb_246_3 (show 678 ≤ pc by omega), lk_lt kb_246_4 (show 802 ≤ pc by omega), lk_lt kb_246_5 (show 932 ≤ pc by omega), lk_lt kb_246_6 (show 1054 ≤ pc by omega), lk_lt kb_246_7 (show 1172 ≤ pc by omega), lk_lt kb_246_8 (show 1290 ≤ pc by omega), h, Option.none_or, Option.some_or]
theorem f_246_0 : fe0 246 0 = some (.new 7, 3, 8, 12, 1021, 1001, 1020) := kc_246_0 (Nat.le_of_ble_eq_true rfl) rfl
theorem f_246_3 : fe0 246 3 = some (.dup, 1, 0, 0, 0, 0, 0) := kc_246_0 (Nat.le_of_ble_eq_true rfl) rfl
theorem f_246_4 : fe0 246 4 = some (.invokespecial 9, 3, 81, 0, 3, 0, 1022) := kc_246_0 (Nat.le_of_ble_eq_true rfl) rfl
theorem f_246_7 : fe0 246 7 = some (.astore_n 1, 1, 0, 0, 0, 0, 0) := kc_246_0 (Nat.le_of_ble_eq_true rfl) rfl
theorem f_246_8 : fe0 246 8 = some (.new 10, 3, 9, 38, 5019, 1010, 5018) := kc_246_0 (Nat.le_of_ble_eq_true rfl) rfl
theorem f_246_11 : fe0 246 11 = some (.dup, 1, 0, 0, 0, 0, 0) := kc_246_0 (Nat.le_of_ble_eq_true rfl) rfl
theorem f_246_12 : fe0 246 12 = some (.invokespecial 12, 3, 132, 0, 3, 0, 5020) := kc_246_0 (Nat.le_of_ble_eq_true rfl) rfl
theorem f_246_15 : fe0 246 15 = some (.astore_n 2, 1, 0, 0, 0, 0, 0) := kc_246_0 (Nat.le_of_ble_eq_true rfl) rfl
theorem f_246_16 : fe0 246 16 = some (.iconst 0, 1, 0, 0, 0, 0, 0) := kc_246_0 (Nat.le_of_ble_eq_true rfl) rfl
theorem f_246_17 : fe0 246 17 = some (.istore_n 3, 1, 0, 0, 0, 0, 0) := kc_246_0 (Nat.le_of_ble_eq_true rfl) rfl
theorem f_246_18 : fe0 246 18 = some (.iload_n 3, 1, 0, 0, 0, 0, 0) := kc_246_0 (Nat.le_of_ble_eq_true rfl) rfl
theorem f_246_19 : fe0 246 19 = some (.aload_n 0, 1, 0, 0, 0, 0, 0) := kc_246_0 (Nat.le_of_ble_eq_true rfl) rfl
theorem f_246_20 : fe0 246 20 = some (.arraylength, 1, 0, 0, 0, 0, 0) := kc_246_0 (Nat.le_of_ble_eq_true rfl) rfl
theorem f_246_21 : fe0 246 21 = some (.bipush 6, 2, 0, 0, 0, 0, 0) := kc_246_0 (Nat.le_of_ble_eq_true rfl) rfl
theorem f_246_23 : fe0 246 23 = some (.isub, 1, 0, 0, 0, 0, 0) := kc_246_0 (Nat.le_of_ble_eq_true rfl) rfl
theorem f_246_24 : fe0 246 24 = some (.if_icmp .gt 1402, 3, 0, 0, 0, 0, 0) := kc_246_0 (Nat.le_of_ble_eq_true rfl) rfl
theorem f_246_27 : fe0 246 27 = some (.aload_n 0, 1, 0, 0, 0, 0, 0) := kc_246_0 (Nat.le_of_ble_eq_true rfl) rfl
theorem f_246_28 : fe0 246 28 = some (.iload_n 3, 1, 0, 0, 0, 0, 0) := kc_246_0 (Nat.le_of_ble_eq_true rfl) rfl
theorem f_246_29 : fe0 246 29 = some (.iaload, 1, 0, 0, 0, 0, 0) := kc_246_0 (Nat.le_of_ble_eq_true rfl) rfl
theorem f_246_30 : fe0 246 30 = some (.bipush 63, 2, 0, 0, 0, 0, 0) := kc_246_0 (Nat.le_of_ble_eq_true rfl) rfl
theorem f_246_32 : fe0 246 32 = some (.iand, 1, 0, 0, 0, 0, 0) := kc_246_0 (Nat.le_of_ble_eq_true rfl) rfl
theorem f_246_33 : fe0 246 33 = some (.tableswitch 1387 0 39 #[175, 228, 261, 294, 327, 370, 413, 456, 489, 512, 535, 558, 571, 584, 597, 620, 663, 697, 720, 744, 777, 800, 843, 866, 879, 912, 935, 978, 1021, 1044, 1077, 1140, 1183, 1216, 1249, 1282, 1305, 1338, 1351, 1364], 175, 0, 0, 0, 0, 0) := kc_246_0 (Nat.le_of_ble_eq_true rfl) rfl
theorem f_246_208 : fe0 246 208 = some (.aload_n 1, 1, 0, 0, 0, 0, 0) := kc_246_0 (Nat.le_of_ble_eq_true rfl) rfl
theorem f_246_209 : fe0 246 209 = some (.aload_n 0, 1, 0, 0, 0, 0, 0) := kc_246_0 (Nat.le_of_ble_eq_true rfl) rfl
theorem f_246_210 : fe0 246 210 = some (.iload_n 3, 1, 0, 0, 0, 0, 0) := kc_246_0 (Nat.le_of_ble_eq_true rfl) rfl
theorem f_246_211 : fe0 246 211 = some (.iconst 1, 1, 0, 0, 0, 0, 0) := kc_246_0 (Nat.le_of_ble_eq_true rfl) rfl
theorem f_246_212 : fe0 246 212 = some (.iadd, 1, 0, 0, 0, 0, 0) := kc_246_0 (Nat.le_of_ble_eq_true rfl) rfl
theorem f_246_213 : fe0 246 213 = some (.iaload, 1, 0, 0, 0, 0, 0) := kc_246_0 (Nat.le_of_ble_eq_true rfl) rfl
theorem f_246_214 : fe0 246 214 = some (.aload_n 0, 1, 0, 0, 0, 0, 0) := kc_246_0 (Nat.le_of_ble_eq_true rfl) rfl
theorem f_246_215 : fe0 246 215 = some (.iload_n 3, 1, 0, 0, 0, 0, 0) := kc_246_0 (Nat.le_of_ble_eq_true rfl) rfl
theorem f_246_216 : fe0 246 216 = some (.iconst 2, 1, 0, 0, 0, 0, 0) := kc_246_0 (Nat.le_of_ble_eq_true rfl) rfl
theorem f_246_217 : fe0 246 217 = some (.iadd, 1, 0, 0, 0, 0, 0) := kc_246_0 (Nat.le_of_ble_eq_true rfl) rfl
theorem f_246_218 : fe0 246 218 = some (.iaload, 1, 0, 0, 0, 0, 0) := kc_246_0 (Nat.le_of_ble_eq_true rfl) rfl
theorem f_246_219 : fe0 246 219 = some (.aload_n 0, 1, 0, 0, 0, 0, 0) := kc_246_0 (Nat.le_of_ble_eq_true rfl) rfl
theorem f_246_220 : fe0 246 220 = some (.iload_n 3, 1, 0, 0, 0, 0, 0) := kc_246_0 (Nat.le_of_ble_eq_true rfl) rfl
theorem f_246_221 : fe0 246 221 = some (.iconst 3, 1, 0, 0, 0, 0, 0) := kc_246_0 (Nat.le_of_ble_eq_true rfl) rfl
theorem f_246_222 : fe0 246 222 = some (.iadd, 1, 0, 0, 0, 0, 0) := kc_246_0 (Nat.le_of_ble_eq_true rfl) rfl
theorem f_246_223 : fe0 246 223 = some (.iaload, 1, 0, 0, 0, 0, 0) := kc_246_0 (Nat.le_of_ble_eq_true rfl) rfl
theorem f_246_224 : fe0 246 224 = some (.aload_n 0, 1, 0, 0, 0, 0, 0) := kc_246_0 (Nat.le_of_ble_eq_true rfl) rfl
theorem f_246_225 : fe0 246 225 = some (.iload_n 3, 1, 0, 0, 0, 0, 0) := kc_246_0 (Nat.le_of_ble_eq_true rfl) rfl
theorem f_246_226 : fe0 246 226 = some (.iconst 4, 1, 0, 0, 0, 0, 0) := kc_246_0 (Nat.le_of_ble_eq_true rfl) rfl
theorem f_246_227 : fe0 246 227 = some (.iadd, 1, 0, 0, 0, 0, 0) := kc_246_0 (Nat.le_of_ble_eq_true rfl) rfl
theorem f_246_228 : fe0 246 228 = some (.iaload, 1, 0, 0, 0, 0, 0) := kc_246_0 (Nat.le_of_ble_eq_true rfl) rfl
theorem f_246_229 : fe0 246 229 = some (.invokevirtual 13, 3, 82, 4, 0, 8, 2050) := kc_246_0 (Nat.le_of_ble_eq_true rfl) rfl
theorem f_246_232 : fe0 246 232 = some (.aload_n 2, 1, 0, 0, 0, 0, 0) := kc_246_0 (Nat.le_of_ble_eq_true rfl) rfl
theorem f_246_233 : fe0 246 233 = some (.aload_n 0, 1, 0, 0, 0, 0, 0) := kc_246_0 (Nat.le_of_ble_eq_true rfl) rfl
theorem f_246_234 : fe0 246 234 = some (.iload_n 3, 1, 0, 0, 0, 0, 0) := kc_246_0 (Nat.le_of_ble_eq_true rfl) rfl
theorem f_246_235 : fe0 246 235 = some (.iconst 1, 1, 0, 0, 0, 0, 0) := kc_246_0 (Nat.le_of_ble_eq_true rfl) rfl
theorem f_246_236 : fe0 246 236 = some (.iadd, 1, 0, 0, 0, 0, 0) := kc_246_0 (Nat.le_of_ble_eq_true rfl) rfl
theorem f_246_237 : fe0 246 237 = some (.iaload, 1, 0, 0, 0, 0, 0) := kc_246_0 (Nat.le_of_ble_eq_true rfl) rfl
theorem f_246_238 : fe0 246 238 = some (.aload_n 0, 1, 0, 0, 0, 0, 0) := kc_246_0 (Nat.le_of_ble_eq_true rfl) rfl
theorem f_246_239 : fe0 246 239 = some (.iload_n 3, 1, 0, 0, 0, 0, 0) := kc_246_0 (Nat.le_of_ble_eq_true rfl) rfl
theorem f_246_240 : fe0 246 240 = some (.iconst 2, 1, 0, 0, 0, 0, 0) := kc_246_0 (Nat.le_of_ble_eq_true rfl) rfl
theorem f_246_241 : fe0 246 241 = some (.iadd, 1, 0, 0, 0, 0, 0) := kc_246_0 (Nat.le_of_ble_eq_true rfl) rfl
theorem f_246_242 : fe0 246 242 = some (.iaload, 1, 0, 0, 0, 0, 0) := kc_246_0 (Nat.le_of_ble_eq_true rfl) rfl
theorem f_246_243 : fe0 246 243 = some (.aload_n 0, 1, 0, 0, 0, 0, 0) := kc_246_0 (Nat.le_of_ble_eq_true rfl) rfl
theorem f_246_244 : fe0 246 244 = some (.iload_n 3, 1, 0, 0, 0, 0, 0) := kc_246_0 (Nat.le_of_ble_eq_true rfl) rfl
theorem f_246_245 : fe0 246 245 = some (.iconst 3, 1, 0, 0, 0, 0, 0) := kc_246_0 (Nat.le_of_ble_eq_true rfl) rfl
theorem f_246_246 : fe0 246 246 = some (.iadd, 1, 0, 0, 0, 0, 0) := kc_246_0 (Nat.le_of_ble_eq_true rfl) rfl
theorem f_246_247 : fe0 246 247 = some (.iaload, 1, 0, 0, 0, 0, 0) := kc_246_0 (Nat.le_of_ble_eq_true rfl) rfl
theorem f_246_248 : fe0 246 248 = some (.aload_n 0, 1, 0, 0, 0, 0, 0) := kc_246_0 (Nat.le_of_ble_eq_true rfl) rfl
theorem f_246_249 : fe0 246 249 = some (.iload_n 3, 1, 0, 0, 0, 0, 0) := kc_246_0 (Nat.le_of_ble_eq_true rfl) rfl
theorem f_246_250 : fe0 246 250 = some (.iconst 4, 1, 0, 0, 0, 0, 0) := kc_246_0 (Nat.le_of_ble_eq_true rfl) rfl
theorem f_246_251 : fe0 246 251 = some (.iadd, 1, 0, 0, 0, 0, 0) := kc_246_0 (Nat.le_of_ble_eq_true rfl) rfl
theorem f_246_252 : fe0 246 252 = some (.iaload, 1, 0, 0, 0, 0, 0) := kc_246_0 (Nat.le_of_ble_eq_true rfl) rfl
theorem f_246_253 : fe0 246 253 = some (.invokevirtual 17, 3, 146, 4, 0, 9, 5139) := kc_246_0 (Nat.le_of_ble_eq_true rfl) rfl
theorem f_246_256 : fe0 246 256 = some (.if_icmp .eq 1164, 3, 0, 0, 0, 0, 0) := kc_246_0 (Nat.le_of_ble_eq_true rfl) rfl
theorem f_246_259 : fe0 246 259 = some (.iconst 0, 1, 0, 0, 0, 0, 0) := kc_246_0 (Nat.le_of_ble_eq_true rfl) rfl
theorem f_246_260 : fe0 246 260 = some (.ireturn, 1, 1, 0, 0, 0, 0) := kc_246_0 (Nat.le_of_ble_eq_true rfl) rfl
theorem f_246_261 : fe0 246 261 = some (.aload_n 1, 1, 0, 0, 0, 0, 0) := kc_246_0 (Nat.le_of_ble_eq_true rfl) rfl
theorem f_246_262 : fe0 246 262 = some (.aload_n 0, 1, 0, 0, 0, 0, 0) := kc_246_0 (Nat.le_of_ble_eq_true rfl) rfl
theorem f_246_263 : fe0 246 263 = some (.iload_n 3, 1, 0, 0, 0, 0, 0) := kc_246_0 (Nat.le_of_ble_eq_true rfl) rfl
theorem f_246_264 : fe0 246 264 = some (.iconst 1, 1, 0, 0, 0, 0, 0) := kc_246_0 (Nat.le_of_ble_eq_true rfl) rfl
theorem f_246_265 : fe0 246 265 = some (.iadd, 1, 0, 0, 0, 0, 0) := kc_246_0 (Nat.le_of_ble_eq_true rfl) rfl
theorem f_246_266 : fe0 246 266 = some (.iaload, 1, 0, 0, 0, 0, 0) := kc_246_0 (Nat.le_of_ble_eq_true rfl) rfl
theorem f_246_267 : fe0 246 267 = some (.aload_n 0, 1, 0, 0, 0, 0, 0) := kc_246_0 (Nat.le_of_ble_eq_true rfl) rfl
theorem f_246_268 : fe0 246 268 = some (.iload_n 3, 1, 0, 0, 0, 0, 0) := kc_246_0 (Nat.le_of_ble_eq_true rfl) rfl
theorem f_246_269 : fe0 246 269 = some (.iconst 2, 1, 0, 0, 0, 0, 0) := kc_246_0 (Nat.le_of_ble_eq_true rfl) rfl
theorem f_246_270 : fe0 246 270 = some (.iadd, 1, 0, 0, 0, 0, 0) := kc_246_0 (Nat.le_of_ble_eq_true rfl) rfl
theorem f_246_271 : fe0 246 271 = some (.iaload, 1, 0, 0, 0, 0, 0) := kc_246_0 (Nat.le_of_ble_eq_true rfl) rfl
theorem f_246_272 : fe0 246 272 = some (.invokevirtual 18, 3, 83, 2, 0, 8, 2069) := kc_246_0 (Nat.le_of_ble_eq_true rfl) rfl
theorem f_246_275 : fe0 246 275 = some (.aload_n 2, 1, 0, 0, 0, 0, 0) := kc_246_0 (Nat.le_of_ble_eq_true rfl) rfl
theorem f_246_276 : fe0 246 276 = some (.aload_n 0, 1, 0, 0, 0, 0, 0) := kc_246_0 (Nat.le_of_ble_eq_true rfl) rfl
theorem f_246_277 : fe0 246 277 = some (.iload_n 3, 1, 0, 0, 0, 0, 0) := kc_246_0 (Nat.le_of_ble_eq_true rfl) rfl
theorem f_246_278 : fe0 246 278 = some (.iconst 1, 1, 0, 0, 0, 0, 0) := kc_246_0 (Nat.le_of_ble_eq_true rfl) rfl
theorem f_246_279 : fe0 246 279 = some (.iadd, 1, 0, 0, 0, 0, 0) := kc_246_0 (Nat.le_of_ble_eq_true rfl) rfl
theorem f_246_280 : fe0 246 280 = some (.iaload, 1, 0, 0, 0, 0, 0) := kc_246_0 (Nat.le_of_ble_eq_true rfl) rfl
theorem f_246_281 : fe0 246 281 = some (.aload_n 0, 1, 0, 0, 0, 0, 0) := kc_246_0 (Nat.le_of_ble_eq_true rfl) rfl
theorem f_246_282 : fe0 246 282 = some (.iload_n 3, 1, 0, 0, 0, 0, 0) := kc_246_0 (Nat.le_of_ble_eq_true rfl) rfl
theorem f_246_283 : fe0 246 283 = some (.iconst 2, 1, 0, 0, 0, 0, 0) := kc_246_0 (Nat.le_of_ble_eq_true rfl) rfl
theorem f_246_284 : fe0 246 284 = some (.iadd, 1, 0, 0, 0, 0, 0) := kc_246_0 (Nat.le_of_ble_eq_true rfl) rfl
theorem f_246_285 : fe0 246 285 = some (.iaload, 1, 0, 0, 0, 0, 0) := kc_246_0 (Nat.le_of_ble_eq_true rfl) rfl
theorem f_246_286 : fe0 246 286 = some (.invokevirtual 22, 3, 158, 2, 0, 9, 5158) := kc_246_0 (Nat.le_of_ble_eq_true rfl) rfl
theorem f_246_289 : fe0 246 289 = some (.if_icmp .eq 1131, 3, 0, 0, 0, 0, 0) := kc_246_0 (Nat.le_of_ble_eq_true rfl) rfl
theorem f_246_292 : fe0 246 292 = some (.iconst 0, 1, 0, 0, 0, 0, 0) := kc_246_0 (Nat.le_of_ble_eq_true rfl) rfl
theorem f_246_293 : fe0 246 293 = some (.ireturn, 1, 1, 0, 0, 0, 0) := kc_246_0 (Nat.le_of_ble_eq_true rfl) rfl
theorem f_246_294 : fe0 246 294 = some (.aload_n 1, 1, 0, 0, 0, 0, 0) := kc_246_0 (Nat.le_of_ble_eq_true rfl) rfl
theorem f_246_295 : fe0 246 295 = some (.aload_n 0, 1, 0, 0, 0, 0, 0) := kc_246_0 (Nat.le_of_ble_eq_true rfl) rfl
theorem f_246_296 : fe0 246 296 = some (.iload_n 3, 1, 0, 0, 0, 0, 0) := kc_246_0 (Nat.le_of_ble_eq_true rfl) rfl
theorem f_246_297 : fe0 246 297 = some (.iconst 1, 1, 0, 0, 0, 0, 0) := kc_246_0 (Nat.le_of_ble_eq_true rfl) rfl
theorem f_246_298 : fe0 246 298 = some (.iadd, 1, 0, 0, 0, 0, 0) := kc_246_1 (Nat.le_of_ble_eq_true rfl) rfl
theorem f_246_299 : fe0 246 299 = some (.iaload, 1, 0, 0, 0, 0, 0) := kc_246_1 (Nat.le_of_ble_eq_true rfl) rfl
theorem f_246_300 : fe0 246 300 = some (.aload_n 0, 1, 0, 0, 0, 0, 0) := kc_246_1 (Nat.le_of_ble_eq_true rfl) rfl
theorem f_246_301 : fe0 246 301 = some (.iload_n 3, 1, 0, 0, 0, 0, 0) := kc_246_1 (Nat.le_of_ble_eq_true rfl) rfl
theorem f_246_302 : fe0 246 302 = some (.iconst 2, 1, 0, 0, 0, 0, 0) := kc_246_1 (Nat.le_of_ble_eq_true rfl) rfl
theorem f_246_303 : fe0 246 303 = some (.iadd, 1, 0, 0, 0, 0, 0) := kc_246_1 (Nat.le_of_ble_eq_true rfl) rfl
theorem f_246_304 : fe0 246 304 = some (.iaload, 1, 0, 0, 0, 0, 0) := kc_246_1 (Nat.le_of_ble_eq_true rfl) rfl
theorem f_246_305 : fe0 246 305 = some (.invokevirtual 23, 3, 84, 2, 0, 8, 2163) := kc_246_1 (Nat.le_of_ble_eq_true rfl) rfl
theorem f_246_308 : fe0 246 308 = some (.aload_n 2, 1, 0, 0, 0, 0, 0) := kc_246_1 (Nat.le_of_ble_eq_true rfl) rfl
theorem f_246_309 : fe0 246 309 = some (.aload_n 0, 1, 0, 0, 0, 0, 0) := kc_246_1 (Nat.le_of_ble_eq_true rfl) rfl
theorem f_246_310 : fe0 246 310 = some (.iload_n 3, 1, 0, 0, 0, 0, 0) := kc_246_1 (Nat.le_of_ble_eq_true rfl) rfl
theorem f_246_311 : fe0 246 311 = some (.iconst 1, 1, 0, 0, 0, 0, 0) := kc_246_1 (Nat.le_of_ble_eq_true rfl) rfl
theorem f_246_312 : fe0 246 312 = some (.iadd, 1, 0, 0, 0, 0, 0) := kc_246_1 (Nat.le_of_ble_eq_true rfl) rfl
theorem f_246_313 : fe0 246 313 = some (.iaload, 1, 0, 0, 0, 0, 0) := kc_246_1 (Nat.le_of_ble_eq_true rfl) rfl
theorem f_246_314 : fe0 246 314 = some (.aload_n 0, 1, 0, 0, 0, 0, 0) := kc_246_1 (Nat.le_of_ble_eq_true rfl) rfl
theorem f_246_315 : fe0 246 315 = some (.iload_n 3, 1, 0, 0, 0, 0, 0) := kc_246_1 (Nat.le_of_ble_eq_true rfl) rfl
theorem f_246_316 : fe0 246 316 = some (.iconst 2, 1, 0, 0, 0, 0, 0) := kc_246_1 (Nat.le_of_ble_eq_true rfl) rfl
theorem f_246_317 : fe0 246 317 = some (.iadd, 1, 0, 0, 0, 0, 0) := kc_246_1 (Nat.le_of_ble_eq_true rfl) rfl
theorem f_246_318 : fe0 246 318 = some (.iaload, 1, 0, 0, 0, 0, 0) := kc_246_1 (Nat.le_of_ble_eq_true rfl) rfl
theorem f_246_319 : fe0 246 319 = some (.invokevirtual 26, 3, 160, 2, 0, 9, 5237) := kc_246_1 (Nat.le_of_ble_eq_true rfl) rfl
theorem f_246_322 : fe0 246 322 = some (.if_icmp .eq 1098, 3, 0, 0, 0, 0, 0) := kc_246_1 (Nat.le_of_ble_eq_true rfl) rfl
theorem f_246_325 : fe0 246 325 = some (.iconst 0, 1, 0, 0, 0, 0, 0) := kc_246_1 (Nat.le_of_ble_eq_true rfl) rfl
theorem f_246_326 : fe0 246 326 = some (.ireturn, 1, 1, 0, 0, 0, 0) := kc_246_1 (Nat.le_of_ble_eq_true rfl) rfl
theorem f_246_327 : fe0 246 327 = some (.aload_n 1, 1, 0, 0, 0, 0, 0) := kc_246_1 (Nat.le_of_ble_eq_true rfl) rfl
theorem f_246_328 : fe0 246 328 = some (.aload_n 0, 1, 0, 0, 0, 0, 0) := kc_246_1 (Nat.le_of_ble_eq_true rfl) rfl
theorem f_246_329 : fe0 246 329 = some (.iload_n 3, 1, 0, 0, 0, 0, 0) := kc_246_1 (Nat.le_of_ble_eq_true rfl) rfl
theorem f_246_330 : fe0 246 330 = some (.iconst 1, 1, 0, 0, 0, 0, 0) := kc_246_1 (Nat.le_of_ble_eq_true rfl) rfl
theorem f_246_331 : fe0 246 331 = some (.iadd, 1, 0, 0, 0, 0, 0) := kc_246_1 (Nat.le_of_ble_eq_true rfl) rfl
theorem f_246_332 : fe0 246 332 = some (.iaload, 1, 0, 0, 0, 0, 0) := kc_246_1 (Nat.le_of_ble_eq_true rfl) rfl
theorem f_246_333 : fe0 246 333 = some (.aload_n 0, 1, 0, 0, 0, 0, 0) := kc_246_1 (Nat.le_of_ble_eq_true rfl) rfl
theorem f_246_334 : fe0 246 334 = some (.iload_n 3, 1, 0, 0, 0, 0, 0) := kc_246_1 (Nat.le_of_ble_eq_true rfl) rfl
theorem f_246_335 : fe0 246 335 = some (.iconst 2, 1, 0, 0, 0, 0, 0) := kc_246_1 (Nat.le_of_ble_eq_true rfl) rfl
theorem f_246_336 : fe0 246 336 = some (.iadd, 1, 0, 0, 0, 0, 0) := kc_246_1 (Nat.le_of_ble_eq_true rfl) rfl
theorem f_246_337 : fe0 246 337 = some (.iaload, 1, 0, 0, 0, 0, 0) := kc_246_1 (Nat.le_of_ble_eq_true rfl) rfl
theorem f_246_338 : fe0 246 338 = some (.invokevirtual 27, 3, 85, 2, 0, 8, 2174) := kc_246_1 (Nat.le_of_ble_eq_true rfl) rfl
theorem f_246_341 : fe0 246 341 = some (.aload_n 2, 1, 0, 0, 0, 0, 0) := kc_246_1 (Nat.le_of_ble_eq_true rfl) rfl
theorem f_246_342 : fe0 246 342 = some (.aload_n 0, 1, 0, 0, 0, 0, 0) := kc_246_1 (Nat.le_of_ble_eq_true rfl) rfl
theorem f_246_343 : fe0 246 343 = some (.iload_n 3, 1, 0, 0, 0, 0, 0) := kc_246_1 (Nat.le_of_ble_eq_true rfl) rfl
theorem f_246_344 : fe0 246 344 = some (.iconst 1, 1, 0, 0, 0, 0, 0) := kc_246_1 (Nat.le_of_ble_eq_true rfl) rfl
theorem f_246_345 : fe0 246 345 = some (.iadd, 1, 0, 0, 0, 0, 0) := kc_246_1 (Nat.le_of_ble_eq_true rfl) rfl
theorem f_246_346 : fe0 246 346 = some (.iaload, 1, 0, 0, 0, 0, 0) := kc_246_1 (Nat.le_of_ble_eq_true rfl) rfl
theorem f_246_347 : fe0 246 347 = some (.aload_n 0, 1, 0, 0, 0, 0, 0) := kc_246_1 (Nat.le_of_ble_eq_true rfl) rfl
theorem f_246_348 : fe0 246 348 = some (.iload_n 3, 1, 0, 0, 0, 0, 0) := kc_246_1 (Nat.le_of_ble_eq_true rfl) rfl
theorem f_246_349 : fe0 246 349 = some (.iconst 2, 1, 0, 0, 0, 0, 0) := kc_246_1 (Nat.le_of_ble_eq_true rfl) rfl
theorem f_246_350 : fe0 246 350 = some (.iadd, 1, 0, 0, 0, 0, 0) := kc_246_1 (Nat.le_of_ble_eq_true rfl) rfl
theorem f_246_351 : fe0 246 351 = some (.iaload, 1, 0, 0, 0, 0, 0) := kc_246_1 (Nat.le_of_ble_eq_true rfl) rfl
theorem f_246_352 : fe0 246 352 = some (.invokevirtual 30, 3, 161, 2, 0, 9, 6005) := kc_246_1 (Nat.le_of_ble_eq_true rfl) rfl
theorem f_246_355 : fe0 246 355 = some (.if_icmp .eq 1065, 3, 0, 0, 0, 0, 0) := kc_246_1 (Nat.le_of_ble_eq_true rfl) rfl
theorem f_246_358 : fe0 246 358 = some (.iconst 0, 1, 0, 0, 0, 0, 0) := kc_246_1 (Nat.le_of_ble_eq_true rfl) rfl
theorem f_246_359 : fe0 246 359 = some (.ireturn, 1, 1, 0, 0, 0, 0) := kc_246_1 (Nat.le_of_ble_eq_true rfl) rfl
theorem f_246_360 : fe0 246 360 = some (.aload_n 1, 1, 0, 0, 0, 0, 0) := kc_246_1 (Nat.le_of_ble_eq_true rfl) rfl
theorem f_246_361 : fe0 246 361 = some (.aload_n 0, 1, 0, 0, 0, 0, 0) := kc_246_1 (Nat.le_of_ble_eq_true rfl) rfl
theorem f_246_362 : fe0 246 362 = some (.iload_n 3, 1, 0, 0, 0, 0, 0) := kc_246_1 (Nat.le_of_ble_eq_true rfl) rfl
theorem f_246_363 : fe0 246 363 = some (.iconst 1, 1, 0, 0, 0, 0, 0) := kc_246_1 (Nat.le_of_ble_eq_true rfl) rfl
theorem f_246_364 : fe0 246 364 = some (.iadd, 1, 0, 0, 0, 0, 0) := kc_246_1 (Nat.le_of_ble_eq_true rfl) rfl
theorem f_246_365 : fe0 246 365 = some (.iaload, 1, 0, 0, 0, 0, 0) := kc_246_1 (Nat.le_of_ble_eq_true rfl) rfl
theorem f_246_366 : fe0 246 366 = some (.aload_n 0, 1, 0, 0, 0, 0, 0) := kc_246_1 (Nat.le_of_ble_eq_true rfl) rfl
theorem f_246_367 : fe0 246 367 = some (.iload_n 3, 1, 0, 0, 0, 0, 0) := kc_246_1 (Nat.le_of_ble_eq_true rfl) rfl
theorem f_246_368 : fe0 246 368 = some (.iconst 2, 1, 0, 0, 0, 0, 0) := kc_246_1 (Nat.le_of_ble_eq_true rfl) rfl
theorem f_246_369 : fe0 246 369 = some (.iadd, 1, 0, 0, 0, 0, 0) := kc_246_1 (Nat.le_of_ble_eq_true rfl) rfl
theorem f_246_370 : fe0 246 370 = some (.iaload, 1, 0, 0, 0, 0, 0) := kc_246_1 (Nat.le_of_ble_eq_true rfl) rfl
theorem f_246_371 : fe0 246 371 = some (.aload_n 0, 1, 0, 0, 0, 0, 0) := kc_246_1 (Nat.le_of_ble_eq_true rfl) rfl
theorem f_246_372 : fe0 246 372 = some (.iload_n 3, 1, 0, 0, 0, 0, 0) := kc_246_1 (Nat.le_of_ble_eq_true rfl) rfl
theorem f_246_373 : fe0 246 373 = some (.iconst 3, 1, 0, 0, 0, 0, 0) := kc_246_1 (Nat.le_of_ble_eq_true rfl) rfl
theorem f_246_374 : fe0 246 374 = some (.iadd, 1, 0, 0, 0, 0, 0) := kc_246_1 (Nat.le_of_ble_eq_true rfl) rfl
theorem f_246_375 : fe0 246 375 = some (.iaload, 1, 0, 0, 0, 0, 0) := kc_246_1 (Nat.le_of_ble_eq_true rfl) rfl
theorem f_246_376 : fe0 246 376 = some (.invokevirtual 31, 3, 86, 3, 0, 8, 2178) := kc_246_1 (Nat.le_of_ble_eq_true rfl) rfl
theorem f_246_379 : fe0 246 379 = some (.aload_n 2, 1, 0, 0, 0, 0, 0) := kc_246_1 (Nat.le_of_ble_eq_true rfl) rfl
theorem f_246_380 : fe0 246 380 = some (.aload_n 0, 1, 0, 0, 0, 0, 0) := kc_246_1 (Nat.le_of_ble_eq_true rfl) rfl
theorem f_246_381 : fe0 246 381 = some (.iload_n 3, 1, 0, 0, 0, 0, 0) := kc_246_1 (Nat.le_of_ble_eq_true rfl) rfl
theorem f_246_382 : fe0 246 382 = some (.iconst 1, 1, 0, 0, 0, 0, 0) := kc_246_1 (Nat.le_of_ble_eq_true rfl) rfl
theorem f_246_383 : fe0 246 383 = some (.iadd, 1, 0, 0, 0, 0, 0) := kc_246_1 (Nat.le_of_ble_eq_true rfl) rfl
theorem f_246_384 : fe0 246 384 = some (.iaload, 1, 0, 0, 0, 0, 0) := kc_246_1 (Nat.le_of_ble_eq_true rfl) rfl
theorem f_246_385 : fe0 246 385 = some (.aload_n 0, 1, 0, 0, 0, 0, 0) := kc_246_1 (Nat.le_of_ble_eq_true rfl) rfl
theorem f_246_386 : fe0 246 386 = some (.iload_n 3, 1, 0, 0, 0, 0, 0) := kc_246_1 (Nat.le_of_ble_eq_true rfl) rfl
theorem f_246_387 : fe0 246 387 = some (.iconst 2, 1, 0, 0, 0, 0, 0) := kc_246_1 (Nat.le_of_ble_eq_true rfl) rfl
theorem f_246_388 : fe0 246 388 = some (.iadd, 1, 0, 0, 0, 0, 0) := kc_246_1 (Nat.le_of_ble_eq_true rfl) rfl
theorem f_246_389 : fe0 246 389 = some (.iaload, 1, 0, 0, 0, 0, 0) := kc_246_1 (Nat.le_of_ble_eq_true rfl) rfl
theorem f_246_390 : fe0 246 390 = some (.aload_n 0, 1, 0, 0, 0, 0, 0) := kc_246_1 (Nat.le_of_ble_eq_true rfl) rfl
theorem f_246_391 : fe0 246 391 = some (.iload_n 3, 1, 0, 0, 0, 0, 0) := kc_246_1 (Nat.le_of_ble_eq_true rfl) rfl
theorem f_246_392 : fe0 246 392 = some (.iconst 3, 1, 0, 0, 0, 0, 0) := kc_246_1 (Nat.le_of_ble_eq_true rfl) rfl
theorem f_246_393 : fe0 246 393 = some (.iadd, 1, 0, 0, 0, 0, 0) := kc_246_1 (Nat.le_of_ble_eq_true rfl) rfl
theorem f_246_394 : fe0 246 394 = some (.iaload, 1, 0, 0, 0, 0, 0) := kc_246_1 (Nat.le_of_ble_eq_true rfl) rfl
theorem f_246_395 : fe0 246 395 = some (.invokevirtual 35, 3, 162, 3, 0, 9, 6013) := kc_246_1 (Nat.le_of_ble_eq_true rfl) rfl
theorem f_246_398 : fe0 246 398 = some (.if_icmp .eq 1022, 3, 0, 0, 0, 0, 0) := kc_246_1 (Nat.le_of_ble_eq_true rfl) rfl
theorem f_246_401 : fe0 246 401 = some (.iconst 0, 1, 0, 0, 0, 0, 0) := kc_246_1 (Nat.le_of_ble_eq_true rfl) rfl
theorem f_246_402 : fe0 246 402 = some (.ireturn, 1, 1, 0, 0, 0, 0) := kc_246_1 (Nat.le_of_ble_eq_true rfl) rfl
theorem f_246_403 : fe0 246 403 = some (.aload_n 1, 1, 0, 0, 0, 0, 0) := kc_246_1 (Nat.le_of_ble_eq_true rfl) rfl
theorem f_246_404 : fe0 246 404 = some (.aload_n 0, 1, 0, 0, 0, 0, 0) := kc_246_1 (Nat.le_of_ble_eq_true rfl) rfl
theorem f_246_405 : fe0 246 405 = some (.iload_n 3, 1, 0, 0, 0, 0, 0) := kc_246_1 (Nat.le_of_ble_eq_true rfl) rfl
theorem f_246_406 : fe0 246 406 = some (.iconst 1, 1, 0, 0, 0, 0, 0) := kc_246_1 (Nat.le_of_ble_eq_true rfl) rfl
theorem f_246_407 : fe0 246 407 = some (.iadd, 1, 0, 0, 0, 0, 0) := kc_246_1 (Nat.le_of_ble_eq_true rfl) rfl
theorem f_246_408 : fe0 246 408 = some (.iaload, 1, 0, 0, 0, 0, 0) := kc_246_1 (Nat.le_of_ble_eq_true rfl) rfl
theorem f_246_409 : fe0 246 409 = some (.aload_n 0, 1, 0, 0, 0, 0, 0) := kc_246_1 (Nat.le_of_ble_eq_true rfl) rfl
theorem f_246_410 : fe0 246 410 = some (.iload_n 3, 1, 0, 0, 0, 0, 0) := kc_246_1 (Nat.le_of_ble_eq_true rfl) rfl
theorem f_246_411 : fe0 246 411 = some (.iconst 2, 1, 0, 0, 0, 0, 0) := kc_246_1 (Nat.le_of_ble_eq_true rfl) rfl
theorem f_246_412 : fe0 246 412 = some (.iadd, 1, 0, 0, 0, 0, 0) := kc_246_1 (Nat.le_of_ble_eq_true rfl) rfl
theorem f_246_413 : fe0 246 413 = some (.iaload, 1, 0, 0, 0, 0, 0) := kc_246_1 (Nat.le_of_ble_eq_true rfl) rfl
theorem f_246_414 : fe0 246 414 = some (.aload_n 0, 1, 0, 0, 0, 0, 0) := kc_246_1 (Nat.le_of_ble_eq_true rfl) rfl
theorem f_246_415 : fe0 246 415 = some (.iload_n 3, 1, 0, 0, 0, 0, 0) := kc_246_1 (Nat.le_of_ble_eq_true rfl) rfl
theorem f_246_416 : fe0 246 416 = some (.iconst 3, 1, 0, 0, 0, 0, 0) := kc_246_2 (Nat.le_of_ble_eq_true rfl) rfl
theorem f_246_417 : fe0 246 417 = some (.iadd, 1, 0, 0, 0, 0, 0) := kc_246_2 (Nat.le_of_ble_eq_true rfl) rfl
theorem f_246_418 : fe0 246 418 = some (.iaload, 1, 0, 0, 0, 0, 0) := kc_246_2 (Nat.le_of_ble_eq_true rfl) rfl
theorem f_246_419 : fe0 246 419 = some (.invokevirtual 36, 3, 87, 3, 0, 8, 2182) := kc_246_2 (Nat.le_of_ble_eq_true rfl) rfl
theorem f_246_422 : fe0 246 422 = some (.aload_n 2, 1, 0, 0, 0, 0, 0) := kc_246_2 (Nat.le_of_ble_eq_true rfl) rfl
theorem f_246_423 : fe0 246 423 = some (.aload_n 0, 1, 0, 0, 0, 0, 0) := kc_246_2 (Nat.le_of_ble_eq_true rfl) rfl
theorem f_246_424 : fe0 246 424 = some (.iload_n 3, 1, 0, 0, 0, 0, 0) := kc_246_2 (Nat.le_of_ble_eq_true rfl) rfl
theorem f_246_425 : fe0 246 425 = some (.iconst 1, 1, 0, 0, 0, 0, 0) := kc_246_2 (Nat.le_of_ble_eq_true rfl) rfl
theorem f_246_426 : fe0 246 426 = some (.iadd, 1, 0, 0, 0, 0, 0) := kc_246_2 (Nat.le_of_ble_eq_true rfl) rfl
theorem f_246_427 : fe0 246 427 = some (.iaload, 1, 0, 0, 0, 0, 0) := kc_246_2 (Nat.le_of_ble_eq_true rfl) rfl
theorem f_246_428 : fe0 246 428 = some (.aload_n 0, 1, 0, 0, 0, 0, 0) := kc_246_2 (Nat.le_of_ble_eq_true rfl) rfl
theorem f_246_429 : fe0 246 429 = some (.iload_n 3, 1, 0, 0, 0, 0, 0) := kc_246_2 (Nat.le_of_ble_eq_true rfl) rfl
theorem f_246_430 : fe0 246 430 = some (.iconst 2, 1, 0, 0, 0, 0, 0) := kc_246_2 (Nat.le_of_ble_eq_true rfl) rfl
theorem f_246_431 : fe0 246 431 = some (.iadd, 1, 0, 0, 0, 0, 0) := kc_246_2 (Nat.le_of_ble_eq_true rfl) rfl
theorem f_246_432 : fe0 246 432 = some (.iaload, 1, 0, 0, 0, 0, 0) := kc_246_2 (Nat.le_of_ble_eq_true rfl) rfl
theorem f_246_433 : fe0 246 433 = some (.aload_n 0, 1, 0, 0, 0, 0, 0) := kc_246_2 (Nat.le_of_ble_eq_true rfl) rfl
theorem f_246_434 : fe0 246 434 = some (.iload_n 3, 1, 0, 0, 0, 0, 0) := kc_246_2 (Nat.le_of_ble_eq_true rfl) rfl
theorem f_246_435 : fe0 246 435 = some (.iconst 3, 1, 0, 0, 0, 0, 0) := kc_246_2 (Nat.le_of_ble_eq_true rfl) rfl
theorem f_246_436 : fe0 246 436 = some (.iadd, 1, 0, 0, 0, 0, 0) := kc_246_2 (Nat.le_of_ble_eq_true rfl) rfl
theorem f_246_437 : fe0 246 437 = some (.iaload, 1, 0, 0, 0, 0, 0) := kc_246_2 (Nat.le_of_ble_eq_true rfl) rfl
theorem f_246_438 : fe0 246 438 = some (.invokevirtual 39, 3, 163, 3, 0, 9, 6019) := kc_246_2 (Nat.le_of_ble_eq_true rfl) rfl
theorem f_246_441 : fe0 246 441 = some (.if_icmp .eq 979, 3, 0, 0, 0, 0, 0) := kc_246_2 (Nat.le_of_ble_eq_true rfl) rfl
theorem f_246_444 : fe0 246 444 = some (.iconst 0, 1, 0, 0, 0, 0, 0) := kc_246_2 (Nat.le_of_ble_eq_true rfl) rfl
theorem f_246_445 : fe0 246 445 = some (.ireturn, 1, 1, 0, 0, 0, 0) := kc_246_2 (Nat.le_of_ble_eq_true rfl) rfl
theorem f_246_446 : fe0 246 446 = some (.aload_n 1, 1, 0, 0, 0, 0, 0) := kc_246_2 (Nat.le_of_ble_eq_true rfl) rfl
theorem f_246_447 : fe0 246 447 = some (.aload_n 0, 1, 0, 0, 0, 0, 0) := kc_246_2 (Nat.le_of_ble_eq_true rfl) rfl
theorem f_246_448 : fe0 246 448 = some (.iload_n 3, 1, 0, 0, 0, 0, 0) := kc_246_2 (Nat.le_of_ble_eq_true rfl) rfl
theorem f_246_449 : fe0 246 449 = some (.iconst 1, 1, 0, 0, 0, 0, 0) := kc_246_2 (Nat.le_of_ble_eq_true rfl) rfl
theorem f_246_450 : fe0 246 450 = some (.iadd, 1, 0, 0, 0, 0, 0) := kc_246_2 (Nat.le_of_ble_eq_true rfl) rfl
theorem f_246_451 : fe0 246 451 = some (.iaload, 1, 0, 0, 0, 0, 0) := kc_246_2 (Nat.le_of_ble_eq_true rfl) rfl
theorem f_246_452 : fe0 246 452 = some (.aload_n 0, 1, 0, 0, 0, 0, 0) := kc_246_2 (Nat.le_of_ble_eq_true rfl) rfl
theorem f_246_453 : fe0 246 453 = some (.iload_n 3, 1, 0, 0, 0, 0, 0) := kc_246_2 (Nat.le_of_ble_eq_true rfl) rfl
theorem f_246_454 : fe0 246 454 = some (.iconst 2, 1, 0, 0, 0, 0, 0) := kc_246_2 (Nat.le_of_ble_eq_true rfl) rfl
theorem f_246_455 : fe0 246 455 = some (.iadd, 1, 0, 0, 0, 0, 0) := kc_246_2 (Nat.le_of_ble_eq_true rfl) rfl
theorem f_246_456 : fe0 246 456 = some (.iaload, 1, 0, 0, 0, 0, 0) := kc_246_2 (Nat.le_of_ble_eq_true rfl) rfl
theorem f_246_457 : fe0 246 457 = some (.aload_n 0, 1, 0, 0, 0, 0, 0) := kc_246_2 (Nat.le_of_ble_eq_true rfl) rfl
theorem f_246_458 : fe0 246 458 = some (.iload_n 3, 1, 0, 0, 0, 0, 0) := kc_246_2 (Nat.le_of_ble_eq_true rfl) rfl
theorem f_246_459 : fe0 246 459 = some (.iconst 3, 1, 0, 0, 0, 0, 0) := kc_246_2 (Nat.le_of_ble_eq_true rfl) rfl
theorem f_246_460 : fe0 246 460 = some (.iadd, 1, 0, 0, 0, 0, 0) := kc_246_2 (Nat.le_of_ble_eq_true rfl) rfl
theorem f_246_461 : fe0 246 461 = some (.iaload, 1, 0, 0, 0, 0, 0) := kc_246_2 (Nat.le_of_ble_eq_true rfl) rfl
theorem f_246_462 : fe0 246 462 = some (.invokevirtual 40, 3, 88, 3, 0, 8, 2186) := kc_246_2 (Nat.le_of_ble_eq_true rfl) rfl
theorem f_246_465 : fe0 246 465 = some (.aload_n 2, 1, 0, 0, 0, 0, 0) := kc_246_2 (Nat.le_of_ble_eq_true rfl) rfl
theorem f_246_466 : fe0 246 466 = some (.aload_n 0, 1, 0, 0, 0, 0, 0) := kc_246_2 (Nat.le_of_ble_eq_true rfl) rfl
theorem f_246_467 : fe0 246 467 = some (.iload_n 3, 1, 0, 0, 0, 0, 0) := kc_246_2 (Nat.le_of_ble_eq_true rfl) rfl
theorem f_246_468 : fe0 246 468 = some (.iconst 1, 1, 0, 0, 0, 0, 0) := kc_246_2 (Nat.le_of_ble_eq_true rfl) rfl
theorem f_246_469 : fe0 246 469 = some (.iadd, 1, 0, 0, 0, 0, 0) := kc_246_2 (Nat.le_of_ble_eq_true rfl) rfl
theorem f_246_470 : fe0 246 470 = some (.iaload, 1, 0, 0, 0, 0, 0) := kc_246_2 (Nat.le_of_ble_eq_true rfl) rfl
theorem f_246_471 : fe0 246 471 = some (.aload_n 0, 1, 0, 0, 0, 0, 0) := kc_246_2 (Nat.le_of_ble_eq_true rfl) rfl
theorem f_246_472 : fe0 246 472 = some (.iload_n 3, 1, 0, 0, 0, 0, 0) := kc_246_2 (Nat.le_of_ble_eq_true rfl) rfl
theorem f_246_473 : fe0 246 473 = some (.iconst 2, 1, 0, 0, 0, 0, 0) := kc_246_2 (Nat.le_of_ble_eq_true rfl) rfl
theorem f_246_474 : fe0 246 474 = some (.iadd, 1, 0, 0, 0, 0, 0) := kc_246_2 (Nat.le_of_ble_eq_true rfl) rfl
theorem f_246_475 : fe0 246 475 = some (.iaload, 1, 0, 0, 0, 0, 0) := kc_246_2 (Nat.le_of_ble_eq_true rfl) rfl
theorem f_246_476 : fe0 246 476 = some (.aload_n 0, 1, 0, 0, 0, 0, 0) := kc_246_2 (Nat.le_of_ble_eq_true rfl) rfl
theorem f_246_477 : fe0 246 477 = some (.iload_n 3, 1, 0, 0, 0, 0, 0) := kc_246_2 (Nat.le_of_ble_eq_true rfl) rfl
theorem f_246_478 : fe0 246 478 = some (.iconst 3, 1, 0, 0, 0, 0, 0) := kc_246_2 (Nat.le_of_ble_eq_true rfl) rfl
theorem f_246_479 : fe0 246 479 = some (.iadd, 1, 0, 0, 0, 0, 0) := kc_246_2 (Nat.le_of_ble_eq_true rfl) rfl
theorem f_246_480 : fe0 246 480 = some (.iaload, 1, 0, 0, 0, 0, 0) := kc_246_2 (Nat.le_of_ble_eq_true rfl) rfl
theorem f_246_481 : fe0 246 481 = some (.invokevirtual 43, 3, 165, 3, 0, 9, 6023) := kc_246_2 (Nat.le_of_ble_eq_true rfl) rfl
theorem f_246_484 : fe0 246 484 = some (.if_icmp .eq 936, 3, 0, 0, 0, 0, 0) := kc_246_2 (Nat.le_of_ble_eq_true rfl) rfl
theorem f_246_487 : fe0 246 487 = some (.iconst 0, 1, 0, 0, 0, 0, 0) := kc_246_2 (Nat.le_of_ble_eq_true rfl) rfl
theorem f_246_488 : fe0 246 488 = some (.ireturn, 1, 1, 0, 0, 0, 0) := kc_246_2 (Nat.le_of_ble_eq_true rfl) rfl
theorem f_246_489 : fe0 246 489 = some (.aload_n 1, 1, 0, 0, 0, 0, 0) := kc_246_2 (Nat.le_of_ble_eq_true rfl) rfl
theorem f_246_490 : fe0 246 490 = some (.aload_n 0, 1, 0, 0, 0, 0, 0) := kc_246_2 (Nat.le_of_ble_eq_true rfl) rfl
theorem f_246_491 : fe0 246 491 = some (.iload_n 3, 1, 0, 0, 0, 0, 0) := kc_246_2 (Nat.le_of_ble_eq_true rfl) rfl
theorem f_246_492 : fe0 246 492 = some (.iconst 1, 1, 0, 0, 0, 0, 0) := kc_246_2 (Nat.le_of_ble_eq_true rfl) rfl
theorem f_246_493 : fe0 246 493 = some (.iadd, 1, 0, 0, 0, 0, 0) := kc_246_2 (Nat.le_of_ble_eq_true rfl) rfl
theorem f_246_494 : fe0 246 494 = some (.iaload, 1, 0, 0, 0, 0, 0) := kc_246_2 (Nat.le_of_ble_eq_true rfl) rfl
theorem f_246_495 : fe0 246 495 = some (.aload_n 0, 1, 0, 0, 0, 0, 0) := kc_246_2 (Nat.le_of_ble_eq_true rfl) rfl
theorem f_246_496 : fe0 246 496 = some (.iload_n 3, 1, 0, 0, 0, 0, 0) := kc_246_2 (Nat.le_of_ble_eq_true rfl) rfl
theorem f_246_497 : fe0 246 497 = some (.iconst 2, 1, 0, 0, 0, 0, 0) := kc_246_2 (Nat.le_of_ble_eq_true rfl) rfl
theorem f_246_498 : fe0 246 498 = some (.iadd, 1, 0, 0, 0, 0, 0) := kc_246_2 (Nat.le_of_ble_eq_true rfl) rfl
theorem f_246_499 : fe0 246 499 = some (.iaload, 1, 0, 0, 0, 0, 0) := kc_246_2 (Nat.le_of_ble_eq_true rfl) rfl
theorem f_246_500 : fe0 246 500 = some (.invokevirtual 44, 3, 89, 2, 0, 8, 2197) := kc_246_2 (Nat.le_of_ble_eq_true rfl) rfl
theorem f_246_503 : fe0 246 503 = some (.aload_n 2, 1, 0, 0, 0, 0, 0) := kc_246_2 (Nat.le_of_ble_eq_true rfl) rfl
theorem f_246_504 : fe0 246 504 = some (.aload_n 0, 1, 0, 0, 0, 0, 0) := kc_246_2 (Nat.le_of_ble_eq_true rfl) rfl
theorem f_246_505 : fe0 246 505 = some (.iload_n 3, 1, 0, 0, 0, 0, 0) := kc_246_2 (Nat.le_of_ble_eq_true rfl) rfl
theorem f_246_506 : fe0 246 506 = some (.iconst 1, 1, 0, 0, 0, 0, 0) := kc_246_2 (Nat.le_of_ble_eq_true rfl) rfl
theorem f_246_507 : fe0 246 507 = some (.iadd, 1, 0, 0, 0, 0, 0) := kc_246_2 (Nat.le_of_ble_eq_true rfl) rfl
theorem f_246_508 : fe0 246 508 = some (.iaload, 1, 0, 0, 0, 0, 0) := kc_246_2 (Nat.le_of_ble_eq_true rfl) rfl
theorem f_246_509 : fe0 246 509 = some (.aload_n 0, 1, 0, 0, 0, 0, 0) := kc_246_2 (Nat.le_of_ble_eq_true rfl) rfl
theorem f_246_510 : fe0 246 510 = some (.iload_n 3, 1, 0, 0, 0, 0, 0) := kc_246_2 (Nat.le_of_ble_eq_true rfl) rfl
theorem f_246_511 : fe0 246 511 = some (.iconst 2, 1, 0, 0, 0, 0, 0) := kc_246_2 (Nat.le_of_ble_eq_true rfl) rfl
theorem f_246_512 : fe0 246 512 = some (.iadd, 1, 0, 0, 0, 0, 0) := kc_246_2 (Nat.le_of_ble_eq_true rfl) rfl
theorem f_246_513 : fe0 246 513 = some (.iaload, 1, 0, 0, 0, 0, 0) := kc_246_2 (Nat.le_of_ble_eq_true rfl) rfl
theorem f_246_514 : fe0 246 514 = some (.invokevirtual 47, 3, 166, 2, 0, 9, 6032) := kc_246_2 (Nat.le_of_ble_eq_true rfl) rfl
theorem f_246_517 : fe0 246 517 = some (.if_icmp .eq 903, 3, 0, 0, 0, 0, 0) := kc_246_2 (Nat.le_of_ble_eq_true rfl) rfl
theorem f_246_520 : fe0 246 520 = some (.iconst 0, 1, 0, 0, 0, 0, 0) := kc_246_2 (Nat.le_of_ble_eq_true rfl) rfl
theorem f_246_521 : fe0 246 521 = some (.ireturn, 1, 1, 0, 0, 0, 0) := kc_246_2 (Nat.le_of_ble_eq_true rfl) rfl
theorem f_246_522 : fe0 246 522 = some (.aload_n 1, 1, 0, 0, 0, 0, 0) := kc_246_2 (Nat.le_of_ble_eq_true rfl) rfl
theorem f_246_523 : fe0 246 523 = some (.aload_n 0, 1, 0, 0, 0, 0, 0) := kc_246_2 (Nat.le_of_ble_eq_true rfl) rfl
theorem f_246_524 : fe0 246 524 = some (.iload_n 3, 1, 0, 0, 0, 0, 0) := kc_246_2 (Nat.le_of_ble_eq_true rfl) rfl
theorem f_246_525 : fe0 246 525 = some (.iconst 1, 1, 0, 0, 0, 0, 0) := kc_246_2 (Nat.le_of_ble_eq_true rfl) rfl
theorem f_246_526 : fe0 246 526 = some (.iadd, 1, 0, 0, 0, 0, 0) := kc_246_2 (Nat.le_of_ble_eq_true rfl) rfl
theorem f_246_527 : fe0 246 527 = some (.iaload, 1, 0, 0, 0, 0, 0) := kc_246_2 (Nat.le_of_ble_eq_true rfl) rfl
theorem f_246_528 : fe0 246 528 = some (.invokevirtual 48, 3, 90, 1, 0, 8, 2206) := kc_246_2 (Nat.le_of_ble_eq_true rfl) rfl
theorem f_246_531 : fe0 246 531 = some (.aload_n 2, 1, 0, 0, 0, 0, 0) := kc_246_2 (Nat.le_of_ble_eq_true rfl) rfl
theorem f_246_532 : fe0 246 532 = some (.aload_n 0, 1, 0, 0, 0, 0, 0) := kc_246_2 (Nat.le_of_ble_eq_true rfl) rfl
theorem f_246_533 : fe0 246 533 = some (.iload_n 3, 1, 0, 0, 0, 0, 0) := kc_246_2 (Nat.le_of_ble_eq_true rfl) rfl
theorem f_246_534 : fe0 246 534 = some (.iconst 1, 1, 0, 0, 0, 0, 0) := kc_246_2 (Nat.le_of_ble_eq_true rfl) rfl
theorem f_246_535 : fe0 246 535 = some (.iadd, 1, 0, 0, 0, 0, 0) := kc_246_2 (Nat.le_of_ble_eq_true rfl) rfl
theorem f_246_536 : fe0 246 536 = some (.iaload, 1, 0, 0, 0, 0, 0) := kc_246_3 (Nat.le_of_ble_eq_true rfl) rfl
theorem f_246_537 : fe0 246 537 = some (.invokevirtual 52, 3, 167, 1, 0, 9, 6037) := kc_246_3 (Nat.le_of_ble_eq_true rfl) rfl
theorem f_246_540 : fe0 246 540 = some (.if_icmp .eq 880, 3, 0, 0, 0, 0, 0) := kc_246_3 (Nat.le_of_ble_eq_true rfl) rfl
theorem f_246_543 : fe0 246 543 = some (.iconst 0, 1, 0, 0, 0, 0, 0) := kc_246_3 (Nat.le_of_ble_eq_true rfl) rfl
theorem f_246_544 : fe0 246 544 = some (.ireturn, 1, 1, 0, 0, 0, 0) := kc_246_3 (Nat.le_of_ble_eq_true rfl) rfl
theorem f_246_545 : fe0 246 545 = some (.aload_n 1, 1, 0, 0, 0, 0, 0) := kc_246_3 (Nat.le_of_ble_eq_true rfl) rfl
theorem f_246_546 : fe0 246 546 = some (.aload_n 0, 1, 0, 0, 0, 0, 0) := kc_246_3 (Nat.le_of_ble_eq_true rfl) rfl
theorem f_246_547 : fe0 246 547 = some (.iload_n 3, 1, 0, 0, 0, 0, 0) := kc_246_3 (Nat.le_of_ble_eq_true rfl) rfl
theorem f_246_548 : fe0 246 548 = some (.iconst 1, 1, 0, 0, 0, 0, 0) := kc_246_3 (Nat.le_of_ble_eq_true rfl) rfl
theorem f_246_549 : fe0 246 549 = some (.iadd, 1, 0, 0, 0, 0, 0) := kc_246_3 (Nat.le_of_ble_eq_true rfl) rfl
theorem f_246_550 : fe0 246 550 = some (.iaload, 1, 0, 0, 0, 0, 0) := kc_246_3 (Nat.le_of_ble_eq_true rfl) rfl
theorem f_246_551 : fe0 246 551 = some (.invokevirtual 53, 3, 91, 1, 0, 8, 2211) := kc_246_3 (Nat.le_of_ble_eq_true rfl) rfl
theorem f_246_554 : fe0 246 554 = some (.aload_n 2, 1, 0, 0, 0, 0, 0) := kc_246_3 (Nat.le_of_ble_eq_true rfl) rfl
theorem f_246_555 : fe0 246 555 = some (.aload_n 0, 1, 0, 0, 0, 0, 0) := kc_246_3 (Nat.le_of_ble_eq_true rfl) rfl
theorem f_246_556 : fe0 246 556 = some (.iload_n 3, 1, 0, 0, 0, 0, 0) := kc_246_3 (Nat.le_of_ble_eq_true rfl) rfl
theorem f_246_557 : fe0 246 557 = some (.iconst 1, 1, 0, 0, 0, 0, 0) := kc_246_3 (Nat.le_of_ble_eq_true rfl) rfl
theorem f_246_558 : fe0 246 558 = some (.iadd, 1, 0, 0, 0, 0, 0) := kc_246_3 (Nat.le_of_ble_eq_true rfl) rfl
theorem f_246_559 : fe0 246 559 = some (.iaload, 1, 0, 0, 0, 0, 0) := kc_246_3 (Nat.le_of_ble_eq_true rfl) rfl
theorem f_246_560 : fe0 246 560 = some (.invokevirtual 56, 3, 168, 1, 0, 9, 6042) := kc_246_3 (Nat.le_of_ble_eq_true rfl) rfl
theorem f_246_563 : fe0 246 563 = some (.if_icmp .eq 857, 3, 0, 0, 0, 0, 0) := kc_246_3 (Nat.le_of_ble_eq_true rfl) rfl
theorem f_246_566 : fe0 246 566 = some (.iconst 0, 1, 0, 0, 0, 0, 0) := kc_246_3 (Nat.le_of_ble_eq_true rfl) rfl
theorem f_246_567 : fe0 246 567 = some (.ireturn, 1, 1, 0, 0, 0, 0) := kc_246_3 (Nat.le_of_ble_eq_true rfl) rfl
theorem f_246_568 : fe0 246 568 = some (.aload_n 1, 1, 0, 0, 0, 0, 0) := kc_246_3 (Nat.le_of_ble_eq_true rfl) rfl
theorem f_246_569 : fe0 246 569 = some (.aload_n 0, 1, 0, 0, 0, 0, 0) := kc_246_3 (Nat.le_of_ble_eq_true rfl) rfl
theorem f_246_570 : fe0 246 570 = some (.iload_n 3, 1, 0, 0, 0, 0, 0) := kc_246_3 (Nat.le_of_ble_eq_true rfl) rfl
theorem f_246_571 : fe0 246 571 = some (.iconst 1, 1, 0, 0, 0, 0, 0) := kc_246_3 (Nat.le_of_ble_eq_true rfl) rfl
theorem f_246_572 : fe0 246 572 = some (.iadd, 1, 0, 0, 0, 0, 0) := kc_246_3 (Nat.le_of_ble_eq_true rfl) rfl
theorem f_246_573 : fe0 246 573 = some (.iaload, 1, 0, 0, 0, 0, 0) := kc_246_3 (Nat.le_of_ble_eq_true rfl) rfl
theorem f_246_574 : fe0 246 574 = some (.invokevirtual 57, 3, 92, 1, 0, 8, 2226) := kc_246_3 (Nat.le_of_ble_eq_true rfl) rfl
theorem f_246_577 : fe0 246 577 = some (.aload_n 2, 1, 0, 0, 0, 0, 0) := kc_246_3 (Nat.le_of_ble_eq_true rfl) rfl
theorem f_246_578 : fe0 246 578 = some (.aload_n 0, 1, 0, 0, 0, 0, 0) := kc_246_3 (Nat.le_of_ble_eq_true rfl) rfl
theorem f_246_579 : fe0 246 579 = some (.iload_n 3, 1, 0, 0, 0, 0, 0) := kc_246_3 (Nat.le_of_ble_eq_true rfl) rfl
theorem f_246_580 : fe0 246 580 = some (.iconst 1, 1, 0, 0, 0, 0, 0) := kc_246_3 (Nat.le_of_ble_eq_true rfl) rfl
theorem f_246_581 : fe0 246 581 = some (.iadd, 1, 0, 0, 0, 0, 0) := kc_246_3 (Nat.le_of_ble_eq_true rfl) rfl
theorem f_246_582 : fe0 246 582 = some (.iaload, 1, 0, 0, 0, 0, 0) := kc_246_3 (Nat.le_of_ble_eq_true rfl) rfl
theorem f_246_583 : fe0 246 583 = some (.invokevirtual 60, 3, 169, 1, 0, 9, 6051) := kc_246_3 (Nat.le_of_ble_eq_true rfl) rfl
theorem f_246_586 : fe0 246 586 = some (.if_icmp .eq 834, 3, 0, 0, 0, 0, 0) := kc_246_3 (Nat.le_of_ble_eq_true rfl) rfl
theorem f_246_589 : fe0 246 589 = some (.iconst 0, 1, 0, 0, 0, 0, 0) := kc_246_3 (Nat.le_of_ble_eq_true rfl) rfl
theorem f_246_590 : fe0 246 590 = some (.ireturn, 1, 1, 0, 0, 0, 0) := kc_246_3 (Nat.le_of_ble_eq_true rfl) rfl
theorem f_246_591 : fe0 246 591 = some (.aload_n 1, 1, 0, 0, 0, 0, 0) := kc_246_3 (Nat.le_of_ble_eq_true rfl) rfl
theorem f_246_592 : fe0 246 592 = some (.invokevirtual 61, 3, 93, 0, 0, 8, 2230) := kc_246_3 (Nat.le_of_ble_eq_true rfl) rfl
theorem f_246_595 : fe0 246 595 = some (.aload_n 2, 1, 0, 0, 0, 0, 0) := kc_246_3 (Nat.le_of_ble_eq_true rfl) rfl
theorem f_246_596 : fe0 246 596 = some (.invokevirtual 65, 3, 170, 0, 0, 9, 6055) := kc_246_3 (Nat.le_of_ble_eq_true rfl) rfl
theorem f_246_599 : fe0 246 599 = some (.if_icmp .eq 821, 3, 0, 0, 0, 0, 0) := kc_246_3 (Nat.le_of_ble_eq_true rfl) rfl
theorem f_246_602 : fe0 246 602 = some (.iconst 0, 1, 0, 0, 0, 0, 0) := kc_246_3 (Nat.le_of_ble_eq_true rfl) rfl
theorem f_246_603 : fe0 246 603 = some (.ireturn, 1, 1, 0, 0, 0, 0) := kc_246_3 (Nat.le_of_ble_eq_true rfl) rfl
theorem f_246_604 : fe0 246 604 = some (.aload_n 1, 1, 0, 0, 0, 0, 0) := kc_246_3 (Nat.le_of_ble_eq_true rfl) rfl
theorem f_246_605 : fe0 246 605 = some (.invokevirtual 66, 3, 94, 0, 0, 8, 2238) := kc_246_3 (Nat.le_of_ble_eq_true rfl) rfl
theorem f_246_608 : fe0 246 608 = some (.aload_n 2, 1, 0, 0, 0, 0, 0) := kc_246_3 (Nat.le_of_ble_eq_true rfl) rfl
theorem f_246_609 : fe0 246 609 = some (.invokevirtual 69, 3, 171, 0, 0, 9, 6059) := kc_246_3 (Nat.le_of_ble_eq_true rfl) rfl
theorem f_246_612 : fe0 246 612 = some (.if_icmp .eq 808, 3, 0, 0, 0, 0, 0) := kc_246_3 (Nat.le_of_ble_eq_true rfl) rfl
theorem f_246_615 : fe0 246 615 = some (.iconst 0, 1, 0, 0, 0, 0, 0) := kc_246_3 (Nat.le_of_ble_eq_true rfl) rfl
theorem f_246_616 : fe0 246 616 = some (.ireturn, 1, 1, 0, 0, 0, 0) := kc_246_3 (Nat.le_of_ble_eq_true rfl) rfl
theorem f_246_617 : fe0 246 617 = some (.aload_n 1, 1, 0, 0, 0, 0, 0) := kc_246_3 (Nat.le_of_ble_eq_true rfl) rfl
theorem f_246_618 : fe0 246 618 = some (.invokevirtual 70, 3, 95, 0, 0, 8, 3003) := kc_246_3 (Nat.le_of_ble_eq_true rfl) rfl
theorem f_246_621 : fe0 246 621 = some (.aload_n 2, 1, 0, 0, 0, 0, 0) := kc_246_3 (Nat.le_of_ble_eq_true rfl) rfl
theorem f_246_622 : fe0 246 622 = some (.invokevirtual 73, 3, 173, 0, 0, 9, 6063) := kc_246_3 (Nat.le_of_ble_eq_true rfl) rfl
theorem f_246_625 : fe0 246 625 = some (.if_icmp .eq 795, 3, 0, 0, 0, 0, 0) := kc_246_3 (Nat.le_of_ble_eq_true rfl) rfl
theorem f_246_628 : fe0 246 628 = some (.iconst 0, 1, 0, 0, 0, 0, 0) := kc_246_3 (Nat.le_of_ble_eq_true rfl) rfl
theorem f_246_629 : fe0 246 629 = some (.ireturn, 1, 1, 0, 0, 0, 0) := kc_246_3 (Nat.le_of_ble_eq_true rfl) rfl
theorem f_246_630 : fe0 246 630 = some (.aload_n 1, 1, 0, 0, 0, 0, 0) := kc_246_3 (Nat.le_of_ble_eq_true rfl) rfl
theorem f_246_631 : fe0 246 631 = some (.aload_n 0, 1, 0, 0, 0, 0, 0) := kc_246_3 (Nat.le_of_ble_eq_true rfl) rfl
theorem f_246_632 : fe0 246 632 = some (.iload_n 3, 1, 0, 0, 0, 0, 0) := kc_246_3 (Nat.le_of_ble_eq_true rfl) rfl
theorem f_246_633 : fe0 246 633 = some (.iconst 1, 1, 0, 0, 0, 0, 0) := kc_246_3 (Nat.le_of_ble_eq_true rfl) rfl
theorem f_246_634 : fe0 246 634 = some (.iadd, 1, 0, 0, 0, 0, 0) := kc_246_3 (Nat.le_of_ble_eq_true rfl) rfl
theorem f_246_635 : fe0 246 635 = some (.iaload, 1, 0, 0, 0, 0, 0) := kc_246_3 (Nat.le_of_ble_eq_true rfl) rfl
theorem f_246_636 : fe0 246 636 = some (.invokevirtual 74, 3, 96, 1, 0, 8, 3011) := kc_246_3 (Nat.le_of_ble_eq_true rfl) rfl
theorem f_246_639 : fe0 246 639 = some (.aload_n 2, 1, 0, 0, 0, 0, 0) := kc_246_3 (Nat.le_of_ble_eq_true rfl) rfl
theorem f_246_640 : fe0 246 640 = some (.aload_n 0, 1, 0, 0, 0, 0, 0) := kc_246_3 (Nat.le_of_ble_eq_true rfl) rfl
theorem f_246_641 : fe0 246 641 = some (.iload_n 3, 1, 0, 0, 0, 0, 0) := kc_246_3 (Nat.le_of_ble_eq_true rfl) rfl
theorem f_246_642 : fe0 246 642 = some (.iconst 1, 1, 0, 0, 0, 0, 0) := kc_246_3 (Nat.le_of_ble_eq_true rfl) rfl
theorem f_246_643 : fe0 246 643 = some (.iadd, 1, 0, 0, 0, 0, 0) := kc_246_3 (Nat.le_of_ble_eq_true rfl) rfl
theorem f_246_644 : fe0 246 644 = some (.iaload, 1, 0, 0, 0, 0, 0) := kc_246_3 (Nat.le_of_ble_eq_true rfl) rfl
theorem f_246_645 : fe0 246 645 = some (.invokevirtual 77, 3, 176, 1, 0, 9, 6071) := kc_246_3 (Nat.le_of_ble_eq_true rfl) rfl
theorem f_246_648 : fe0 246 648 = some (.if_icmp .eq 772, 3, 0, 0, 0, 0, 0) := kc_246_3 (Nat.le_of_ble_eq_true rfl) rfl
theorem f_246_651 : fe0 246 651 = some (.iconst 0, 1, 0, 0, 0, 0, 0) := kc_246_3 (Nat.le_of_ble_eq_true rfl) rfl
theorem f_246_652 : fe0 246 652 = some (.ireturn, 1, 1, 0, 0, 0, 0) := kc_246_3 (Nat.le_of_ble_eq_true rfl) rfl
theorem f_246_653 : fe0 246 653 = some (.aload_n 1, 1, 0, 0, 0, 0, 0) := kc_246_3 (Nat.le_of_ble_eq_true rfl) rfl
theorem f_246_654 : fe0 246 654 = some (.aload_n 0, 1, 0, 0, 0, 0, 0) := kc_246_3 (Nat.le_of_ble_eq_true rfl) rfl
theorem f_246_655 : fe0 246 655 = some (.iload_n 3, 1, 0, 0, 0, 0, 0) := kc_246_3 (Nat.le_of_ble_eq_true rfl) rfl
theorem f_246_656 : fe0 246 656 = some (.iconst 1, 1, 0, 0, 0, 0, 0) := kc_246_3 (Nat.le_of_ble_eq_true rfl) rfl
theorem f_246_657 : fe0 246 657 = some (.iadd, 1, 0, 0, 0, 0, 0) := kc_246_3 (Nat.le_of_ble_eq_true rfl) rfl
theorem f_246_658 : fe0 246 658 = some (.iaload, 1, 0, 0, 0, 0, 0) := kc_246_3 (Nat.le_of_ble_eq_true rfl) rfl
theorem f_246_659 : fe0 246 659 = some (.aload_n 0, 1, 0, 0, 0, 0, 0) := kc_246_3 (Nat.le_of_ble_eq_true rfl) rfl
theorem f_246_660 : fe0 246 660 = some (.iload_n 3, 1, 0, 0, 0, 0, 0) := kc_246_3 (Nat.le_of_ble_eq_true rfl) rfl
theorem f_246_661 : fe0 246 661 = some (.iconst 2, 1, 0, 0, 0, 0, 0) := kc_246_3 (Nat.le_of_ble_eq_true rfl) rfl
theorem f_246_662 : fe0 246 662 = some (.iadd, 1, 0, 0, 0, 0, 0) := kc_246_3 (Nat.le_of_ble_eq_true rfl) rfl
theorem f_246_663 : fe0 246 663 = some (.iaload, 1, 0, 0, 0, 0, 0) := kc_246_3 (Nat.le_of_ble_eq_true rfl) rfl
theorem f_246_664 : fe0 246 664 = some (.aload_n 0, 1, 0, 0, 0, 0, 0) := kc_246_3 (Nat.le_of_ble_eq_true rfl) rfl
theorem f_246_665 : fe0 246 665 = some (.iload_n 3, 1, 0, 0, 0, 0, 0) := kc_246_3 (Nat.le_of_ble_eq_true rfl) rfl
theorem f_246_666 : fe0 246 666 = some (.iconst 3, 1, 0, 0, 0, 0, 0) := kc_246_3 (Nat.le_of_ble_eq_true rfl) rfl
theorem f_246_667 : fe0 246 667 = some (.iadd, 1, 0, 0, 0, 0, 0) := kc_246_3 (Nat.le_of_ble_eq_true rfl) rfl
theorem f_246_668 : fe0 246 668 = some (.iaload, 1, 0, 0, 0, 0, 0) := kc_246_3 (Nat.le_of_ble_eq_true rfl) rfl
theorem f_246_669 : fe0 246 669 = some (.invokevirtual 78, 3, 97, 3, 0, 8, 3033) := kc_246_3 (Nat.le_of_ble_eq_true rfl) rfl
theorem f_246_672 : fe0 246 672 = some (.aload_n 2, 1, 0, 0, 0, 0, 0) := kc_246_3 (Nat.le_of_ble_eq_true rfl) rfl
theorem f_246_673 : fe0 246 673 = some (.aload_n 0, 1, 0, 0, 0, 0, 0) := kc_246_3 (Nat.le_of_ble_eq_true rfl) rfl
theorem f_246_674 : fe0 246 674 = some (.iload_n 3, 1, 0, 0, 0, 0, 0) := kc_246_3 (Nat.le_of_ble_eq_true rfl) rfl
theorem f_246_675 : fe0 246 675 = some (.iconst 1, 1, 0, 0, 0, 0, 0) := kc_246_3 (Nat.le_of_ble_eq_true rfl) rfl
theorem f_246_676 : fe0 246 676 = some (.iadd, 1, 0, 0, 0, 0, 0) := kc_246_3 (Nat.le_of_ble_eq_true rfl) rfl
theorem f_246_677 : fe0 246 677 = some (.iaload, 1, 0, 0, 0, 0, 0) := kc_246_3 (Nat.le_of_ble_eq_true rfl) rfl
theorem f_246_678 : fe0 246 678 = some (.aload_n 0, 1, 0, 0, 0, 0, 0) := kc_246_4 (Nat.le_of_ble_eq_true rfl) rfl
theorem f_246_679 : fe0 246 679 = some (.iload_n 3, 1, 0, 0, 0, 0, 0) := kc_246_4 (Nat.le_of_ble_eq_true rfl) rfl
theorem f_246_680 : fe0 246 680 = some (.iconst 2, 1, 0, 0, 0, 0, 0) := kc_246_4 (Nat.le_of_ble_eq_true rfl) rfl
theorem f_246_681 : fe0 246 681 = some (.iadd, 1, 0, 0, 0, 0, 0) := kc_246_4 (Nat.le_of_ble_eq_true rfl) rfl
theorem f_246_682 : fe0 246 682 = some (.iaload, 1, 0, 0, 0, 0, 0) := kc_246_4 (Nat.le_of_ble_eq_true rfl) rfl
theorem f_246_683 : fe0 246 683 = some (.aload_n 0, 1, 0, 0, 0, 0, 0) := kc_246_4 (Nat.le_of_ble_eq_true rfl) rfl
theorem f_246_684 : fe0 246 684 = some (.iload_n 3, 1, 0, 0, 0, 0, 0) := kc_246_4 (Nat.le_of_ble_eq_true rfl) rfl
theorem f_246_685 : fe0 246 685 = some (.iconst 3, 1, 0, 0, 0, 0, 0) := kc_246_4 (Nat.le_of_ble_eq_true rfl) rfl
theorem f_246_686 : fe0 246 686 = some (.iadd, 1, 0, 0, 0, 0, 0) := kc_246_4 (Nat.le_of_ble_eq_true rfl) rfl
theorem f_246_687 : fe0 246 687 = some (.iaload, 1, 0, 0, 0, 0, 0) := kc_246_4 (Nat.le_of_ble_eq_true rfl) rfl
theorem f_246_688 : fe0 246 688 = some (.invokevirtual 81, 3, 177, 3, 0, 9, 6084) := kc_246_4 (Nat.le_of_ble_eq_true rfl) rfl
theorem f_246_691 : fe0 246 691 = some (.if_icmp .eq 729, 3, 0, 0, 0, 0, 0) := kc_246_4 (Nat.le_of_ble_eq_true rfl) rfl
theorem f_246_694 : fe0 246 694 = some (.iconst 0, 1, 0, 0, 0, 0, 0) := kc_246_4 (Nat.le_of_ble_eq_true rfl) rfl
theorem f_246_695 : fe0 246 695 = some (.ireturn, 1, 1, 0, 0, 0, 0) := kc_246_4 (Nat.le_of_ble_eq_true rfl) rfl
theorem f_246_696 : fe0 246 696 = some (.aload_n 1, 1, 0, 0, 0, 0, 0) := kc_246_4 (Nat.le_of_ble_eq_true rfl) rfl
theorem f_246_697 : fe0 246 697 = some (.aload_n 0, 1, 0, 0, 0, 0, 0) := kc_246_4 (Nat.le_of_ble_eq_true rfl) rfl
theorem f_246_698 : fe0 246 698 = some (.iload_n 3, 1, 0, 0, 0, 0, 0) := kc_246_4 (Nat.le_of_ble_eq_true rfl) rfl
theorem f_246_699 : fe0 246 699 = some (.iconst 1, 1, 0, 0, 0, 0, 0) := kc_246_4 (Nat.le_of_ble_eq_true rfl) rfl
theorem f_246_700 : fe0 246 700 = some (.iadd, 1, 0, 0, 0, 0, 0) := kc_246_4 (Nat.le_of_ble_eq_true rfl) rfl
theorem f_246_701 : fe0 246 701 = some (.iaload, 1, 0, 0, 0, 0, 0) := kc_246_4 (Nat.le_of_ble_eq_true rfl) rfl
theorem f_246_702 : fe0 246 702 = some (.aload_n 0, 1, 0, 0, 0, 0, 0) := kc_246_4 (Nat.le_of_ble_eq_true rfl) rfl
theorem f_246_703 : fe0 246 703 = some (.iload_n 3, 1, 0, 0, 0, 0, 0) := kc_246_4 (Nat.le_of_ble_eq_true rfl) rfl
theorem f_246_704 : fe0 246 704 = some (.iconst 2, 1, 0, 0, 0, 0, 0) := kc_246_4 (Nat.le_of_ble_eq_true rfl) rfl
theorem f_246_705 : fe0 246 705 = some (.iadd, 1, 0, 0, 0, 0, 0) := kc_246_4 (Nat.le_of_ble_eq_true rfl) rfl
theorem f_246_706 : fe0 246 706 = some (.iaload, 1, 0, 0, 0, 0, 0) := kc_246_4 (Nat.le_of_ble_eq_true rfl) rfl
theorem f_246_707 : fe0 246 707 = some (.invokevirtual 82, 3, 98, 2, 0, 8, 3037) := kc_246_4 (Nat.le_of_ble_eq_true rfl) rfl
theorem f_246_710 : fe0 246 710 = some (.aload_n 2, 1, 0, 0, 0, 0, 0) := kc_246_4 (Nat.le_of_ble_eq_true rfl) rfl
theorem f_246_711 : fe0 246 711 = some (.aload_n 0, 1, 0, 0, 0, 0, 0) := kc_246_4 (Nat.le_of_ble_eq_true rfl) rfl
theorem f_246_712 : fe0 246 712 = some (.iload_n 3, 1, 0, 0, 0, 0, 0) := kc_246_4 (Nat.le_of_ble_eq_true rfl) rfl
theorem f_246_713 : fe0 246 713 = some (.iconst 1, 1, 0, 0, 0, 0, 0) := kc_246_4 (Nat.le_of_ble_eq_true rfl) rfl
theorem f_246_714 : fe0 246 714 = some (.iadd, 1, 0, 0, 0, 0, 0) := kc_246_4 (Nat.le_of_ble_eq_true rfl) rfl
theorem f_246_715 : fe0 246 715 = some (.iaload, 1, 0, 0, 0, 0, 0) := kc_246_4 (Nat.le_of_ble_eq_true rfl) rfl
theorem f_246_716 : fe0 246 716 = some (.aload_n 0, 1, 0, 0, 0, 0, 0) := kc_246_4 (Nat.le_of_ble_eq_true rfl) rfl
theorem f_246_717 : fe0 246 717 = some (.iload_n 3, 1, 0, 0, 0, 0, 0) := kc_246_4 (Nat.le_of_ble_eq_true rfl) rfl
theorem f_246_718 : fe0 246 718 = some (.iconst 2, 1, 0, 0, 0, 0, 0) := kc_246_4 (Nat.le_of_ble_eq_true rfl) rfl
theorem f_246_719 : fe0 246 719 = some (.iadd, 1, 0, 0, 0, 0, 0) := kc_246_4 (Nat.le_of_ble_eq_true rfl) rfl
theorem f_246_720 : fe0 246 720 = some (.iaload, 1, 0, 0, 0, 0, 0) := kc_246_4 (Nat.le_of_ble_eq_true rfl) rfl
theorem f_246_721 : fe0 246 721 = some (.invokevirtual 86, 3, 183, 2, 0, 9, 6089) := kc_246_4 (Nat.le_of_ble_eq_true rfl) rfl
theorem f_246_724 : fe0 246 724 = some (.lcmp, 1, 0, 0, 0, 0, 0) := kc_246_4 (Nat.le_of_ble_eq_true rfl) rfl
theorem f_246_725 : fe0 246 725 = some (.ifCond .eq 695, 3, 0, 0, 0, 0, 0) := kc_246_4 (Nat.le_of_ble_eq_true rfl) rfl
theorem f_246_728 : fe0 246 728 = some (.iconst 0, 1, 0, 0, 0, 0, 0) := kc_246_4 (Nat.le_of_ble_eq_true rfl) rfl
theorem f_246_729 : fe0 246 729 = some (.ireturn, 1, 1, 0, 0, 0, 0) := kc_246_4 (Nat.le_of_ble_eq_true rfl) rfl
theorem f_246_730 : fe0 246 730 = some (.aload_n 1, 1, 0, 0, 0, 0, 0) := kc_246_4 (Nat.le_of_ble_eq_true rfl) rfl
theorem f_246_731 : fe0 246 731 = some (.aload_n 0, 1, 0, 0, 0, 0, 0) := kc_246_4 (Nat.le_of_ble_eq_true rfl) rfl
theorem f_246_732 : fe0 246 732 = some (.iload_n 3, 1, 0, 0, 0, 0, 0) := kc_246_4 (Nat.le_of_ble_eq_true rfl) rfl
theorem f_246_733 : fe0 246 733 = some (.iconst 1, 1, 0, 0, 0, 0, 0) := kc_246_4 (Nat.le_of_ble_eq_true rfl) rfl
theorem f_246_734 : fe0 246 734 = some (.iadd, 1, 0, 0, 0, 0, 0) := kc_246_4 (Nat.le_of_ble_eq_true rfl) rfl
theorem f_246_735 : fe0 246 735 = some (.iaload, 1, 0, 0, 0, 0, 0) := kc_246_4 (Nat.le_of_ble_eq_true rfl) rfl
theorem f_246_736 : fe0 246 736 = some (.invokevirtual 87, 3, 99, 1, 0, 8, 3075) := kc_246_4 (Nat.le_of_ble_eq_true rfl) rfl
theorem f_246_739 : fe0 246 739 = some (.aload_n 2, 1, 0, 0, 0, 0, 0) := kc_246_4 (Nat.le_of_ble_eq_true rfl) rfl
theorem f_246_740 : fe0 246 740 = some (.aload_n 0, 1, 0, 0, 0, 0, 0) := kc_246_4 (Nat.le_of_ble_eq_true rfl) rfl
theorem f_246_741 : fe0 246 741 = some (.iload_n 3, 1, 0, 0, 0, 0, 0) := kc_246_4 (Nat.le_of_ble_eq_true rfl) rfl
theorem f_246_742 : fe0 246 742 = some (.iconst 1, 1, 0, 0, 0, 0, 0) := kc_246_4 (Nat.le_of_ble_eq_true rfl) rfl
theorem f_246_743 : fe0 246 743 = some (.iadd, 1, 0, 0, 0, 0, 0) := kc_246_4 (Nat.le_of_ble_eq_true rfl) rfl
theorem f_246_744 : fe0 246 744 = some (.iaload, 1, 0, 0, 0, 0, 0) := kc_246_4 (Nat.le_of_ble_eq_true rfl) rfl
theorem f_246_745 : fe0 246 745 = some (.invokevirtual 90, 3, 185, 1, 0, 9, 6113) := kc_246_4 (Nat.le_of_ble_eq_true rfl) rfl
theorem f_246_748 : fe0 246 748 = some (.if_icmp .eq 672, 3, 0, 0, 0, 0, 0) := kc_246_4 (Nat.le_of_ble_eq_true rfl) rfl
theorem f_246_751 : fe0 246 751 = some (.iconst 0, 1, 0, 0, 0, 0, 0) := kc_246_4 (Nat.le_of_ble_eq_true rfl) rfl
theorem f_246_752 : fe0 246 752 = some (.ireturn, 1, 1, 0, 0, 0, 0) := kc_246_4 (Nat.le_of_ble_eq_true rfl) rfl
theorem f_246_753 : fe0 246 753 = some (.aload_n 1, 1, 0, 0, 0, 0, 0) := kc_246_4 (Nat.le_of_ble_eq_true rfl) rfl
theorem f_246_754 : fe0 246 754 = some (.aload_n 0, 1, 0, 0, 0, 0, 0) := kc_246_4 (Nat.le_of_ble_eq_true rfl) rfl
theorem f_246_755 : fe0 246 755 = some (.iload_n 3, 1, 0, 0, 0, 0, 0) := kc_246_4 (Nat.le_of_ble_eq_true rfl) rfl
theorem f_246_756 : fe0 246 756 = some (.iconst 1, 1, 0, 0, 0, 0, 0) := kc_246_4 (Nat.le_of_ble_eq_true rfl) rfl
theorem f_246_757 : fe0 246 757 = some (.iadd, 1, 0, 0, 0, 0, 0) := kc_246_4 (Nat.le_of_ble_eq_true rfl) rfl
theorem f_246_758 : fe0 246 758 = some (.iaload, 1, 0, 0, 0, 0, 0) := kc_246_4 (Nat.le_of_ble_eq_true rfl) rfl
theorem f_246_759 : fe0 246 759 = some (.invokevirtual 91, 3, 100, 1, 0, 8, 3085) := kc_246_4 (Nat.le_of_ble_eq_true rfl) rfl
theorem f_246_762 : fe0 246 762 = some (.aload_n 2, 1, 0, 0, 0, 0, 0) := kc_246_4 (Nat.le_of_ble_eq_true rfl) rfl
theorem f_246_763 : fe0 246 763 = some (.aload_n 0, 1, 0, 0, 0, 0, 0) := kc_246_4 (Nat.le_of_ble_eq_true rfl) rfl
theorem f_246_764 : fe0 246 764 = some (.iload_n 3, 1, 0, 0, 0, 0, 0) := kc_246_4 (Nat.le_of_ble_eq_true rfl) rfl
theorem f_246_765 : fe0 246 765 = some (.iconst 1, 1, 0, 0, 0, 0, 0) := kc_246_4 (Nat.le_of_ble_eq_true rfl) rfl
theorem f_246_766 : fe0 246 766 = some (.iadd, 1, 0, 0, 0, 0, 0) := kc_246_4 (Nat.le_of_ble_eq_true rfl) rfl
theorem f_246_767 : fe0 246 767 = some (.iaload, 1, 0, 0, 0, 0, 0) := kc_246_4 (Nat.le_of_ble_eq_true rfl) rfl
theorem f_246_768 : fe0 246 768 = some (.invokevirtual 95, 3, 186, 1, 0, 9, 6122) := kc_246_4 (Nat.le_of_ble_eq_true rfl) rfl
theorem f_246_771 : fe0 246 771 = some (.lcmp, 1, 0, 0, 0, 0, 0) := kc_246_4 (Nat.le_of_ble_eq_true rfl) rfl
theorem f_246_772 : fe0 246 772 = some (.ifCond .eq 648, 3, 0, 0, 0, 0, 0) := kc_246_4 (Nat.le_of_ble_eq_true rfl) rfl
theorem f_246_775 : fe0 246 775 = some (.iconst 0, 1, 0, 0, 0, 0, 0) := kc_246_4 (Nat.le_of_ble_eq_true rfl) rfl
theorem f_246_776 : fe0 246 776 = some (.ireturn, 1, 1, 0, 0, 0, 0) := kc_246_4 (Nat.le_of_ble_eq_true rfl) rfl
theorem f_246_777 : fe0 246 777 = some (.aload_n 1, 1, 0, 0, 0, 0, 0) := kc_246_4 (Nat.le_of_ble_eq_true rfl) rfl
theorem f_246_778 : fe0 246 778 = some (.aload_n 0, 1, 0, 0, 0, 0, 0) := kc_246_4 (Nat.le_of_ble_eq_true rfl) rfl
theorem f_246_779 : fe0 246 779 = some (.iload_n 3, 1, 0, 0, 0, 0, 0) := kc_246_4 (Nat.le_of_ble_eq_true rfl) rfl
theorem f_246_780 : fe0 246 780 = some (.iconst 1, 1, 0, 0, 0, 0, 0) := kc_246_4 (Nat.le_of_ble_eq_true rfl) rfl
theorem f_246_781 : fe0 246 781 = some (.iadd, 1, 0, 0, 0, 0, 0) := kc_246_4 (Nat.le_of_ble_eq_true rfl) rfl
theorem f_246_782 : fe0 246 782 = some (.iaload, 1, 0, 0, 0, 0, 0) := kc_246_4 (Nat.le_of_ble_eq_true rfl) rfl
theorem f_246_783 : fe0 246 783 = some (.aload_n 0, 1, 0, 0, 0, 0, 0) := kc_246_4 (Nat.le_of_ble_eq_true rfl) rfl
theorem f_246_784 : fe0 246 784 = some (.iload_n 3, 1, 0, 0, 0, 0, 0) := kc_246_4 (Nat.le_of_ble_eq_true rfl) rfl
theorem f_246_785 : fe0 246 785 = some (.iconst 2, 1, 0, 0, 0, 0, 0) := kc_246_4 (Nat.le_of_ble_eq_true rfl) rfl
theorem f_246_786 : fe0 246 786 = some (.iadd, 1, 0, 0, 0, 0, 0) := kc_246_4 (Nat.le_of_ble_eq_true rfl) rfl
theorem f_246_787 : fe0 246 787 = some (.iaload, 1, 0, 0, 0, 0, 0) := kc_246_4 (Nat.le_of_ble_eq_true rfl) rfl
theorem f_246_788 : fe0 246 788 = some (.invokevirtual 96, 3, 101, 2, 0, 8, 3093) := kc_246_4 (Nat.le_of_ble_eq_true rfl) rfl
theorem f_246_791 : fe0 246 791 = some (.aload_n 2, 1, 0, 0, 0, 0, 0) := kc_246_4 (Nat.le_of_ble_eq_true rfl) rfl
theorem f_246_792 : fe0 246 792 = some (.aload_n 0, 1, 0, 0, 0, 0, 0) := kc_246_4 (Nat.le_of_ble_eq_true rfl) rfl
theorem f_246_793 : fe0 246 793 = some (.iload_n 3, 1, 0, 0, 0, 0, 0) := kc_246_4 (Nat.le_of_ble_eq_true rfl) rfl
theorem f_246_794 : fe0 246 794 = some (.iconst 1, 1, 0, 0, 0, 0, 0) := kc_246_4 (Nat.le_of_ble_eq_true rfl) rfl
theorem f_246_795 : fe0 246 795 = some (.iadd, 1, 0, 0, 0, 0, 0) := kc_246_4 (Nat.le_of_ble_eq_true rfl) rfl
theorem f_246_796 : fe0 246 796 = some (.iaload, 1, 0, 0, 0, 0, 0) := kc_246_4 (Nat.le_of_ble_eq_true rfl) rfl
theorem f_246_797 : fe0 246 797 = some (.aload_n 0, 1, 0, 0, 0, 0, 0) := kc_246_4 (Nat.le_of_ble_eq_true rfl) rfl
theorem f_246_798 : fe0 246 798 = some (.iload_n 3, 1, 0, 0, 0, 0, 0) := kc_246_4 (Nat.le_of_ble_eq_true rfl) rfl
theorem f_246_799 : fe0 246 799 = some (.iconst 2, 1, 0, 0, 0, 0, 0) := kc_246_4 (Nat.le_of_ble_eq_true rfl) rfl
theorem f_246_800 : fe0 246 800 = some (.iadd, 1, 0, 0, 0, 0, 0) := kc_246_4 (Nat.le_of_ble_eq_true rfl) rfl
theorem f_246_801 : fe0 246 801 = some (.iaload, 1, 0, 0, 0, 0, 0) := kc_246_4 (Nat.le_of_ble_eq_true rfl) rfl
theorem f_246_802 : fe0 246 802 = some (.invokevirtual 99, 3, 188, 2, 0, 9, 6126) := kc_246_5 (Nat.le_of_ble_eq_true rfl) rfl
theorem f_246_805 : fe0 246 805 = some (.if_icmp .eq 615, 3, 0, 0, 0, 0, 0) := kc_246_5 (Nat.le_of_ble_eq_true rfl) rfl
theorem f_246_808 : fe0 246 808 = some (.iconst 0, 1, 0, 0, 0, 0, 0) := kc_246_5 (Nat.le_of_ble_eq_true rfl) rfl
theorem f_246_809 : fe0 246 809 = some (.ireturn, 1, 1, 0, 0, 0, 0) := kc_246_5 (Nat.le_of_ble_eq_true rfl) rfl
theorem f_246_810 : fe0 246 810 = some (.aload_n 1, 1, 0, 0, 0, 0, 0) := kc_246_5 (Nat.le_of_ble_eq_true rfl) rfl
theorem f_246_811 : fe0 246 811 = some (.aload_n 0, 1, 0, 0, 0, 0, 0) := kc_246_5 (Nat.le_of_ble_eq_true rfl) rfl
theorem f_246_812 : fe0 246 812 = some (.iload_n 3, 1, 0, 0, 0, 0, 0) := kc_246_5 (Nat.le_of_ble_eq_true rfl) rfl
theorem f_246_813 : fe0 246 813 = some (.iconst 1, 1, 0, 0, 0, 0, 0) := kc_246_5 (Nat.le_of_ble_eq_true rfl) rfl
theorem f_246_814 : fe0 246 814 = some (.iadd, 1, 0, 0, 0, 0, 0) := kc_246_5 (Nat.le_of_ble_eq_true rfl) rfl
theorem f_246_815 : fe0 246 815 = some (.iaload, 1, 0, 0, 0, 0, 0) := kc_246_5 (Nat.le_of_ble_eq_true rfl) rfl
theorem f_246_816 : fe0 246 816 = some (.invokevirtual 100, 3, 102, 1, 0, 8, 3103) := kc_246_5 (Nat.le_of_ble_eq_true rfl) rfl
theorem f_246_819 : fe0 246 819 = some (.aload_n 2, 1, 0, 0, 0, 0, 0) := kc_246_5 (Nat.le_of_ble_eq_true rfl) rfl
theorem f_246_820 : fe0 246 820 = some (.aload_n 0, 1, 0, 0, 0, 0, 0) := kc_246_5 (Nat.le_of_ble_eq_true rfl) rfl
theorem f_246_821 : fe0 246 821 = some (.iload_n 3, 1, 0, 0, 0, 0, 0) := kc_246_5 (Nat.le_of_ble_eq_true rfl) rfl
theorem f_246_822 : fe0 246 822 = some (.iconst 1, 1, 0, 0, 0, 0, 0) := kc_246_5 (Nat.le_of_ble_eq_true rfl) rfl
theorem f_246_823 : fe0 246 823 = some (.iadd, 1, 0, 0, 0, 0, 0) := kc_246_5 (Nat.le_of_ble_eq_true rfl) rfl
theorem f_246_824 : fe0 246 824 = some (.iaload, 1, 0, 0, 0, 0, 0) := kc_246_5 (Nat.le_of_ble_eq_true rfl) rfl
theorem f_246_825 : fe0 246 825 = some (.invokevirtual 103, 3, 189, 1, 0, 9, 6135) := kc_246_5 (Nat.le_of_ble_eq_true rfl) rfl
theorem f_246_828 : fe0 246 828 = some (.if_icmp .eq 592, 3, 0, 0, 0, 0, 0) := kc_246_5 (Nat.le_of_ble_eq_true rfl) rfl
theorem f_246_831 : fe0 246 831 = some (.iconst 0, 1, 0, 0, 0, 0, 0) := kc_246_5 (Nat.le_of_ble_eq_true rfl) rfl
theorem f_246_832 : fe0 246 832 = some (.ireturn, 1, 1, 0, 0, 0, 0) := kc_246_5 (Nat.le_of_ble_eq_true rfl) rfl
theorem f_246_833 : fe0 246 833 = some (.aload_n 1, 1, 0, 0, 0, 0, 0) := kc_246_5 (Nat.le_of_ble_eq_true rfl) rfl
theorem f_246_834 : fe0 246 834 = some (.aload_n 0, 1, 0, 0, 0, 0, 0) := kc_246_5 (Nat.le_of_ble_eq_true rfl) rfl
theorem f_246_835 : fe0 246 835 = some (.iload_n 3, 1, 0, 0, 0, 0, 0) := kc_246_5 (Nat.le_of_ble_eq_true rfl) rfl
theorem f_246_836 : fe0 246 836 = some (.iconst 1, 1, 0, 0, 0, 0, 0) := kc_246_5 (Nat.le_of_ble_eq_true rfl) rfl
theorem f_246_837 : fe0 246 837 = some (.iadd, 1, 0, 0, 0, 0, 0) := kc_246_5 (Nat.le_of_ble_eq_true rfl) rfl
theorem f_246_838 : fe0 246 838 = some (.iaload, 1, 0, 0, 0, 0, 0) := kc_246_5 (Nat.le_of_ble_eq_true rfl) rfl
theorem f_246_839 : fe0 246 839 = some (.aload_n 0, 1, 0, 0, 0, 0, 0) := kc_246_5 (Nat.le_of_ble_eq_true rfl) rfl
theorem f_246_840 : fe0 246 840 = some (.iload_n 3, 1, 0, 0, 0, 0, 0) := kc_246_5 (Nat.le_of_ble_eq_true rfl) rfl
theorem f_246_841 : fe0 246 841 = some (.iconst 2, 1, 0, 0, 0, 0, 0) := kc_246_5 (Nat.le_of_ble_eq_true rfl) rfl
theorem f_246_842 : fe0 246 842 = some (.iadd, 1, 0, 0, 0, 0, 0) := kc_246_5 (Nat.le_of_ble_eq_true rfl) rfl
theorem f_246_843 : fe0 246 843 = some (.iaload, 1, 0, 0, 0, 0, 0) := kc_246_5 (Nat.le_of_ble_eq_true rfl) rfl
theorem f_246_844 : fe0 246 844 = some (.aload_n 0, 1, 0, 0, 0, 0, 0) := kc_246_5 (Nat.le_of_ble_eq_true rfl) rfl
theorem f_246_845 : fe0 246 845 = some (.iload_n 3, 1, 0, 0, 0, 0, 0) := kc_246_5 (Nat.le_of_ble_eq_true rfl) rfl
theorem f_246_846 : fe0 246 846 = some (.iconst 3, 1, 0, 0, 0, 0, 0) := kc_246_5 (Nat.le_of_ble_eq_true rfl) rfl
theorem f_246_847 : fe0 246 847 = some (.iadd, 1, 0, 0, 0, 0, 0) := kc_246_5 (Nat.le_of_ble_eq_true rfl) rfl
theorem f_246_848 : fe0 246 848 = some (.iaload, 1, 0, 0, 0, 0, 0) := kc_246_5 (Nat.le_of_ble_eq_true rfl) rfl
theorem f_246_849 : fe0 246 849 = some (.invokevirtual 104, 3, 103, 3, 0, 8, 3111) := kc_246_5 (Nat.le_of_ble_eq_true rfl) rfl
theorem f_246_852 : fe0 246 852 = some (.aload_n 2, 1, 0, 0, 0, 0, 0) := kc_246_5 (Nat.le_of_ble_eq_true rfl) rfl
theorem f_246_853 : fe0 246 853 = some (.aload_n 0, 1, 0, 0, 0, 0, 0) := kc_246_5 (Nat.le_of_ble_eq_true rfl) rfl
theorem f_246_854 : fe0 246 854 = some (.iload_n 3, 1, 0, 0, 0, 0, 0) := kc_246_5 (Nat.le_of_ble_eq_true rfl) rfl
theorem f_246_855 : fe0 246 855 = some (.iconst 1, 1, 0, 0, 0, 0, 0) := kc_246_5 (Nat.le_of_ble_eq_true rfl) rfl
theorem f_246_856 : fe0 246 856 = some (.iadd, 1, 0, 0, 0, 0, 0) := kc_246_5 (Nat.le_of_ble_eq_true rfl) rfl
theorem f_246_857 : fe0 246 857 = some (.iaload, 1, 0, 0, 0, 0, 0) := kc_246_5 (Nat.le_of_ble_eq_true rfl) rfl
theorem f_246_858 : fe0 246 858 = some (.aload_n 0, 1, 0, 0, 0, 0, 0) := kc_246_5 (Nat.le_of_ble_eq_true rfl) rfl
theorem f_246_859 : fe0 246 859 = some (.iload_n 3, 1, 0, 0, 0, 0, 0) := kc_246_5 (Nat.le_of_ble_eq_true rfl) rfl
theorem f_246_860 : fe0 246 860 = some (.iconst 2, 1, 0, 0, 0, 0, 0) := kc_246_5 (Nat.le_of_ble_eq_true rfl) rfl
theorem f_246_861 : fe0 246 861 = some (.iadd, 1, 0, 0, 0, 0, 0) := kc_246_5 (Nat.le_of_ble_eq_true rfl) rfl
theorem f_246_862 : fe0 246 862 = some (.iaload, 1, 0, 0, 0, 0, 0) := kc_246_5 (Nat.le_of_ble_eq_true rfl) rfl
theorem f_246_863 : fe0 246 863 = some (.aload_n 0, 1, 0, 0, 0, 0, 0) := kc_246_5 (Nat.le_of_ble_eq_true rfl) rfl
theorem f_246_864 : fe0 246 864 = some (.iload_n 3, 1, 0, 0, 0, 0, 0) := kc_246_5 (Nat.le_of_ble_eq_true rfl) rfl
theorem f_246_865 : fe0 246 865 = some (.iconst 3, 1, 0, 0, 0, 0, 0) := kc_246_5 (Nat.le_of_ble_eq_true rfl) rfl
theorem f_246_866 : fe0 246 866 = some (.iadd, 1, 0, 0, 0, 0, 0) := kc_246_5 (Nat.le_of_ble_eq_true rfl) rfl
theorem f_246_867 : fe0 246 867 = some (.iaload, 1, 0, 0, 0, 0, 0) := kc_246_5 (Nat.le_of_ble_eq_true rfl) rfl
theorem f_246_868 : fe0 246 868 = some (.invokevirtual 107, 3, 190, 3, 0, 9, 6139) := kc_246_5 (Nat.le_of_ble_eq_true rfl) rfl
theorem f_246_871 : fe0 246 871 = some (.if_icmp .eq 549, 3, 0, 0, 0, 0, 0) := kc_246_5 (Nat.le_of_ble_eq_true rfl) rfl
theorem f_246_874 : fe0 246 874 = some (.iconst 0, 1, 0, 0, 0, 0, 0) := kc_246_5 (Nat.le_of_ble_eq_true rfl) rfl
theorem f_246_875 : fe0 246 875 = some (.ireturn, 1, 1, 0, 0, 0, 0) := kc_246_5 (Nat.le_of_ble_eq_true rfl) rfl
theorem f_246_876 : fe0 246 876 = some (.aload_n 1, 1, 0, 0, 0, 0, 0) := kc_246_5 (Nat.le_of_ble_eq_true rfl) rfl
theorem f_246_877 : fe0 246 877 = some (.aload_n 0, 1, 0, 0, 0, 0, 0) := kc_246_5 (Nat.le_of_ble_eq_true rfl) rfl
theorem f_246_878 : fe0 246 878 = some (.iload_n 3, 1, 0, 0, 0, 0, 0) := kc_246_5 (Nat.le_of_ble_eq_true rfl) rfl
theorem f_246_879 : fe0 246 879 = some (.iconst 1, 1, 0, 0, 0, 0, 0) := kc_246_5 (Nat.le_of_ble_eq_true rfl) rfl
theorem f_246_880 : fe0 246 880 = some (.iadd, 1, 0, 0, 0, 0, 0) := kc_246_5 (Nat.le_of_ble_eq_true rfl) rfl
theorem f_246_881 : fe0 246 881 = some (.iaload, 1, 0, 0, 0, 0, 0) := kc_246_5 (Nat.le_of_ble_eq_true rfl) rfl
theorem f_246_882 : fe0 246 882 = some (.invokevirtual 108, 3, 104, 1, 0, 8, 3120) := kc_246_5 (Nat.le_of_ble_eq_true rfl) rfl
theorem f_246_885 : fe0 246 885 = some (.aload_n 2, 1, 0, 0, 0, 0, 0) := kc_246_5 (Nat.le_of_ble_eq_true rfl) rfl
theorem f_246_886 : fe0 246 886 = some (.aload_n 0, 1, 0, 0, 0, 0, 0) := kc_246_5 (Nat.le_of_ble_eq_true rfl) rfl
theorem f_246_887 : fe0 246 887 = some (.iload_n 3, 1, 0, 0, 0, 0, 0) := kc_246_5 (Nat.le_of_ble_eq_true rfl) rfl
theorem f_246_888 : fe0 246 888 = some (.iconst 1, 1, 0, 0, 0, 0, 0) := kc_246_5 (Nat.le_of_ble_eq_true rfl) rfl
theorem f_246_889 : fe0 246 889 = some (.iadd, 1, 0, 0, 0, 0, 0) := kc_246_5 (Nat.le_of_ble_eq_true rfl) rfl
theorem f_246_890 : fe0 246 890 = some (.iaload, 1, 0, 0, 0, 0, 0) := kc_246_5 (Nat.le_of_ble_eq_true rfl) rfl
theorem f_246_891 : fe0 246 891 = some (.invokevirtual 111, 3, 191, 1, 0, 9, 6143) := kc_246_5 (Nat.le_of_ble_eq_true rfl) rfl
theorem f_246_894 : fe0 246 894 = some (.if_icmp .eq 526, 3, 0, 0, 0, 0, 0) := kc_246_5 (Nat.le_of_ble_eq_true rfl) rfl
theorem f_246_897 : fe0 246 897 = some (.iconst 0, 1, 0, 0, 0, 0, 0) := kc_246_5 (Nat.le_of_ble_eq_true rfl) rfl
theorem f_246_898 : fe0 246 898 = some (.ireturn, 1, 1, 0, 0, 0, 0) := kc_246_5 (Nat.le_of_ble_eq_true rfl) rfl
theorem f_246_899 : fe0 246 899 = some (.aload_n 1, 1, 0, 0, 0, 0, 0) := kc_246_5 (Nat.le_of_ble_eq_true rfl) rfl
theorem f_246_900 : fe0 246 900 = some (.invokevirtual 112, 3, 105, 0, 0, 8, 3124) := kc_246_5 (Nat.le_of_ble_eq_true rfl) rfl
theorem f_246_903 : fe0 246 903 = some (.aload_n 2, 1, 0, 0, 0, 0, 0) := kc_246_5 (Nat.le_of_ble_eq_true rfl) rfl
theorem f_246_904 : fe0 246 904 = some (.invokevirtual 115, 3, 207, 0, 0, 9, 6147) := kc_246_5 (Nat.le_of_ble_eq_true rfl) rfl
theorem f_246_907 : fe0 246 907 = some (.if_icmp .eq 513, 3, 0, 0, 0, 0, 0) := kc_246_5 (Nat.le_of_ble_eq_true rfl) rfl
theorem f_246_910 : fe0 246 910 = some (.iconst 0, 1, 0, 0, 0, 0, 0) := kc_246_5 (Nat.le_of_ble_eq_true rfl) rfl
theorem f_246_911 : fe0 246 911 = some (.ireturn, 1, 1, 0, 0, 0, 0) := kc_246_5 (Nat.le_of_ble_eq_true rfl) rfl
theorem f_246_912 : fe0 246 912 = some (.aload_n 1, 1, 0, 0, 0, 0, 0) := kc_246_5 (Nat.le_of_ble_eq_true rfl) rfl
theorem f_246_913 : fe0 246 913 = some (.aload_n 0, 1, 0, 0, 0, 0, 0) := kc_246_5 (Nat.le_of_ble_eq_true rfl) rfl
theorem f_246_914 : fe0 246 914 = some (.iload_n 3, 1, 0, 0, 0, 0, 0) := kc_246_5 (Nat.le_of_ble_eq_true rfl) rfl
theorem f_246_915 : fe0 246 915 = some (.iconst 1, 1, 0, 0, 0, 0, 0) := kc_246_5 (Nat.le_of_ble_eq_true rfl) rfl
theorem f_246_916 : fe0 246 916 = some (.iadd, 1, 0, 0, 0, 0, 0) := kc_246_5 (Nat.le_of_ble_eq_true rfl) rfl
theorem f_246_917 : fe0 246 917 = some (.iaload, 1, 0, 0, 0, 0, 0) := kc_246_5 (Nat.le_of_ble_eq_true rfl) rfl
theorem f_246_918 : fe0 246 918 = some (.aload_n 0, 1, 0, 0, 0, 0, 0) := kc_246_5 (Nat.le_of_ble_eq_true rfl) rfl
theorem f_246_919 : fe0 246 919 = some (.iload_n 3, 1, 0, 0, 0, 0, 0) := kc_246_5 (Nat.le_of_ble_eq_true rfl) rfl
theorem f_246_920 : fe0 246 920 = some (.iconst 2, 1, 0, 0, 0, 0, 0) := kc_246_5 (Nat.le_of_ble_eq_true rfl) rfl
theorem f_246_921 : fe0 246 921 = some (.iadd, 1, 0, 0, 0, 0, 0) := kc_246_5 (Nat.le_of_ble_eq_true rfl) rfl
theorem f_246_922 : fe0 246 922 = some (.iaload, 1, 0, 0, 0, 0, 0) := kc_246_5 (Nat.le_of_ble_eq_true rfl) rfl
theorem f_246_923 : fe0 246 923 = some (.invokevirtual 116, 3, 106, 2, 0, 8, 4103) := kc_246_5 (Nat.le_of_ble_eq_true rfl) rfl
theorem f_246_926 : fe0 246 926 = some (.aload_n 2, 1, 0, 0, 0, 0, 0) := kc_246_5 (Nat.le_of_ble_eq_true rfl) rfl
theorem f_246_927 : fe0 246 927 = some (.aload_n 0, 1, 0, 0, 0, 0, 0) := kc_246_5 (Nat.le_of_ble_eq_true rfl) rfl
theorem f_246_928 : fe0 246 928 = some (.iload_n 3, 1, 0, 0, 0, 0, 0) := kc_246_5 (Nat.le_of_ble_eq_true rfl) rfl
theorem f_246_929 : fe0 246 929 = some (.iconst 1, 1, 0, 0, 0, 0, 0) := kc_246_5 (Nat.le_of_ble_eq_true rfl) rfl
theorem f_246_930 : fe0 246 930 = some (.iadd, 1, 0, 0, 0, 0, 0) := kc_246_5 (Nat.le_of_ble_eq_true rfl) rfl
theorem f_246_931 : fe0 246 931 = some (.iaload, 1, 0, 0, 0, 0, 0) := kc_246_5 (Nat.le_of_ble_eq_true rfl) rfl
theorem f_246_932 : fe0 246 932 = some (.aload_n 0, 1, 0, 0, 0, 0, 0) := kc_246_6 (Nat.le_of_ble_eq_true rfl) rfl
theorem f_246_933 : fe0 246 933 = some (.iload_n 3, 1, 0, 0, 0, 0, 0) := kc_246_6 (Nat.le_of_ble_eq_true rfl) rfl
theorem f_246_934 : fe0 246 934 = some (.iconst 2, 1, 0, 0, 0, 0, 0) := kc_246_6 (Nat.le_of_ble_eq_true rfl) rfl
theorem f_246_935 : fe0 246 935 = some (.iadd, 1, 0, 0, 0, 0, 0) := kc_246_6 (Nat.le_of_ble_eq_true rfl) rfl
theorem f_246_936 : fe0 246 936 = some (.iaload, 1, 0, 0, 0, 0, 0) := kc_246_6 (Nat.le_of_ble_eq_true rfl) rfl
theorem f_246_937 : fe0 246 937 = some (.invokevirtual 119, 3, 208, 2, 0, 9, 6214) := kc_246_6 (Nat.le_of_ble_eq_true rfl) rfl
theorem f_246_940 : fe0 246 940 = some (.if_icmp .eq 480, 3, 0, 0, 0, 0, 0) := kc_246_6 (Nat.le_of_ble_eq_true rfl) rfl
theorem f_246_943 : fe0 246 943 = some (.iconst 0, 1, 0, 0, 0, 0, 0) := kc_246_6 (Nat.le_of_ble_eq_true rfl) rfl
theorem f_246_944 : fe0 246 944 = some (.ireturn, 1, 1, 0, 0, 0, 0) := kc_246_6 (Nat.le_of_ble_eq_true rfl) rfl
theorem f_246_945 : fe0 246 945 = some (.aload_n 1, 1, 0, 0, 0, 0, 0) := kc_246_6 (Nat.le_of_ble_eq_true rfl) rfl
theorem f_246_946 : fe0 246 946 = some (.aload_n 0, 1, 0, 0, 0, 0, 0) := kc_246_6 (Nat.le_of_ble_eq_true rfl) rfl
theorem f_246_947 : fe0 246 947 = some (.iload_n 3, 1, 0, 0, 0, 0, 0) := kc_246_6 (Nat.le_of_ble_eq_true rfl) rfl
theorem f_246_948 : fe0 246 948 = some (.iconst 1, 1, 0, 0, 0, 0, 0) := kc_246_6 (Nat.le_of_ble_eq_true rfl) rfl
theorem f_246_949 : fe0 246 949 = some (.iadd, 1, 0, 0, 0, 0, 0) := kc_246_6 (Nat.le_of_ble_eq_true rfl) rfl
theorem f_246_950 : fe0 246 950 = some (.iaload, 1, 0, 0, 0, 0, 0) := kc_246_6 (Nat.le_of_ble_eq_true rfl) rfl
theorem f_246_951 : fe0 246 951 = some (.invokevirtual 120, 3, 107, 1, 0, 8, 4108) := kc_246_6 (Nat.le_of_ble_eq_true rfl) rfl
theorem f_246_954 : fe0 246 954 = some (.aload_n 2, 1, 0, 0, 0, 0, 0) := kc_246_6 (Nat.le_of_ble_eq_true rfl) rfl
theorem f_246_955 : fe0 246 955 = some (.aload_n 0, 1, 0, 0, 0, 0, 0) := kc_246_6 (Nat.le_of_ble_eq_true rfl) rfl
theorem f_246_956 : fe0 246 956 = some (.iload_n 3, 1, 0, 0, 0, 0, 0) := kc_246_6 (Nat.le_of_ble_eq_true rfl) rfl
theorem f_246_957 : fe0 246 957 = some (.iconst 1, 1, 0, 0, 0, 0, 0) := kc_246_6 (Nat.le_of_ble_eq_true rfl) rfl
theorem f_246_958 : fe0 246 958 = some (.iadd, 1, 0, 0, 0, 0, 0) := kc_246_6 (Nat.le_of_ble_eq_true rfl) rfl
theorem f_246_959 : fe0 246 959 = some (.iaload, 1, 0, 0, 0, 0, 0) := kc_246_6 (Nat.le_of_ble_eq_true rfl) rfl
theorem f_246_960 : fe0 246 960 = some (.invokevirtual 123, 3, 210, 1, 0, 9, 6222) := kc_246_6 (Nat.le_of_ble_eq_true rfl) rfl
theorem f_246_963 : fe0 246 963 = some (.if_icmp .eq 457, 3, 0, 0, 0, 0, 0) := kc_246_6 (Nat.le_of_ble_eq_true rfl) rfl
theorem f_246_966 : fe0 246 966 = some (.iconst 0, 1, 0, 0, 0, 0, 0) := kc_246_6 (Nat.le_of_ble_eq_true rfl) rfl
theorem f_246_967 : fe0 246 967 = some (.ireturn, 1, 1, 0, 0, 0, 0) := kc_246_6 (Nat.le_of_ble_eq_true rfl) rfl
theorem f_246_968 : fe0 246 968 = some (.aload_n 1, 1, 0, 0, 0, 0, 0) := kc_246_6 (Nat.le_of_ble_eq_true rfl) rfl
theorem f_246_969 : fe0 246 969 = some (.aload_n 0, 1, 0, 0, 0, 0, 0) := kc_246_6 (Nat.le_of_ble_eq_true rfl) rfl
theorem f_246_970 : fe0 246 970 = some (.iload_n 3, 1, 0, 0, 0, 0, 0) := kc_246_6 (Nat.le_of_ble_eq_true rfl) rfl
theorem f_246_971 : fe0 246 971 = some (.iconst 1, 1, 0, 0, 0, 0, 0) := kc_246_6 (Nat.le_of_ble_eq_true rfl) rfl
theorem f_246_972 : fe0 246 972 = some (.iadd, 1, 0, 0, 0, 0, 0) := kc_246_6 (Nat.le_of_ble_eq_true rfl) rfl
theorem f_246_973 : fe0 246 973 = some (.iaload, 1, 0, 0, 0, 0, 0) := kc_246_6 (Nat.le_of_ble_eq_true rfl) rfl
theorem f_246_974 : fe0 246 974 = some (.aload_n 0, 1, 0, 0, 0, 0, 0) := kc_246_6 (Nat.le_of_ble_eq_true rfl) rfl
theorem f_246_975 : fe0 246 975 = some (.iload_n 3, 1, 0, 0, 0, 0, 0) := kc_246_6 (Nat.le_of_ble_eq_true rfl) rfl
theorem f_246_976 : fe0 246 976 = some (.iconst 2, 1, 0, 0, 0, 0, 0) := kc_246_6 (Nat.le_of_ble_eq_true rfl) rfl
theorem f_246_977 : fe0 246 977 = some (.iadd, 1, 0, 0, 0, 0, 0) := kc_246_6 (Nat.le_of_ble_eq_true rfl) rfl
theorem f_246_978 : fe0 246 978 = some (.iaload, 1, 0, 0, 0, 0, 0) := kc_246_6 (Nat.le_of_ble_eq_true rfl) rfl
theorem f_246_979 : fe0 246 979 = some (.aload_n 0, 1, 0, 0, 0, 0, 0) := kc_246_6 (Nat.le_of_ble_eq_true rfl) rfl
theorem f_246_980 : fe0 246 980 = some (.iload_n 3, 1, 0, 0, 0, 0, 0) := kc_246_6 (Nat.le_of_ble_eq_true rfl) rfl
theorem f_246_981 : fe0 246 981 = some (.iconst 3, 1, 0, 0, 0, 0, 0) := kc_246_6 (Nat.le_of_ble_eq_true rfl) rfl
theorem f_246_982 : fe0 246 982 = some (.iadd, 1, 0, 0, 0, 0, 0) := kc_246_6 (Nat.le_of_ble_eq_true rfl) rfl
theorem f_246_983 : fe0 246 983 = some (.iaload, 1, 0, 0, 0, 0, 0) := kc_246_6 (Nat.le_of_ble_eq_true rfl) rfl
theorem f_246_984 : fe0 246 984 = some (.invokevirtual 124, 3, 108, 3, 0, 8, 4113) := kc_246_6 (Nat.le_of_ble_eq_true rfl) rfl
theorem f_246_987 : fe0 246 987 = some (.aload_n 2, 1, 0, 0, 0, 0, 0) := kc_246_6 (Nat.le_of_ble_eq_true rfl) rfl
theorem f_246_988 : fe0 246 988 = some (.aload_n 0, 1, 0, 0, 0, 0, 0) := kc_246_6 (Nat.le_of_ble_eq_true rfl) rfl
theorem f_246_989 : fe0 246 989 = some (.iload_n 3, 1, 0, 0, 0, 0, 0) := kc_246_6 (Nat.le_of_ble_eq_true rfl) rfl
theorem f_246_990 : fe0 246 990 = some (.iconst 1, 1, 0, 0, 0, 0, 0) := kc_246_6 (Nat.le_of_ble_eq_true rfl) rfl
theorem f_246_991 : fe0 246 991 = some (.iadd, 1, 0, 0, 0, 0, 0) := kc_246_6 (Nat.le_of_ble_eq_true rfl) rfl
theorem f_246_992 : fe0 246 992 = some (.iaload, 1, 0, 0, 0, 0, 0) := kc_246_6 (Nat.le_of_ble_eq_true rfl) rfl
theorem f_246_993 : fe0 246 993 = some (.aload_n 0, 1, 0, 0, 0, 0, 0) := kc_246_6 (Nat.le_of_ble_eq_true rfl) rfl
theorem f_246_994 : fe0 246 994 = some (.iload_n 3, 1, 0, 0, 0, 0, 0) := kc_246_6 (Nat.le_of_ble_eq_true rfl) rfl
theorem f_246_995 : fe0 246 995 = some (.iconst 2, 1, 0, 0, 0, 0, 0) := kc_246_6 (Nat.le_of_ble_eq_true rfl) rfl
theorem f_246_996 : fe0 246 996 = some (.iadd, 1, 0, 0, 0, 0, 0) := kc_246_6 (Nat.le_of_ble_eq_true rfl) rfl
theorem f_246_997 : fe0 246 997 = some (.iaload, 1, 0, 0, 0, 0, 0) := kc_246_6 (Nat.le_of_ble_eq_true rfl) rfl
theorem f_246_998 : fe0 246 998 = some (.aload_n 0, 1, 0, 0, 0, 0, 0) := kc_246_6 (Nat.le_of_ble_eq_true rfl) rfl
theorem f_246_999 : fe0 246 999 = some (.iload_n 3, 1, 0, 0, 0, 0, 0) := kc_246_6 (Nat.le_of_ble_eq_true rfl) rfl
theorem f_246_1000 : fe0 246 1000 = some (.iconst 3, 1, 0, 0, 0, 0, 0) := kc_246_6 (Nat.le_of_ble_eq_true rfl) rfl
theorem f_246_1001 : fe0 246 1001 = some (.iadd, 1, 0, 0, 0, 0, 0) := kc_246_6 (Nat.le_of_ble_eq_true rfl) rfl
theorem f_246_1002 : fe0 246 1002 = some (.iaload, 1, 0, 0, 0, 0, 0) := kc_246_6 (Nat.le_of_ble_eq_true rfl) rfl
theorem f_246_1003 : fe0 246 1003 = some (.invokevirtual 127, 3, 214, 3, 0, 9, 6229) := kc_246_6 (Nat.le_of_ble_eq_true rfl) rfl
theorem f_246_1006 : fe0 246 1006 = some (.if_icmp .eq 414, 3, 0, 0, 0, 0, 0) := kc_246_6 (Nat.le_of_ble_eq_true rfl) rfl
theorem f_246_1009 : fe0 246 1009 = some (.iconst 0, 1, 0, 0, 0, 0, 0) := kc_246_6 (Nat.le_of_ble_eq_true rfl) rfl
theorem f_246_1010 : fe0 246 1010 = some (.ireturn, 1, 1, 0, 0, 0, 0) := kc_246_6 (Nat.le_of_ble_eq_true rfl) rfl
theorem f_246_1011 : fe0 246 1011 = some (.aload_n 1, 1, 0, 0, 0, 0, 0) := kc_246_6 (Nat.le_of_ble_eq_true rfl) rfl
theorem f_246_1012 : fe0 246 1012 = some (.aload_n 0, 1, 0, 0, 0, 0, 0) := kc_246_6 (Nat.le_of_ble_eq_true rfl) rfl
theorem f_246_1013 : fe0 246 1013 = some (.iload_n 3, 1, 0, 0, 0, 0, 0) := kc_246_6 (Nat.le_of_ble_eq_true rfl) rfl
theorem f_246_1014 : fe0 246 1014 = some (.iconst 1, 1, 0, 0, 0, 0, 0) := kc_246_6 (Nat.le_of_ble_eq_true rfl) rfl
theorem f_246_1015 : fe0 246 1015 = some (.iadd, 1, 0, 0, 0, 0, 0) := kc_246_6 (Nat.le_of_ble_eq_true rfl) rfl
theorem f_246_1016 : fe0 246 1016 = some (.iaload, 1, 0, 0, 0, 0, 0) := kc_246_6 (Nat.le_of_ble_eq_true rfl) rfl
theorem f_246_1017 : fe0 246 1017 = some (.aload_n 0, 1, 0, 0, 0, 0, 0) := kc_246_6 (Nat.le_of_ble_eq_true rfl) rfl
theorem f_246_1018 : fe0 246 1018 = some (.iload_n 3, 1, 0, 0, 0, 0, 0) := kc_246_6 (Nat.le_of_ble_eq_true rfl) rfl
theorem f_246_1019 : fe0 246 1019 = some (.iconst 2, 1, 0, 0, 0, 0, 0) := kc_246_6 (Nat.le_of_ble_eq_true rfl) rfl
theorem f_246_1020 : fe0 246 1020 = some (.iadd, 1, 0, 0, 0, 0, 0) := kc_246_6 (Nat.le_of_ble_eq_true rfl) rfl
theorem f_246_1021 : fe0 246 1021 = some (.iaload, 1, 0, 0, 0, 0, 0) := kc_246_6 (Nat.le_of_ble_eq_true rfl) rfl
theorem f_246_1022 : fe0 246 1022 = some (.aload_n 0, 1, 0, 0, 0, 0, 0) := kc_246_6 (Nat.le_of_ble_eq_true rfl) rfl
theorem f_246_1023 : fe0 246 1023 = some (.iload_n 3, 1, 0, 0, 0, 0, 0) := kc_246_6 (Nat.le_of_ble_eq_true rfl) rfl
theorem f_246_1024 : fe0 246 1024 = some (.iconst 3, 1, 0, 0, 0, 0, 0) := kc_246_6 (Nat.le_of_ble_eq_true rfl) rfl
theorem f_246_1025 : fe0 246 1025 = some (.iadd, 1, 0, 0, 0, 0, 0) := kc_246_6 (Nat.le_of_ble_eq_true rfl) rfl
theorem f_246_1026 : fe0 246 1026 = some (.iaload, 1, 0, 0, 0, 0, 0) := kc_246_6 (Nat.le_of_ble_eq_true rfl) rfl
theorem f_246_1027 : fe0 246 1027 = some (.invokevirtual 128, 3, 109, 3, 0, 8, 4127) := kc_246_6 (Nat.le_of_ble_eq_true rfl) rfl
theorem f_246_1030 : fe0 246 1030 = some (.aload_n 2, 1, 0, 0, 0, 0, 0) := kc_246_6 (Nat.le_of_ble_eq_true rfl) rfl
theorem f_246_1031 : fe0 246 1031 = some (.aload_n 0, 1, 0, 0, 0, 0, 0) := kc_246_6 (Nat.le_of_ble_eq_true rfl) rfl
theorem f_246_1032 : fe0 246 1032 = some (.iload_n 3, 1, 0, 0, 0, 0, 0) := kc_246_6 (Nat.le_of_ble_eq_true rfl) rfl
theorem f_246_1033 : fe0 246 1033 = some (.iconst 1, 1, 0, 0, 0, 0, 0) := kc_246_6 (Nat.le_of_ble_eq_true rfl) rfl
theorem f_246_1034 : fe0 246 1034 = some (.iadd, 1, 0, 0, 0, 0, 0) := kc_246_6 (Nat.le_of_ble_eq_true rfl) rfl
theorem f_246_1035 : fe0 246 1035 = some (.iaload, 1, 0, 0, 0, 0, 0) := kc_246_6 (Nat.le_of_ble_eq_true rfl) rfl
theorem f_246_1036 : fe0 246 1036 = some (.aload_n 0, 1, 0, 0, 0, 0, 0) := kc_246_6 (Nat.le_of_ble_eq_true rfl) rfl
theorem f_246_1037 : fe0 246 1037 = some (.iload_n 3, 1, 0, 0, 0, 0, 0) := kc_246_6 (Nat.le_of_ble_eq_true rfl) rfl
theorem f_246_1038 : fe0 246 1038 = some (.iconst 2, 1, 0, 0, 0, 0, 0) := kc_246_6 (Nat.le_of_ble_eq_true rfl) rfl
theorem f_246_1039 : fe0 246 1039 = some (.iadd, 1, 0, 0, 0, 0, 0) := kc_246_6 (Nat.le_of_ble_eq_true rfl) rfl
theorem f_246_1040 : fe0 246 1040 = some (.iaload, 1, 0, 0, 0, 0, 0) := kc_246_6 (Nat.le_of_ble_eq_true rfl) rfl
theorem f_246_1041 : fe0 246 1041 = some (.aload_n 0, 1, 0, 0, 0, 0, 0) := kc_246_6 (Nat.le_of_ble_eq_true rfl) rfl
theorem f_246_1042 : fe0 246 1042 = some (.iload_n 3, 1, 0, 0, 0, 0, 0) := kc_246_6 (Nat.le_of_ble_eq_true rfl) rfl
theorem f_246_1043 : fe0 246 1043 = some (.iconst 3, 1, 0, 0, 0, 0, 0) := kc_246_6 (Nat.le_of_ble_eq_true rfl) rfl
theorem f_246_1044 : fe0 246 1044 = some (.iadd, 1, 0, 0, 0, 0, 0) := kc_246_6 (Nat.le_of_ble_eq_true rfl) rfl
theorem f_246_1045 : fe0 246 1045 = some (.iaload, 1, 0, 0, 0, 0, 0) := kc_246_6 (Nat.le_of_ble_eq_true rfl) rfl
theorem f_246_1046 : fe0 246 1046 = some (.invokevirtual 131, 3, 215, 3, 0, 9, 6237) := kc_246_6 (Nat.le_of_ble_eq_true rfl) rfl
theorem f_246_1049 : fe0 246 1049 = some (.if_icmp .eq 371, 3, 0, 0, 0, 0, 0) := kc_246_6 (Nat.le_of_ble_eq_true rfl) rfl
theorem f_246_1052 : fe0 246 1052 = some (.iconst 0, 1, 0, 0, 0, 0, 0) := kc_246_6 (Nat.le_of_ble_eq_true rfl) rfl
theorem f_246_1053 : fe0 246 1053 = some (.ireturn, 1, 1, 0, 0, 0, 0) := kc_246_6 (Nat.le_of_ble_eq_true rfl) rfl
theorem f_246_1054 : fe0 246 1054 = some (.aload_n 1, 1, 0, 0, 0, 0, 0) := kc_246_7 (Nat.le_of_ble_eq_true rfl) rfl
theorem f_246_1055 : fe0 246 1055 = some (.aload_n 0, 1, 0, 0, 0, 0, 0) := kc_246_7 (Nat.le_of_ble_eq_true rfl) rfl
theorem f_246_1056 : fe0 246 1056 = some (.iload_n 3, 1, 0, 0, 0, 0, 0) := kc_246_7 (Nat.le_of_ble_eq_true rfl) rfl
theorem f_246_1057 : fe0 246 1057 = some (.iconst 1, 1, 0, 0, 0, 0, 0) := kc_246_7 (Nat.le_of_ble_eq_true rfl) rfl
theorem f_246_1058 : fe0 246 1058 = some (.iadd, 1, 0, 0, 0, 0, 0) := kc_246_7 (Nat.le_of_ble_eq_true rfl) rfl
theorem f_246_1059 : fe0 246 1059 = some (.iaload, 1, 0, 0, 0, 0, 0) := kc_246_7 (Nat.le_of_ble_eq_true rfl) rfl
theorem f_246_1060 : fe0 246 1060 = some (.invokevirtual 132, 3, 110, 1, 0, 8, 4139) := kc_246_7 (Nat.le_of_ble_eq_true rfl) rfl
theorem f_246_1063 : fe0 246 1063 = some (.aload_n 2, 1, 0, 0, 0, 0, 0) := kc_246_7 (Nat.le_of_ble_eq_true rfl) rfl
theorem f_246_1064 : fe0 246 1064 = some (.aload_n 0, 1, 0, 0, 0, 0, 0) := kc_246_7 (Nat.le_of_ble_eq_true rfl) rfl
theorem f_246_1065 : fe0 246 1065 = some (.iload_n 3, 1, 0, 0, 0, 0, 0) := kc_246_7 (Nat.le_of_ble_eq_true rfl) rfl
theorem f_246_1066 : fe0 246 1066 = some (.iconst 1, 1, 0, 0, 0, 0, 0) := kc_246_7 (Nat.le_of_ble_eq_true rfl) rfl
theorem f_246_1067 : fe0 246 1067 = some (.iadd, 1, 0, 0, 0, 0, 0) := kc_246_7 (Nat.le_of_ble_eq_true rfl) rfl
theorem f_246_1068 : fe0 246 1068 = some (.iaload, 1, 0, 0, 0, 0, 0) := kc_246_7 (Nat.le_of_ble_eq_true rfl) rfl
theorem f_246_1069 : fe0 246 1069 = some (.invokevirtual 135, 3, 216, 1, 0, 9, 7005) := kc_246_7 (Nat.le_of_ble_eq_true rfl) rfl
theorem f_246_1072 : fe0 246 1072 = some (.if_icmp .eq 348, 3, 0, 0, 0, 0, 0) := kc_246_7 (Nat.le_of_ble_eq_true rfl) rfl
theorem f_246_1075 : fe0 246 1075 = some (.iconst 0, 1, 0, 0, 0, 0, 0) := kc_246_7 (Nat.le_of_ble_eq_true rfl) rfl
theorem f_246_1076 : fe0 246 1076 = some (.ireturn, 1, 1, 0, 0, 0, 0) := kc_246_7 (Nat.le_of_ble_eq_true rfl) rfl
theorem f_246_1077 : fe0 246 1077 = some (.aload_n 1, 1, 0, 0, 0, 0, 0) := kc_246_7 (Nat.le_of_ble_eq_true rfl) rfl
theorem f_246_1078 : fe0 246 1078 = some (.aload_n 0, 1, 0, 0, 0, 0, 0) := kc_246_7 (Nat.le_of_ble_eq_true rfl) rfl
theorem f_246_1079 : fe0 246 1079 = some (.iload_n 3, 1, 0, 0, 0, 0, 0) := kc_246_7 (Nat.le_of_ble_eq_true rfl) rfl
theorem f_246_1080 : fe0 246 1080 = some (.iconst 1, 1, 0, 0, 0, 0, 0) := kc_246_7 (Nat.le_of_ble_eq_true rfl) rfl
theorem f_246_1081 : fe0 246 1081 = some (.iadd, 1, 0, 0, 0, 0, 0) := kc_246_7 (Nat.le_of_ble_eq_true rfl) rfl
theorem f_246_1082 : fe0 246 1082 = some (.iaload, 1, 0, 0, 0, 0, 0) := kc_246_7 (Nat.le_of_ble_eq_true rfl) rfl
theorem f_246_1083 : fe0 246 1083 = some (.aload_n 0, 1, 0, 0, 0, 0, 0) := kc_246_7 (Nat.le_of_ble_eq_true rfl) rfl
theorem f_246_1084 : fe0 246 1084 = some (.iload_n 3, 1, 0, 0, 0, 0, 0) := kc_246_7 (Nat.le_of_ble_eq_true rfl) rfl
theorem f_246_1085 : fe0 246 1085 = some (.iconst 2, 1, 0, 0, 0, 0, 0) := kc_246_7 (Nat.le_of_ble_eq_true rfl) rfl
theorem f_246_1086 : fe0 246 1086 = some (.iadd, 1, 0, 0, 0, 0, 0) := kc_246_7 (Nat.le_of_ble_eq_true rfl) rfl
theorem f_246_1087 : fe0 246 1087 = some (.iaload, 1, 0, 0, 0, 0, 0) := kc_246_7 (Nat.le_of_ble_eq_true rfl) rfl
theorem f_246_1088 : fe0 246 1088 = some (.invokevirtual 136, 3, 111, 2, 0, 8, 4150) := kc_246_7 (Nat.le_of_ble_eq_true rfl) rfl
theorem f_246_1091 : fe0 246 1091 = some (.aload_n 2, 1, 0, 0, 0, 0, 0) := kc_246_7 (Nat.le_of_ble_eq_true rfl) rfl
theorem f_246_1092 : fe0 246 1092 = some (.aload_n 0, 1, 0, 0, 0, 0, 0) := kc_246_7 (Nat.le_of_ble_eq_true rfl) rfl
theorem f_246_1093 : fe0 246 1093 = some (.iload_n 3, 1, 0, 0, 0, 0, 0) := kc_246_7 (Nat.le_of_ble_eq_true rfl) rfl
theorem f_246_1094 : fe0 246 1094 = some (.iconst 1, 1, 0, 0, 0, 0, 0) := kc_246_7 (Nat.le_of_ble_eq_true rfl) rfl
theorem f_246_1095 : fe0 246 1095 = some (.iadd, 1, 0, 0, 0, 0, 0) := kc_246_7 (Nat.le_of_ble_eq_true rfl) rfl
theorem f_246_1096 : fe0 246 1096 = some (.iaload, 1, 0, 0, 0, 0, 0) := kc_246_7 (Nat.le_of_ble_eq_true rfl) rfl
theorem f_246_1097 : fe0 246 1097 = some (.aload_n 0, 1, 0, 0, 0, 0, 0) := kc_246_7 (Nat.le_of_ble_eq_true rfl) rfl
theorem f_246_1098 : fe0 246 1098 = some (.iload_n 3, 1, 0, 0, 0, 0, 0) := kc_246_7 (Nat.le_of_ble_eq_true rfl) rfl
theorem f_246_1099 : fe0 246 1099 = some (.iconst 2, 1, 0, 0, 0, 0, 0) := kc_246_7 (Nat.le_of_ble_eq_true rfl) rfl
theorem f_246_1100 : fe0 246 1100 = some (.iadd, 1, 0, 0, 0, 0, 0) := kc_246_7 (Nat.le_of_ble_eq_true rfl) rfl
theorem f_246_1101 : fe0 246 1101 = some (.iaload, 1, 0, 0, 0, 0, 0) := kc_246_7 (Nat.le_of_ble_eq_true rfl) rfl
theorem f_246_1102 : fe0 246 1102 = some (.invokevirtual 139, 3, 217, 2, 0, 9, 7009) := kc_246_7 (Nat.le_of_ble_eq_true rfl) rfl
theorem f_246_1105 : fe0 246 1105 = some (.if_icmp .eq 315, 3, 0, 0, 0, 0, 0) := kc_246_7 (Nat.le_of_ble_eq_true rfl) rfl
theorem f_246_1108 : fe0 246 1108 = some (.iconst 0, 1, 0, 0, 0, 0, 0) := kc_246_7 (Nat.le_of_ble_eq_true rfl) rfl
theorem f_246_1109 : fe0 246 1109 = some (.ireturn, 1, 1, 0, 0, 0, 0) := kc_246_7 (Nat.le_of_ble_eq_true rfl) rfl
theorem f_246_1110 : fe0 246 1110 = some (.aload_n 1, 1, 0, 0, 0, 0, 0) := kc_246_7 (Nat.le_of_ble_eq_true rfl) rfl
theorem f_246_1111 : fe0 246 1111 = some (.aload_n 0, 1, 0, 0, 0, 0, 0) := kc_246_7 (Nat.le_of_ble_eq_true rfl) rfl
theorem f_246_1112 : fe0 246 1112 = some (.iload_n 3, 1, 0, 0, 0, 0, 0) := kc_246_7 (Nat.le_of_ble_eq_true rfl) rfl
theorem f_246_1113 : fe0 246 1113 = some (.iconst 1, 1, 0, 0, 0, 0, 0) := kc_246_7 (Nat.le_of_ble_eq_true rfl) rfl
theorem f_246_1114 : fe0 246 1114 = some (.iadd, 1, 0, 0, 0, 0, 0) := kc_246_7 (Nat.le_of_ble_eq_true rfl) rfl
theorem f_246_1115 : fe0 246 1115 = some (.iaload, 1, 0, 0, 0, 0, 0) := kc_246_7 (Nat.le_of_ble_eq_true rfl) rfl
theorem f_246_1116 : fe0 246 1116 = some (.aload_n 0, 1, 0, 0, 0, 0, 0) := kc_246_7 (Nat.le_of_ble_eq_true rfl) rfl
theorem f_246_1117 : fe0 246 1117 = some (.iload_n 3, 1, 0, 0, 0, 0, 0) := kc_246_7 (Nat.le_of_ble_eq_true rfl) rfl
theorem f_246_1118 : fe0 246 1118 = some (.iconst 2, 1, 0, 0, 0, 0, 0) := kc_246_7 (Nat.le_of_ble_eq_true rfl) rfl
theorem f_246_1119 : fe0 246 1119 = some (.iadd, 1, 0, 0, 0, 0, 0) := kc_246_7 (Nat.le_of_ble_eq_true rfl) rfl
theorem f_246_1120 : fe0 246 1120 = some (.iaload, 1, 0, 0, 0, 0, 0) := kc_246_7 (Nat.le_of_ble_eq_true rfl) rfl
theorem f_246_1121 : fe0 246 1121 = some (.aload_n 0, 1, 0, 0, 0, 0, 0) := kc_246_7 (Nat.le_of_ble_eq_true rfl) rfl
theorem f_246_1122 : fe0 246 1122 = some (.iload_n 3, 1, 0, 0, 0, 0, 0) := kc_246_7 (Nat.le_of_ble_eq_true rfl) rfl
theorem f_246_1123 : fe0 246 1123 = some (.iconst 3, 1, 0, 0, 0, 0, 0) := kc_246_7 (Nat.le_of_ble_eq_true rfl) rfl
theorem f_246_1124 : fe0 246 1124 = some (.iadd, 1, 0, 0, 0, 0, 0) := kc_246_7 (Nat.le_of_ble_eq_true rfl) rfl
theorem f_246_1125 : fe0 246 1125 = some (.iaload, 1, 0, 0, 0, 0, 0) := kc_246_7 (Nat.le_of_ble_eq_true rfl) rfl
theorem f_246_1126 : fe0 246 1126 = some (.aload_n 0, 1, 0, 0, 0, 0, 0) := kc_246_7 (Nat.le_of_ble_eq_true rfl) rfl
theorem f_246_1127 : fe0 246 1127 = some (.iload_n 3, 1, 0, 0, 0, 0, 0) := kc_246_7 (Nat.le_of_ble_eq_true rfl) rfl
theorem f_246_1128 : fe0 246 1128 = some (.iconst 4, 1, 0, 0, 0, 0, 0) := kc_246_7 (Nat.le_of_ble_eq_true rfl) rfl
theorem f_246_1129 : fe0 246 1129 = some (.iadd, 1, 0, 0, 0, 0, 0) := kc_246_7 (Nat.le_of_ble_eq_true rfl) rfl
theorem f_246_1130 : fe0 246 1130 = some (.iaload, 1, 0, 0, 0, 0, 0) := kc_246_7 (Nat.le_of_ble_eq_true rfl) rfl
theorem f_246_1131 : fe0 246 1131 = some (.aload_n 0, 1, 0, 0, 0, 0, 0) := kc_246_7 (Nat.le_of_ble_eq_true rfl) rfl
theorem f_246_1132 : fe0 246 1132 = some (.iload_n 3, 1, 0, 0, 0, 0, 0) := kc_246_7 (Nat.le_of_ble_eq_true rfl) rfl
theorem f_246_1133 : fe0 246 1133 = some (.iconst 5, 1, 0, 0, 0, 0, 0) := kc_246_7 (Nat.le_of_ble_eq_true rfl) rfl
theorem f_246_1134 : fe0 246 1134 = some (.iadd, 1, 0, 0, 0, 0, 0) := kc_246_7 (Nat.le_of_ble_eq_true rfl) rfl
theorem f_246_1135 : fe0 246 1135 = some (.iaload, 1, 0, 0, 0, 0, 0) := kc_246_7 (Nat.le_of_ble_eq_true rfl) rfl
theorem f_246_1136 : fe0 246 1136 = some (.invokevirtual 140, 3, 112, 5, 0, 8, 4184) := kc_246_7 (Nat.le_of_ble_eq_true rfl) rfl
theorem f_246_1139 : fe0 246 1139 = some (.aload_n 2, 1, 0, 0, 0, 0, 0) := kc_246_7 (Nat.le_of_ble_eq_true rfl) rfl
theorem f_246_1140 : fe0 246 1140 = some (.aload_n 0, 1, 0, 0, 0, 0, 0) := kc_246_7 (Nat.le_of_ble_eq_true rfl) rfl
theorem f_246_1141 : fe0 246 1141 = some (.iload_n 3, 1, 0, 0, 0, 0, 0) := kc_246_7 (Nat.le_of_ble_eq_true rfl) rfl
theorem f_246_1142 : fe0 246 1142 = some (.iconst 1, 1, 0, 0, 0, 0, 0) := kc_246_7 (Nat.le_of_ble_eq_true rfl) rfl
theorem f_246_1143 : fe0 246 1143 = some (.iadd, 1, 0, 0, 0, 0, 0) := kc_246_7 (Nat.le_of_ble_eq_true rfl) rfl
theorem f_246_1144 : fe0 246 1144 = some (.iaload, 1, 0, 0, 0, 0, 0) := kc_246_7 (Nat.le_of_ble_eq_true rfl) rfl
theorem f_246_1145 : fe0 246 1145 = some (.aload_n 0, 1, 0, 0, 0, 0, 0) := kc_246_7 (Nat.le_of_ble_eq_true rfl) rfl
theorem f_246_1146 : fe0 246 1146 = some (.iload_n 3, 1, 0, 0, 0, 0, 0) := kc_246_7 (Nat.le_of_ble_eq_true rfl) rfl
theorem f_246_1147 : fe0 246 1147 = some (.iconst 2, 1, 0, 0, 0, 0, 0) := kc_246_7 (Nat.le_of_ble_eq_true rfl) rfl
theorem f_246_1148 : fe0 246 1148 = some (.iadd, 1, 0, 0, 0, 0, 0) := kc_246_7 (Nat.le_of_ble_eq_true rfl) rfl
theorem f_246_1149 : fe0 246 1149 = some (.iaload, 1, 0, 0, 0, 0, 0) := kc_246_7 (Nat.le_of_ble_eq_true rfl) rfl
theorem f_246_1150 : fe0 246 1150 = some (.aload_n 0, 1, 0, 0, 0, 0, 0) := kc_246_7 (Nat.le_of_ble_eq_true rfl) rfl
theorem f_246_1151 : fe0 246 1151 = some (.iload_n 3, 1, 0, 0, 0, 0, 0) := kc_246_7 (Nat.le_of_ble_eq_true rfl) rfl
theorem f_246_1152 : fe0 246 1152 = some (.iconst 3, 1, 0, 0, 0, 0, 0) := kc_246_7 (Nat.le_of_ble_eq_true rfl) rfl
theorem f_246_1153 : fe0 246 1153 = some (.iadd, 1, 0, 0, 0, 0, 0) := kc_246_7 (Nat.le_of_ble_eq_true rfl) rfl
theorem f_246_1154 : fe0 246 1154 = some (.iaload, 1, 0, 0, 0, 0, 0) := kc_246_7 (Nat.le_of_ble_eq_true rfl) rfl
theorem f_246_1155 : fe0 246 1155 = some (.aload_n 0, 1, 0, 0, 0, 0, 0) := kc_246_7 (Nat.le_of_ble_eq_true rfl) rfl
theorem f_246_1156 : fe0 246 1156 = some (.iload_n 3, 1, 0, 0, 0, 0, 0) := kc_246_7 (Nat.le_of_ble_eq_true rfl) rfl
theorem f_246_1157 : fe0 246 1157 = some (.iconst 4, 1, 0, 0, 0, 0, 0) := kc_246_7 (Nat.le_of_ble_eq_true rfl) rfl
theorem f_246_1158 : fe0 246 1158 = some (.iadd, 1, 0, 0, 0, 0, 0) := kc_246_7 (Nat.le_of_ble_eq_true rfl) rfl
theorem f_246_1159 : fe0 246 1159 = some (.iaload, 1, 0, 0, 0, 0, 0) := kc_246_7 (Nat.le_of_ble_eq_true rfl) rfl
theorem f_246_1160 : fe0 246 1160 = some (.aload_n 0, 1, 0, 0, 0, 0, 0) := kc_246_7 (Nat.le_of_ble_eq_true rfl) rfl
theorem f_246_1161 : fe0 246 1161 = some (.iload_n 3, 1, 0, 0, 0, 0, 0) := kc_246_7 (Nat.le_of_ble_eq_true rfl) rfl
theorem f_246_1162 : fe0 246 1162 = some (.iconst 5, 1, 0, 0, 0, 0, 0) := kc_246_7 (Nat.le_of_ble_eq_true rfl) rfl
theorem f_246_1163 : fe0 246 1163 = some (.iadd, 1, 0, 0, 0, 0, 0) := kc_246_7 (Nat.le_of_ble_eq_true rfl) rfl
theorem f_246_1164 : fe0 246 1164 = some (.iaload, 1, 0, 0, 0, 0, 0) := kc_246_7 (Nat.le_of_ble_eq_true rfl) rfl
theorem f_246_1165 : fe0 246 1165 = some (.invokevirtual 144, 3, 218, 5, 0, 9, 7013) := kc_246_7 (Nat.le_of_ble_eq_true rfl) rfl
theorem f_246_1168 : fe0 246 1168 = some (.if_icmp .eq 252, 3, 0, 0, 0, 0, 0) := kc_246_7 (Nat.le_of_ble_eq_true rfl) rfl
theorem f_246_1171 : fe0 246 1171 = some (.iconst 0, 1, 0, 0, 0, 0, 0) := kc_246_7 (Nat.le_of_ble_eq_true rfl) rfl
theorem f_246_1172 : fe0 246 1172 = some (.ireturn, 1, 1, 0, 0, 0, 0) := kc_246_8 (Nat.le_of_ble_eq_true rfl) rfl
theorem f_246_1173 : fe0 246 1173 = some (.aload_n 1, 1, 0, 0, 0, 0, 0) := kc_246_8 (Nat.le_of_ble_eq_true rfl) rfl
theorem f_246_1174 : fe0 246 1174 = some (.aload_n 0, 1, 0, 0, 0, 0, 0) := kc_246_8 (Nat.le_of_ble_eq_true rfl) rfl
theorem f_246_1175 : fe0 246 1175 = some (.iload_n 3, 1, 0, 0, 0, 0, 0) := kc_246_8 (Nat.le_of_ble_eq_true rfl) rfl
theorem f_246_1176 : fe0 246 1176 = some (.iconst 1, 1, 0, 0, 0, 0, 0) := kc_246_8 (Nat.le_of_ble_eq_true rfl) rfl
theorem f_246_1177 : fe0 246 1177 = some (.iadd, 1, 0, 0, 0, 0, 0) := kc_246_8 (Nat.le_of_ble_eq_true rfl) rfl
theorem f_246_1178 : fe0 246 1178 = some (.iaload, 1, 0, 0, 0, 0, 0) := kc_246_8 (Nat.le_of_ble_eq_true rfl) rfl
theorem f_246_1179 : fe0 246 1179 = some (.aload_n 0, 1, 0, 0, 0, 0, 0) := kc_246_8 (Nat.le_of_ble_eq_true rfl) rfl
theorem f_246_1180 : fe0 246 1180 = some (.iload_n 3, 1, 0, 0, 0, 0, 0) := kc_246_8 (Nat.le_of_ble_eq_true rfl) rfl
theorem f_246_1181 : fe0 246 1181 = some (.iconst 2, 1, 0, 0, 0, 0, 0) := kc_246_8 (Nat.le_of_ble_eq_true rfl) rfl
theorem f_246_1182 : fe0 246 1182 = some (.iadd, 1, 0, 0, 0, 0, 0) := kc_246_8 (Nat.le_of_ble_eq_true rfl) rfl
theorem f_246_1183 : fe0 246 1183 = some (.iaload, 1, 0, 0, 0, 0, 0) := kc_246_8 (Nat.le_of_ble_eq_true rfl) rfl
theorem f_246_1184 : fe0 246 1184 = some (.aload_n 0, 1, 0, 0, 0, 0, 0) := kc_246_8 (Nat.le_of_ble_eq_true rfl) rfl
theorem f_246_1185 : fe0 246 1185 = some (.iload_n 3, 1, 0, 0, 0, 0, 0) := kc_246_8 (Nat.le_of_ble_eq_true rfl) rfl
theorem f_246_1186 : fe0 246 1186 = some (.iconst 3, 1, 0, 0, 0, 0, 0) := kc_246_8 (Nat.le_of_ble_eq_true rfl) rfl
theorem f_246_1187 : fe0 246 1187 = some (.iadd, 1, 0, 0, 0, 0, 0) := kc_246_8 (Nat.le_of_ble_eq_true rfl) rfl
theorem f_246_1188 : fe0 246 1188 = some (.iaload, 1, 0, 0, 0, 0, 0) := kc_246_8 (Nat.le_of_ble_eq_true rfl) rfl
theorem f_246_1189 : fe0 246 1189 = some (.invokevirtual 145, 3, 113, 3, 0, 8, 4193) := kc_246_8 (Nat.le_of_ble_eq_true rfl) rfl
theorem f_246_1192 : fe0 246 1192 = some (.aload_n 2, 1, 0, 0, 0, 0, 0) := kc_246_8 (Nat.le_of_ble_eq_true rfl) rfl
theorem f_246_1193 : fe0 246 1193 = some (.aload_n 0, 1, 0, 0, 0, 0, 0) := kc_246_8 (Nat.le_of_ble_eq_true rfl) rfl
theorem f_246_1194 : fe0 246 1194 = some (.iload_n 3, 1, 0, 0, 0, 0, 0) := kc_246_8 (Nat.le_of_ble_eq_true rfl) rfl
theorem f_246_1195 : fe0 246 1195 = some (.iconst 1, 1, 0, 0, 0, 0, 0) := kc_246_8 (Nat.le_of_ble_eq_true rfl) rfl
theorem f_246_1196 : fe0 246 1196 = some (.iadd, 1, 0, 0, 0, 0, 0) := kc_246_8 (Nat.le_of_ble_eq_true rfl) rfl
theorem f_246_1197 : fe0 246 1197 = some (.iaload, 1, 0, 0, 0, 0, 0) := kc_246_8 (Nat.le_of_ble_eq_true rfl) rfl
theorem f_246_1198 : fe0 246 1198 = some (.aload_n 0, 1, 0, 0, 0, 0, 0) := kc_246_8 (Nat.le_of_ble_eq_true rfl) rfl
theorem f_246_1199 : fe0 246 1199 = some (.iload_n 3, 1, 0, 0, 0, 0, 0) := kc_246_8 (Nat.le_of_ble_eq_true rfl) rfl
theorem f_246_1200 : fe0 246 1200 = some (.iconst 2, 1, 0, 0, 0, 0, 0) := kc_246_8 (Nat.le_of_ble_eq_true rfl) rfl
theorem f_246_1201 : fe0 246 1201 = some (.iadd, 1, 0, 0, 0, 0, 0) := kc_246_8 (Nat.le_of_ble_eq_true rfl) rfl
theorem f_246_1202 : fe0 246 1202 = some (.iaload, 1, 0, 0, 0, 0, 0) := kc_246_8 (Nat.le_of_ble_eq_true rfl) rfl
theorem f_246_1203 : fe0 246 1203 = some (.aload_n 0, 1, 0, 0, 0, 0, 0) := kc_246_8 (Nat.le_of_ble_eq_true rfl) rfl
theorem f_246_1204 : fe0 246 1204 = some (.iload_n 3, 1, 0, 0, 0, 0, 0) := kc_246_8 (Nat.le_of_ble_eq_true rfl) rfl
theorem f_246_1205 : fe0 246 1205 = some (.iconst 3, 1, 0, 0, 0, 0, 0) := kc_246_8 (Nat.le_of_ble_eq_true rfl) rfl
theorem f_246_1206 : fe0 246 1206 = some (.iadd, 1, 0, 0, 0, 0, 0) := kc_246_8 (Nat.le_of_ble_eq_true rfl) rfl
theorem f_246_1207 : fe0 246 1207 = some (.iaload, 1, 0, 0, 0, 0, 0) := kc_246_8 (Nat.le_of_ble_eq_true rfl) rfl
theorem f_246_1208 : fe0 246 1208 = some (.invokevirtual 148, 3, 220, 3, 0, 9, 7017) := kc_246_8 (Nat.le_of_ble_eq_true rfl) rfl
theorem f_246_1211 : fe0 246 1211 = some (.if_icmp .eq 209, 3, 0, 0, 0, 0, 0) := kc_246_8 (Nat.le_of_ble_eq_true rfl) rfl
theorem f_246_1214 : fe0 246 1214 = some (.iconst 0, 1, 0, 0, 0, 0, 0) := kc_246_8 (Nat.le_of_ble_eq_true rfl) rfl
theorem f_246_1215 : fe0 246 1215 = some (.ireturn, 1, 1, 0, 0, 0, 0) := kc_246_8 (Nat.le_of_ble_eq_true rfl) rfl
theorem f_246_1216 : fe0 246 1216 = some (.aload_n 1, 1, 0, 0, 0, 0, 0) := kc_246_8 (Nat.le_of_ble_eq_true rfl) rfl
theorem f_246_1217 : fe0 246 1217 = some (.aload_n 0, 1, 0, 0, 0, 0, 0) := kc_246_8 (Nat.le_of_ble_eq_true rfl) rfl
theorem f_246_1218 : fe0 246 1218 = some (.iload_n 3, 1, 0, 0, 0, 0, 0) := kc_246_8 (Nat.le_of_ble_eq_true rfl) rfl
theorem f_246_1219 : fe0 246 1219 = some (.iconst 1, 1, 0, 0, 0, 0, 0) := kc_246_8 (Nat.le_of_ble_eq_true rfl) rfl
theorem f_246_1220 : fe0 246 1220 = some (.iadd, 1, 0, 0, 0, 0, 0) := kc_246_8 (Nat.le_of_ble_eq_true rfl) rfl
theorem f_246_1221 : fe0 246 1221 = some (.iaload, 1, 0, 0, 0, 0, 0) := kc_246_8 (Nat.le_of_ble_eq_true rfl) rfl
theorem f_246_1222 : fe0 246 1222 = some (.aload_n 0, 1, 0, 0, 0, 0, 0) := kc_246_8 (Nat.le_of_ble_eq_true rfl) rfl
theorem f_246_1223 : fe0 246 1223 = some (.iload_n 3, 1, 0, 0, 0, 0, 0) := kc_246_8 (Nat.le_of_ble_eq_true rfl) rfl
theorem f_246_1224 : fe0 246 1224 = some (.iconst 2, 1, 0, 0, 0, 0, 0) := kc_246_8 (Nat.le_of_ble_eq_true rfl) rfl
theorem f_246_1225 : fe0 246 1225 = some (.iadd, 1, 0, 0, 0, 0, 0) := kc_246_8 (Nat.le_of_ble_eq_true rfl) rfl
theorem f_246_1226 : fe0 246 1226 = some (.iaload, 1, 0, 0, 0, 0, 0) := kc_246_8 (Nat.le_of_ble_eq_true rfl) rfl
theorem f_246_1227 : fe0 246 1227 = some (.invokevirtual 149, 3, 114, 2, 0, 8, 4210) := kc_246_8 (Nat.le_of_ble_eq_true rfl) rfl
theorem f_246_1230 : fe0 246 1230 = some (.aload_n 2, 1, 0, 0, 0, 0, 0) := kc_246_8 (Nat.le_of_ble_eq_true rfl) rfl
theorem f_246_1231 : fe0 246 1231 = some (.aload_n 0, 1, 0, 0, 0, 0, 0) := kc_246_8 (Nat.le_of_ble_eq_true rfl) rfl
theorem f_246_1232 : fe0 246 1232 = some (.iload_n 3, 1, 0, 0, 0, 0, 0) := kc_246_8 (Nat.le_of_ble_eq_true rfl) rfl
theorem f_246_1233 : fe0 246 1233 = some (.iconst 1, 1, 0, 0, 0, 0, 0) := kc_246_8 (Nat.le_of_ble_eq_true rfl) rfl
theorem f_246_1234 : fe0 246 1234 = some (.iadd, 1, 0, 0, 0, 0, 0) := kc_246_8 (Nat.le_of_ble_eq_true rfl) rfl
theorem f_246_1235 : fe0 246 1235 = some (.iaload, 1, 0, 0, 0, 0, 0) := kc_246_8 (Nat.le_of_ble_eq_true rfl) rfl
theorem f_246_1236 : fe0 246 1236 = some (.aload_n 0, 1, 0, 0, 0, 0, 0) := kc_246_8 (Nat.le_of_ble_eq_true rfl) rfl
theorem f_246_1237 : fe0 246 1237 = some (.iload_n 3, 1, 0, 0, 0, 0, 0) := kc_246_8 (Nat.le_of_ble_eq_true rfl) rfl
theorem f_246_1238 : fe0 246 1238 = some (.iconst 2, 1, 0, 0, 0, 0, 0) := kc_246_8 (Nat.le_of_ble_eq_true rfl) rfl
theorem f_246_1239 : fe0 246 1239 = some (.iadd, 1, 0, 0, 0, 0, 0) := kc_246_8 (Nat.le_of_ble_eq_true rfl) rfl
theorem f_246_1240 : fe0 246 1240 = some (.iaload, 1, 0, 0, 0, 0, 0) := kc_246_8 (Nat.le_of_ble_eq_true rfl) rfl
theorem f_246_1241 : fe0 246 1241 = some (.invokevirtual 152, 3, 221, 2, 0, 9, 7025) := kc_246_8 (Nat.le_of_ble_eq_true rfl) rfl
theorem f_246_1244 : fe0 246 1244 = some (.if_icmp .eq 176, 3, 0, 0, 0, 0, 0) := kc_246_8 (Nat.le_of_ble_eq_true rfl) rfl
theorem f_246_1247 : fe0 246 1247 = some (.iconst 0, 1, 0, 0, 0, 0, 0) := kc_246_8 (Nat.le_of_ble_eq_true rfl) rfl
theorem f_246_1248 : fe0 246 1248 = some (.ireturn, 1, 1, 0, 0, 0, 0) := kc_246_8 (Nat.le_of_ble_eq_true rfl) rfl
theorem f_246_1249 : fe0 246 1249 = some (.aload_n 1, 1, 0, 0, 0, 0, 0) := kc_246_8 (Nat.le_of_ble_eq_true rfl) rfl
theorem f_246_1250 : fe0 246 1250 = some (.aload_n 0, 1, 0, 0, 0, 0, 0) := kc_246_8 (Nat.le_of_ble_eq_true rfl) rfl
theorem f_246_1251 : fe0 246 1251 = some (.iload_n 3, 1, 0, 0, 0, 0, 0) := kc_246_8 (Nat.le_of_ble_eq_true rfl) rfl
theorem f_246_1252 : fe0 246 1252 = some (.iconst 1, 1, 0, 0, 0, 0, 0) := kc_246_8 (Nat.le_of_ble_eq_true rfl) rfl
theorem f_246_1253 : fe0 246 1253 = some (.iadd, 1, 0, 0, 0, 0, 0) := kc_246_8 (Nat.le_of_ble_eq_true rfl) rfl
theorem f_246_1254 : fe0 246 1254 = some (.iaload, 1, 0, 0, 0, 0, 0) := kc_246_8 (Nat.le_of_ble_eq_true rfl) rfl
theorem f_246_1255 : fe0 246 1255 = some (.aload_n 0, 1, 0, 0, 0, 0, 0) := kc_246_8 (Nat.le_of_ble_eq_true rfl) rfl
theorem f_246_1256 : fe0 246 1256 = some (.iload_n 3, 1, 0, 0, 0, 0, 0) := kc_246_8 (Nat.le_of_ble_eq_true rfl) rfl
theorem f_246_1257 : fe0 246 1257 = some (.iconst 2, 1, 0, 0, 0, 0, 0) := kc_246_8 (Nat.le_of_ble_eq_true rfl) rfl
theorem f_246_1258 : fe0 246 1258 = some (.iadd, 1, 0, 0, 0, 0, 0) := kc_246_8 (Nat.le_of_ble_eq_true rfl) rfl
theorem f_246_1259 : fe0 246 1259 = some (.iaload, 1, 0, 0, 0, 0, 0) := kc_246_8 (Nat.le_of_ble_eq_true rfl) rfl
theorem f_246_1260 : fe0 246 1260 = some (.invokevirtual 153, 3, 115, 2, 0, 8, 4214) := kc_246_8 (Nat.le_of_ble_eq_true rfl) rfl
theorem f_246_1263 : fe0 246 1263 = some (.aload_n 2, 1, 0, 0, 0, 0, 0) := kc_246_8 (Nat.le_of_ble_eq_true rfl) rfl
theorem f_246_1264 : fe0 246 1264 = some (.aload_n 0, 1, 0, 0, 0, 0, 0) := kc_246_8 (Nat.le_of_ble_eq_true rfl) rfl
theorem f_246_1265 : fe0 246 1265 = some (.iload_n 3, 1, 0, 0, 0, 0, 0) := kc_246_8 (Nat.le_of_ble_eq_true rfl) rfl
theorem f_246_1266 : fe0 246 1266 = some (.iconst 1, 1, 0, 0, 0, 0, 0) := kc_246_8 (Nat.le_of_ble_eq_true rfl) rfl
theorem f_246_1267 : fe0 246 1267 = some (.iadd, 1, 0, 0, 0, 0, 0) := kc_246_8 (Nat.le_of_ble_eq_true rfl) rfl
theorem f_246_1268 : fe0 246 1268 = some (.iaload, 1, 0, 0, 0, 0, 0) := kc_246_8 (Nat.le_of_ble_eq_true rfl) rfl
theorem f_246_1269 : fe0 246 1269 = some (.aload_n 0, 1, 0, 0, 0, 0, 0) := kc_246_8 (Nat.le_of_ble_eq_true rfl) rfl
theorem f_246_1270 : fe0 246 1270 = some (.iload_n 3, 1, 0, 0, 0, 0, 0) := kc_246_8 (Nat.le_of_ble_eq_true rfl) rfl
theorem f_246_1271 : fe0 246 1271 = some (.iconst 2, 1, 0, 0, 0, 0, 0) := kc_246_8 (Nat.le_of_ble_eq_true rfl) rfl
theorem f_246_1272 : fe0 246 1272 = some (.iadd, 1, 0, 0, 0, 0, 0) := kc_246_8 (Nat.le_of_ble_eq_true rfl) rfl
theorem f_246_1273 : fe0 246 1273 = some (.iaload, 1, 0, 0, 0, 0, 0) := kc_246_8 (Nat.le_of_ble_eq_true rfl) rfl
theorem f_246_1274 : fe0 246 1274 = some (.invokevirtual 156, 3, 222, 2, 0, 9, 7029) := kc_246_8 (Nat.le_of_ble_eq_true rfl) rfl
theorem f_246_1277 : fe0 246 1277 = some (.if_icmp .eq 143, 3, 0, 0, 0, 0, 0) := kc_246_8 (Nat.le_of_ble_eq_true rfl) rfl
theorem f_246_1280 : fe0 246 1280 = some (.iconst 0, 1, 0, 0, 0, 0, 0) := kc_246_8 (Nat.le_of_ble_eq_true rfl) rfl
theorem f_246_1281 : fe0 246 1281 = some (.ireturn, 1, 1, 0, 0, 0, 0) := kc_246_8 (Nat.le_of_ble_eq_true rfl) rfl
theorem f_246_1282 : fe0 246 1282 = some (.aload_n 1, 1, 0, 0, 0, 0, 0) := kc_246_8 (Nat.le_of_ble_eq_true rfl) rfl
theorem f_246_1283 : fe0 246 1283 = some (.aload_n 0, 1, 0, 0, 0, 0, 0) := kc_246_8 (Nat.le_of_ble_eq_true rfl) rfl
theorem f_246_1284 : fe0 246 1284 = some (.iload_n 3, 1, 0, 0, 0, 0, 0) := kc_246_8 (Nat.le_of_ble_eq_true rfl) rfl
theorem f_246_1285 : fe0 246 1285 = some (.iconst 1, 1, 0, 0, 0, 0, 0) := kc_246_8 (Nat.le_of_ble_eq_true rfl) rfl
theorem f_246_1286 : fe0 246 1286 = some (.iadd, 1, 0, 0, 0, 0, 0) := kc_246_8 (Nat.le_of_ble_eq_true rfl) rfl
theorem f_246_1287 : fe0 246 1287 = some (.iaload, 1, 0, 0, 0, 0, 0) := kc_246_8 (Nat.le_of_ble_eq_true rfl) rfl
theorem f_246_1288 : fe0 246 1288 = some (.aload_n 0, 1, 0, 0, 0, 0, 0) := kc_246_8 (Nat.le_of_ble_eq_true rfl) rfl
theorem f_246_1289 : fe0 246 1289 = some (.iload_n 3, 1, 0, 0, 0, 0, 0) := kc_246_8 (Nat.le_of_ble_eq_true rfl) rfl
theorem f_246_1290 : fe0 246 1290 = some (.iconst 2, 1, 0, 0, 0, 0, 0) := kc_246_9 (Nat.le_of_ble_eq_true rfl) rfl
theorem f_246_1291 : fe0 246 1291 = some (.iadd, 1, 0, 0, 0, 0, 0) := kc_246_9 (Nat.le_of_ble_eq_true rfl) rfl
theorem f_246_1292 : fe0 246 1292 = some (.iaload, 1, 0, 0, 0, 0, 0) := kc_246_9 (Nat.le_of_ble_eq_true rfl) rfl
theorem f_246_1293 : fe0 246 1293 = some (.invokevirtual 157, 3, 116, 2, 0, 8, 4218) := kc_246_9 (Nat.le_of_ble_eq_true rfl) rfl
theorem f_246_1296 : fe0 246 1296 = some (.aload_n 2, 1, 0, 0, 0, 0, 0) := kc_246_9 (Nat.le_of_ble_eq_true rfl) rfl
theorem f_246_1297 : fe0 246 1297 = some (.aload_n 0, 1, 0, 0, 0, 0, 0) := kc_246_9 (Nat.le_of_ble_eq_true rfl) rfl
theorem f_246_1298 : fe0 246 1298 = some (.iload_n 3, 1, 0, 0, 0, 0, 0) := kc_246_9 (Nat.le_of_ble_eq_true rfl) rfl
theorem f_246_1299 : fe0 246 1299 = some (.iconst 1, 1, 0, 0, 0, 0, 0) := kc_246_9 (Nat.le_of_ble_eq_true rfl) rfl
theorem f_246_1300 : fe0 246 1300 = some (.iadd, 1, 0, 0, 0, 0, 0) := kc_246_9 (Nat.le_of_ble_eq_true rfl) rfl
theorem f_246_1301 : fe0 246 1301 = some (.iaload, 1, 0, 0, 0, 0, 0) := kc_246_9 (Nat.le_of_ble_eq_true rfl) rfl
theorem f_246_1302 : fe0 246 1302 = some (.aload_n 0, 1, 0, 0, 0, 0, 0) := kc_246_9 (Nat.le_of_ble_eq_true rfl) rfl
theorem f_246_1303 : fe0 246 1303 = some (.iload_n 3, 1, 0, 0, 0, 0, 0) := kc_246_9 (Nat.le_of_ble_eq_true rfl) rfl
theorem f_246_1304 : fe0 246 1304 = some (.iconst 2, 1, 0, 0, 0, 0, 0) := kc_246_9 (Nat.le_of_ble_eq_true rfl) rfl
theorem f_246_1305 : fe0 246 1305 = some (.iadd, 1, 0, 0, 0, 0, 0) := kc_246_9 (Nat.le_of_ble_eq_true rfl) rfl
theorem f_246_1306 : fe0 246 1306 = some (.iaload, 1, 0, 0, 0, 0, 0) := kc_246_9 (Nat.le_of_ble_eq_true rfl) rfl
theorem f_246_1307 : fe0 246 1307 = some (.invokevirtual 160, 3, 223, 2, 0, 9, 7033) := kc_246_9 (Nat.le_of_ble_eq_true rfl) rfl
theorem f_246_1310 : fe0 246 1310 = some (.if_icmp .eq 110, 3, 0, 0, 0, 0, 0) := kc_246_9 (Nat.le_of_ble_eq_true rfl) rfl
theorem f_246_1313 : fe0 246 1313 = some (.iconst 0, 1, 0, 0, 0, 0, 0) := kc_246_9 (Nat.le_of_ble_eq_true rfl) rfl
theorem f_246_1314 : fe0 246 1314 = some (.ireturn, 1, 1, 0, 0, 0, 0) := kc_246_9 (Nat.le_of_ble_eq_true rfl) rfl
theorem f_246_1315 : fe0 246 1315 = some (.aload_n 1, 1, 0, 0, 0, 0, 0) := kc_246_9 (Nat.le_of_ble_eq_true rfl) rfl
theorem f_246_1316 : fe0 246 1316 = some (.aload_n 0, 1, 0, 0, 0, 0, 0) := kc_246_9 (Nat.le_of_ble_eq_true rfl) rfl
theorem f_246_1317 : fe0 246 1317 = some (.iload_n 3, 1, 0, 0, 0, 0, 0) := kc_246_9 (Nat.le_of_ble_eq_true rfl) rfl
theorem f_246_1318 : fe0 246 1318 = some (.iconst 1, 1, 0, 0, 0, 0, 0) := kc_246_9 (Nat.le_of_ble_eq_true rfl) rfl
theorem f_246_1319 : fe0 246 1319 = some (.iadd, 1, 0, 0, 0, 0, 0) := kc_246_9 (Nat.le_of_ble_eq_true rfl) rfl
theorem f_246_1320 : fe0 246 1320 = some (.iaload, 1, 0, 0, 0, 0, 0) := kc_246_9 (Nat.le_of_ble_eq_true rfl) rfl
theorem f_246_1321 : fe0 246 1321 = some (.invokevirtual 161, 3, 117, 1, 0, 8, 4223) := kc_246_9 (Nat.le_of_ble_eq_true rfl) rfl
theorem f_246_1324 : fe0 246 1324 = some (.aload_n 2, 1, 0, 0, 0, 0, 0) := kc_246_9 (Nat.le_of_ble_eq_true rfl) rfl
theorem f_246_1325 : fe0 246 1325 = some (.aload_n 0, 1, 0, 0, 0, 0, 0) := kc_246_9 (Nat.le_of_ble_eq_true rfl) rfl
theorem f_246_1326 : fe0 246 1326 = some (.iload_n 3, 1, 0, 0, 0, 0, 0) := kc_246_9 (Nat.le_of_ble_eq_true rfl) rfl
theorem f_246_1327 : fe0 246 1327 = some (.iconst 1, 1, 0, 0, 0, 0, 0) := kc_246_9 (Nat.le_of_ble_eq_true rfl) rfl
theorem f_246_1328 : fe0 246 1328 = some (.iadd, 1, 0, 0, 0, 0, 0) := kc_246_9 (Nat.le_of_ble_eq_true rfl) rfl
theorem f_246_1329 : fe0 246 1329 = some (.iaload, 1, 0, 0, 0, 0, 0) := kc_246_9 (Nat.le_of_ble_eq_true rfl) rfl
theorem f_246_1330 : fe0 246 1330 = some (.invokevirtual 164, 3, 224, 1, 0, 9, 7038) := kc_246_9 (Nat.le_of_ble_eq_true rfl) rfl
theorem f_246_1333 : fe0 246 1333 = some (.if_icmp .eq 87, 3, 0, 0, 0, 0, 0) := kc_246_9 (Nat.le_of_ble_eq_true rfl) rfl
theorem f_246_1336 : fe0 246 1336 = some (.iconst 0, 1, 0, 0, 0, 0, 0) := kc_246_9 (Nat.le_of_ble_eq_true rfl) rfl
theorem f_246_1337 : fe0 246 1337 = some (.ireturn, 1, 1, 0, 0, 0, 0) := kc_246_9 (Nat.le_of_ble_eq_true rfl) rfl
theorem f_246_1338 : fe0 246 1338 = some (.aload_n 1, 1, 0, 0, 0, 0, 0) := kc_246_9 (Nat.le_of_ble_eq_true rfl) rfl
theorem f_246_1339 : fe0 246 1339 = some (.aload_n 0, 1, 0, 0, 0, 0, 0) := kc_246_9 (Nat.le_of_ble_eq_true rfl) rfl
theorem f_246_1340 : fe0 246 1340 = some (.iload_n 3, 1, 0, 0, 0, 0, 0) := kc_246_9 (Nat.le_of_ble_eq_true rfl) rfl
theorem f_246_1341 : fe0 246 1341 = some (.iconst 1, 1, 0, 0, 0, 0, 0) := kc_246_9 (Nat.le_of_ble_eq_true rfl) rfl
theorem f_246_1342 : fe0 246 1342 = some (.iadd, 1, 0, 0, 0, 0, 0) := kc_246_9 (Nat.le_of_ble_eq_true rfl) rfl
theorem f_246_1343 : fe0 246 1343 = some (.iaload, 1, 0, 0, 0, 0, 0) := kc_246_9 (Nat.le_of_ble_eq_true rfl) rfl
theorem f_246_1344 : fe0 246 1344 = some (.aload_n 0, 1, 0, 0, 0, 0, 0) := kc_246_9 (Nat.le_of_ble_eq_true rfl) rfl
theorem f_246_1345 : fe0 246 1345 = some (.iload_n 3, 1, 0, 0, 0, 0, 0) := kc_246_9 (Nat.le_of_ble_eq_true rfl) rfl
theorem f_246_1346 : fe0 246 1346 = some (.iconst 2, 1, 0, 0, 0, 0, 0) := kc_246_9 (Nat.le_of_ble_eq_true rfl) rfl
theorem f_246_1347 : fe0 246 1347 = some (.iadd, 1, 0, 0, 0, 0, 0) := kc_246_9 (Nat.le_of_ble_eq_true rfl) rfl
theorem f_246_1348 : fe0 246 1348 = some (.iaload, 1, 0, 0, 0, 0, 0) := kc_246_9 (Nat.le_of_ble_eq_true rfl) rfl
theorem f_246_1349 : fe0 246 1349 = some (.invokevirtual 165, 3, 118, 2, 0, 8, 4227) := kc_246_9 (Nat.le_of_ble_eq_true rfl) rfl
theorem f_246_1352 : fe0 246 1352 = some (.aload_n 2, 1, 0, 0, 0, 0, 0) := kc_246_9 (Nat.le_of_ble_eq_true rfl) rfl
theorem f_246_1353 : fe0 246 1353 = some (.aload_n 0, 1, 0, 0, 0, 0, 0) := kc_246_9 (Nat.le_of_ble_eq_true rfl) rfl
theorem f_246_1354 : fe0 246 1354 = some (.iload_n 3, 1, 0, 0, 0, 0, 0) := kc_246_9 (Nat.le_of_ble_eq_true rfl) rfl
theorem f_246_1355 : fe0 246 1355 = some (.iconst 1, 1, 0, 0, 0, 0, 0) := kc_246_9 (Nat.le_of_ble_eq_true rfl) rfl
theorem f_246_1356 : fe0 246 1356 = some (.iadd, 1, 0, 0, 0, 0, 0) := kc_246_9 (Nat.le_of_ble_eq_true rfl) rfl
theorem f_246_1357 : fe0 246 1357 = some (.iaload, 1, 0, 0, 0, 0, 0) := kc_246_9 (Nat.le_of_ble_eq_true rfl) rfl
theorem f_246_1358 : fe0 246 1358 = some (.aload_n 0, 1, 0, 0, 0, 0, 0) := kc_246_9 (Nat.le_of_ble_eq_true rfl) rfl
theorem f_246_1359 : fe0 246 1359 = some (.iload_n 3, 1, 0, 0, 0, 0, 0) := kc_246_9 (Nat.le_of_ble_eq_true rfl) rfl
theorem f_246_1360 : fe0 246 1360 = some (.iconst 2, 1, 0, 0, 0, 0, 0) := kc_246_9 (Nat.le_of_ble_eq_true rfl) rfl
theorem f_246_1361 : fe0 246 1361 = some (.iadd, 1, 0, 0, 0, 0, 0) := kc_246_9 (Nat.le_of_ble_eq_true rfl) rfl
theorem f_246_1362 : fe0 246 1362 = some (.iaload, 1, 0, 0, 0, 0, 0) := kc_246_9 (Nat.le_of_ble_eq_true rfl) rfl
theorem f_246_1363 : fe0 246 1363 = some (.invokevirtual 168, 3, 226, 2, 0, 9, 7042) := kc_246_9 (Nat.le_of_ble_eq_true rfl) rfl
theorem f_246_1366 : fe0 246 1366 = some (.if_icmp .eq 54, 3, 0, 0, 0, 0, 0) := kc_246_9 (Nat.le_of_ble_eq_true rfl) rfl
theorem f_246_1369 : fe0 246 1369 = some (.iconst 0, 1, 0, 0, 0, 0, 0) := kc_246_9 (Nat.le_of_ble_eq_true rfl) rfl
theorem f_246_1370 : fe0 246 1370 = some (.ireturn, 1, 1, 0, 0, 0, 0) := kc_246_9 (Nat.le_of_ble_eq_true rfl) rfl
theorem f_246_1371 : fe0 246 1371 = some (.aload_n 1, 1, 0, 0, 0, 0, 0) := kc_246_9 (Nat.le_of_ble_eq_true rfl) rfl
theorem f_246_1372 : fe0 246 1372 = some (.invokevirtual 169, 3, 119, 0, 0, 8, 5005) := kc_246_9 (Nat.le_of_ble_eq_true rfl) rfl
theorem f_246_1375 : fe0 246 1375 = some (.aload_n 2, 1, 0, 0, 0, 0, 0) := kc_246_9 (Nat.le_of_ble_eq_true rfl) rfl
theorem f_246_1376 : fe0 246 1376 = some (.invokevirtual 172, 3, 227, 0, 0, 9, 7051) := kc_246_9 (Nat.le_of_ble_eq_true rfl) rfl
theorem f_246_1379 : fe0 246 1379 = some (.if_icmp .eq 41, 3, 0, 0, 0, 0, 0) := kc_246_9 (Nat.le_of_ble_eq_true rfl) rfl
theorem f_246_1382 : fe0 246 1382 = some (.iconst 0, 1, 0, 0, 0, 0, 0) := kc_246_9 (Nat.le_of_ble_eq_true rfl) rfl
theorem f_246_1383 : fe0 246 1383 = some (.ireturn, 1, 1, 0, 0, 0, 0) := kc_246_9 (Nat.le_of_ble_eq_true rfl) rfl
theorem f_246_1384 : fe0 246 1384 = some (.aload_n 1, 1, 0, 0, 0, 0, 0) := kc_246_9 (Nat.le_of_ble_eq_true rfl) rfl
theorem f_246_1385 : fe0 246 1385 = some (.invokevirtual 173, 3, 120, 0, 0, 8, 5009) := kc_246_9 (Nat.le_of_ble_eq_true rfl) rfl
theorem f_246_1388 : fe0 246 1388 = some (.aload_n 2, 1, 0, 0, 0, 0, 0) := kc_246_9 (Nat.le_of_ble_eq_true rfl) rfl
theorem f_246_1389 : fe0 246 1389 = some (.invokevirtual 176, 3, 228, 0, 0, 9, 7055) := kc_246_9 (Nat.le_of_ble_eq_true rfl) rfl
theorem f_246_1392 : fe0 246 1392 = some (.if_icmp .eq 28, 3, 0, 0, 0, 0, 0) := kc_246_9 (Nat.le_of_ble_eq_true rfl) rfl
theorem f_246_1395 : fe0 246 1395 = some (.iconst 0, 1, 0, 0, 0, 0, 0) := kc_246_9 (Nat.le_of_ble_eq_true rfl) rfl
theorem f_246_1396 : fe0 246 1396 = some (.ireturn, 1, 1, 0, 0, 0, 0) := kc_246_9 (Nat.le_of_ble_eq_true rfl) rfl
theorem f_246_1397 : fe0 246 1397 = some (.aload_n 1, 1, 0, 0, 0, 0, 0) := kc_246_9 (Nat.le_of_ble_eq_true rfl) rfl
theorem f_246_1398 : fe0 246 1398 = some (.aload_n 0, 1, 0, 0, 0, 0, 0) := kc_246_9 (Nat.le_of_ble_eq_true rfl) rfl
theorem f_246_1399 : fe0 246 1399 = some (.iload_n 3, 1, 0, 0, 0, 0, 0) := kc_246_9 (Nat.le_of_ble_eq_true rfl) rfl
theorem f_246_1400 : fe0 246 1400 = some (.iconst 1, 1, 0, 0, 0, 0, 0) := kc_246_9 (Nat.le_of_ble_eq_true rfl) rfl
theorem f_246_1401 : fe0 246 1401 = some (.iadd, 1, 0, 0, 0, 0, 0) := kc_246_9 (Nat.le_of_ble_eq_true rfl) rfl
theorem f_246_1402 : fe0 246 1402 = some (.iaload, 1, 0, 0, 0, 0, 0) := kc_246_9 (Nat.le_of_ble_eq_true rfl) rfl
theorem f_246_1403 : fe0 246 1403 = some (.invokevirtual 177, 3, 121, 1, 0, 8, 5013) := kc_246_9 (Nat.le_of_ble_eq_true rfl) rfl
theorem f_246_1406 : fe0 246 1406 = some (.aload_n 2, 1, 0, 0, 0, 0, 0) := kc_246_9 (Nat.le_of_ble_eq_true rfl) rfl
theorem f_246_1407 : fe0 246 1407 = some (.aload_n 0, 1, 0, 0, 0, 0, 0) := kc_246_9 (Nat.le_of_ble_eq_true rfl) rfl
theorem f_246_1408 : fe0 246 1408 = some (.iload_n 3, 1, 0, 0, 0, 0, 0) := kc_246_9 (Nat.le_of_ble_eq_true rfl) rfl
theorem f_246_1409 : fe0 246 1409 = some (.iconst 1, 1, 0, 0, 0, 0, 0) := kc_246_9 (Nat.le_of_ble_eq_true rfl) rfl
theorem f_246_1410 : fe0 246 1410 = some (.iadd, 1, 0, 0, 0, 0, 0) := kc_246_9 (Nat.le_of_ble_eq_true rfl) rfl
theorem f_246_1411 : fe0 246 1411 = some (.iaload, 1, 0, 0, 0, 0, 0) := kc_246_9 (Nat.le_of_ble_eq_true rfl) rfl
theorem f_246_1412 : fe0 246 1412 = some (.invokevirtual 180, 3, 229, 1, 0, 9, 7059) := kc_246_9 (Nat.le_of_ble_eq_true rfl) rfl
theorem f_246_1415 : fe0 246 1415 = some (.if_icmp .eq 5, 3, 0, 0, 0, 0, 0) := kc_246_9 (Nat.le_of_ble_eq_true rfl) rfl
theorem f_246_1418 : fe0 246 1418 = some (.iconst 0, 1, 0, 0, 0, 0, 0) := kc_246_9 (Nat.le_of_ble_eq_true rfl) rfl
theorem f_246_1419 : fe0 246 1419 = some (.ireturn, 1, 1, 0, 0, 0, 0) := kc_246_9 (Nat.le_of_ble_eq_true rfl) rfl
theorem f_246_1420 : fe0 246 1420 = some (.iinc 3 6, 3, 0, 0, 0, 0, 0) := kc_246_9 (Nat.le_of_ble_eq_true rfl) rfl
theorem f_246_1423 : fe0 246 1423 = some (.goto (-1405), 3, 0, 0, 0, 0, 0) := kc_246_9 (Nat.le_of_ble_eq_true rfl) rfl
theorem f_246_1426 : fe0 246 1426 = some (.iconst 1, 1, 0, 0, 0, 0, 0) := kc_246_9 (Nat.le_of_ble_eq_true rfl) rfl
theorem f_246_1427 : fe0 246 1427 = some (.ireturn, 1, 1, 0, 0, 0, 0) := kc_246_9 (Nat.le_of_ble_eq_true rfl) rfl
theorem q_246_0 (d : Nat) (l0 : Nat) (μ : aMem) : Rn (d + 1) 246 (0, [.ref l0, un, un, un], [], μ) = if mN μ < 900000 then (if (mN μ) < 999999 then ((cV d 81 [.ref (mN μ)] (newC μ 8 12)).bind fun p2 => if mN p2 < 900000 then (if (mN p2) < 999999 then ((cV d 132 [.ref (mN p2)] (newC p2 9 38)).bind fun p5 => Rn (d + 1) 246 (18, [.ref l0, .ref (mN μ), .ref (mN p2), .int 0], [], p5)) else none) else none) else none) else none :=
  (e_gd (L := [.ref l0, un, un, un]) (st := []) (μ := μ) f_246_0 rfl).trans (g_congr (nw_iff (by decide)) (fun h1 => (e_nx f_246_3 rfl).trans ((e_gV (L := [.ref l0, un, un, un]) (st := [.ref (mN μ), .ref (mN μ)]) (μ := newC μ 8 12) (L' := [.ref l0, un, un, un]) (st' := [.ref (mN μ)]) f_246_4 rfl rfl).trans (g_congr (v_c3 rfl (Nat.le_of_ble_eq_true rfl)) (fun h3 => m_congr fun p2 => (e_nx (q := (_, [.ref l0, .ref (mN μ), un, un], _, _)) f_246_7 rfl).trans ((e_gd (L := [.ref l0, .ref (mN μ), un, un]) (st := []) (μ := p2) f_246_8 rfl).trans (g_congr (nw_iff (by decide)) (fun h4 => (e_nx f_246_11 rfl).trans ((e_gV (L := [.ref l0, .ref (mN μ), un, un]) (st := [.ref (mN p2), .ref (mN p2)]) (μ := newC p2 9 38) (L' := [.ref l0, .ref (mN μ), un, un]) (st' := [.ref (mN p2)]) f_246_12 rfl rfl).trans (g_congr (v_c3 rfl (Nat.le_of_ble_eq_true rfl)) (fun h6 => m_congr fun p5 => (e_nx (q := (_, [.ref l0, .ref (mN μ), .ref (mN p2), un], _, _)) f_246_15 rfl).trans ((e_nx (q := (_, _, .int 0 :: _, _)) f_246_16 rfl).trans (e_nx (q := (_, [.ref l0, .ref (mN μ), .ref (mN p2), .int 0], _, _)) f_246_17 rfl)))))))))))))
theorem q_246_18 (d : Nat) (l0 : Nat) (l1 : Nat) (l2 : Nat) (x3 : Int32) (μ : aMem) : Rn (d + 1) 246 (18, [.ref l0, .ref l1, .ref l2, .int x3], [], μ) = (rdL μ l0).bind fun v1 => if (v1 - 6) < x3 then (some (some (.int 1), μ)) else ((rdI μ l0 x3).bind fun v3 => if (v3 &&& 63) = 0 then (Rn (d + 1) 246 (208, [.ref l0, .ref l1, .ref l2, .int x3], [], μ)) else (if (v3 &&& 63) = 1 then (Rn (d + 1) 246 (261, [.ref l0, .ref l1, .ref l2, .int x3], [], μ)) else (if (v3 &&& 63) = 2 then (Rn (d + 1) 246 (294, [.ref l0, .ref l1, .ref l2, .int x3], [], μ)) else (if (v3 &&& 63) = 3 then (Rn (d + 1) 246 (327, [.ref l0, .ref l1, .ref l2, .int x3], [], μ)) else (if (v3 &&& 63) = 4 then (Rn (d + 1) 246 (360, [.ref l0, .ref l1, .ref l2, .int x3], [], μ)) else (if (v3 &&& 63) = 5 then (Rn (d + 1) 246 (403, [.ref l0, .ref l1, .ref l2, .int x3], [], μ)) else (if (v3 &&& 63) = 6 then (Rn (d + 1) 246 (446, [.ref l0, .ref l1, .ref l2, .int x3], [], μ)) else (if (v3 &&& 63) = 7 then (Rn (d + 1) 246 (489, [.ref l0, .ref l1, .ref l2, .int x3], [], μ)) else (if (v3 &&& 63) = 8 then (Rn (d + 1) 246 (522, [.ref l0, .ref l1, .ref l2, .int x3], [], μ)) else (if (v3 &&& 63) = 9 then (Rn (d + 1) 246 (545, [.ref l0, .ref l1, .ref l2, .int x3], [], μ)) else (if (v3 &&& 63) = 10 then (Rn (d + 1) 246 (568, [.ref l0, .ref l1, .ref l2, .int x3], [], μ)) else (if (v3 &&& 63) = 11 then (Rn (d + 1) 246 (591, [.ref l0, .ref l1, .ref l2, .int x3], [], μ)) else (if (v3 &&& 63) = 12 then (Rn (d + 1) 246 (604, [.ref l0, .ref l1, .ref l2, .int x3], [], μ)) else (if (v3 &&& 63) = 13 then (Rn (d + 1) 246 (617, [.ref l0, .ref l1, .ref l2, .int x3], [], μ)) else (if (v3 &&& 63) = 14 then (Rn (d + 1) 246 (630, [.ref l0, .ref l1, .ref l2, .int x3], [], μ)) else (if (v3 &&& 63) = 15 then (Rn (d + 1) 246 (653, [.ref l0, .ref l1, .ref l2, .int x3], [], μ)) else (if (v3 &&& 63) = 16 then (Rn (d + 1) 246 (696, [.ref l0, .ref l1, .ref l2, .int x3], [], μ)) else (if (v3 &&& 63) = 17 then (Rn (d + 1) 246 (730, [.ref l0, .ref l1, .ref l2, .int x3], [], μ)) else (if (v3 &&& 63) = 18 then (Rn (d + 1) 246 (753, [.ref l0, .ref l1, .ref l2, .int x3], [], μ)) else (if (v3 &&& 63) = 19 then (Rn (d + 1) 246 (777, [.ref l0, .ref l1, .ref l2, .int x3], [], μ)) else (if (v3 &&& 63) = 20 then (Rn (d + 1) 246 (810, [.ref l0, .ref l1, .ref l2, .int x3], [], μ)) else (if (v3 &&& 63) = 21 then (Rn (d + 1) 246 (833, [.ref l0, .ref l1, .ref l2, .int x3], [], μ)) else (if (v3 &&& 63) = 22 then (Rn (d + 1) 246 (876, [.ref l0, .ref l1, .ref l2, .int x3], [], μ)) else (if (v3 &&& 63) = 23 then (Rn (d + 1) 246 (899, [.ref l0, .ref l1, .ref l2, .int x3], [], μ)) else (if (v3 &&& 63) = 24 then (Rn (d + 1) 246 (912, [.ref l0, .ref l1, .ref l2, .int x3], [], μ)) else (if (v3 &&& 63) = 25 then (Rn (d + 1) 246 (945, [.ref l0, .ref l1, .ref l2, .int x3], [], μ)) else (if (v3 &&& 63) = 26 then (Rn (d + 1) 246 (968, [.ref l0, .ref l1, .ref l2, .int x3], [], μ)) else (if (v3 &&& 63) = 27 then (Rn (d + 1) 246 (1011, [.ref l0, .ref l1, .ref l2, .int x3], [], μ)) else (if (v3 &&& 63) = 28 then (Rn (d + 1) 246 (1054, [.ref l0, .ref l1, .ref l2, .int x3], [], μ)) else (if (v3 &&& 63) = 29 then (Rn (d + 1) 246 (1077, [.ref l0, .ref l1, .ref l2, .int x3], [], μ)) else (if (v3 &&& 63) = 30 then (Rn (d + 1) 246 (1110, [.ref l0, .ref l1, .ref l2, .int x3], [], μ)) else (if (v3 &&& 63) = 31 then (Rn (d + 1) 246 (1173, [.ref l0, .ref l1, .ref l2, .int x3], [], μ)) else (if (v3 &&& 63) = 32 then (Rn (d + 1) 246 (1216, [.ref l0, .ref l1, .ref l2, .int x3], [], μ)) else (if (v3 &&& 63) = 33 then (Rn (d + 1) 246 (1249, [.ref l0, .ref l1, .ref l2, .int x3], [], μ)) else (if (v3 &&& 63) = 34 then (Rn (d + 1) 246 (1282, [.ref l0, .ref l1, .ref l2, .int x3], [], μ)) else (if (v3 &&& 63) = 35 then (Rn (d + 1) 246 (1315, [.ref l0, .ref l1, .ref l2, .int x3], [], μ)) else (if (v3 &&& 63) = 36 then (Rn (d + 1) 246 (1338, [.ref l0, .ref l1, .ref l2, .int x3], [], μ)) else (if (v3 &&& 63) = 37 then (Rn (d + 1) 246 (1371, [.ref l0, .ref l1, .ref l2, .int x3], [], μ)) else (if (v3 &&& 63) = 38 then (Rn (d + 1) 246 (1384, [.ref l0, .ref l1, .ref l2, .int x3], [], μ)) else (if (v3 &&& 63) = 39 then (Rn (d + 1) 246 (1397, [.ref l0, .ref l1, .ref l2, .int x3], [], μ)) else (Rn (d + 1) 246 (1420, [.ref l0, .ref l1, .ref l2, .int x3], [], μ)))))))))))))))))))))))))))))))))))))))))) :=
  (e_nx f_246_18 rfl).trans ((e_nx f_246_19 rfl).trans ((e_al (L := [.ref l0, .ref l1, .ref l2, .int x3]) (r := [.int x3]) (μ := μ) f_246_20).trans (m_congr fun v1 => (e_nx (q := (_, _, .int 6 :: _, _)) f_246_21 rfl).trans ((e_nx f_246_23 rfl).trans ((e_gt f_246_24 rfl).trans (b_congr (fun h2 => (e_nx (q := (_, _, .int 1 :: _, _)) f_246_1426 rfl).trans (e_rt f_246_1427 rfl)) (fun h2 => (e_nx f_246_27 rfl).trans ((e_nx f_246_28 rfl).trans ((e_ia (L := [.ref l0, .ref l1, .ref l2, .int x3]) (r := []) (μ := μ) f_246_29).trans (m_congr fun v3 => (e_nx (q := (_, _, .int 63 :: _, _)) f_246_30 rfl).trans ((e_nx f_246_32 rfl).trans ((e_tab f_246_33 (ts := [208, 261, 294, 327, 360, 403, 446, 489, 522, 545, 568, 591, 604, 617, 630, 653, 696, 730, 753, 777, 810, 833, 876, 899, 912, 945, 968, 1011, 1054, 1077, 1110, 1173, 1216, 1249, 1282, 1315, 1338, 1371, 1384, 1397]) (df := 1420) (lo := 0) rfl rfl rfl (by decide) (by decide)).trans (b_congr (fun _ => rfl) (fun _ => b_congr (fun _ => rfl) (fun _ => b_congr (fun _ => rfl) (fun _ => b_congr (fun _ => rfl) (fun _ => b_congr (fun _ => rfl) (fun _ => b_congr (fun _ => rfl) (fun _ => b_congr (fun _ => rfl) (fun _ => b_congr (fun _ => rfl) (fun _ => b_congr (fun _ => rfl) (fun _ => b_congr (fun _ => rfl) (fun _ => b_congr (fun _ => rfl) (fun _ => b_congr (fun _ => rfl) (fun _ => b_congr (fun _ => rfl) (fun _ => b_congr (fun _ => rfl) (fun _ => b_congr (fun _ => rfl) (fun _ => b_congr (fun _ => rfl) (fun _ => b_congr (fun _ => rfl) (fun _ => b_congr (fun _ => rfl) (fun _ => b_congr (fun _ => rfl) (fun _ => b_congr (fun _ => rfl) (fun _ => b_congr (fun _ => rfl) (fun _ => b_congr (fun _ => rfl) (fun _ => b_congr (fun _ => rfl) (fun _ => b_congr (fun _ => rfl) (fun _ => b_congr (fun _ => rfl) (fun _ => b_congr (fun _ => rfl) (fun _ => b_congr (fun _ => rfl) (fun _ => b_congr (fun _ => rfl) (fun _ => b_congr (fun _ => rfl) (fun _ => b_congr (fun _ => rfl) (fun _ => b_congr (fun _ => rfl) (fun _ => b_congr (fun _ => rfl) (fun _ => b_congr (fun _ => rfl) (fun _ => b_congr (fun _ => rfl) (fun _ => b_congr (fun _ => rfl) (fun _ => b_congr (fun _ => rfl) (fun _ => b_congr (fun _ => rfl) (fun _ => b_congr (fun _ => rfl) (fun _ => b_congr (fun _ => rfl) (fun _ => b_congr (fun _ => rfl) (fun _ => rfl)))))))))))))))))))))))))))))))))))))))))))))))))))))
theorem q_246_208 (d : Nat) (l0 : Nat) (l1 : Nat) (l2 : Nat) (x3 : Int32) (μ : aMem) : Rn (d + 1) 246 (208, [.ref l0, .ref l1, .ref l2, .int x3], [], μ) = (rdI μ l0 (x3 + 1)).bind fun v1 => (rdI μ l0 (x3 + 2)).bind fun v2 => (rdI μ l0 (x3 + 3)).bind fun v3 => (rdI μ l0 (x3 + 4)).bind fun v4 => if (mS μ l1).1 = 8 ∧ l1 < 999999 then ((cI d 82 [.ref l1, .int v1, .int v2, .int v3, .int v4] μ).bind fun p5 => (rdI p5.2 l0 (x3 + 1)).bind fun v7 => (rdI p5.2 l0 (x3 + 2)).bind fun v8 => (rdI p5.2 l0 (x3 + 3)).bind fun v9 => (rdI p5.2 l0 (x3 + 4)).bind fun v10 => if (mS p5.2 l2).1 = 9 ∧ l2 < 999999 then ((cI d 146 [.ref l2, .int v7, .int v8, .int v9, .int v10] p5.2).bind fun p11 => if p5.1 = p11.1 then (Rn (d + 1) 246 (1420, [.ref l0, .ref l1, .ref l2, .int x3], [], p11.2)) else (some (some (.int 0), p11.2))) else none) else none :=
  (e_nx f_246_208 rfl).trans ((e_nx f_246_209 rfl).trans ((e_nx f_246_210 rfl).trans ((e_nx (q := (_, _, .int 1 :: _, _)) f_246_211 rfl).trans ((e_nx f_246_212 rfl).trans ((e_ia (L := [.ref l0, .ref l1, .ref l2, .int x3]) (r := [.ref l1]) (μ := μ) f_246_213).trans (m_congr fun v1 => (e_nx f_246_214 rfl).trans ((e_nx f_246_215 rfl).trans ((e_nx (q := (_, _, .int 2 :: _, _)) f_246_216 rfl).trans ((e_nx f_246_217 rfl).trans ((e_ia (L := [.ref l0, .ref l1, .ref l2, .int x3]) (r := [.int v1, .ref l1]) (μ := μ) f_246_218).trans (m_congr fun v2 => (e_nx f_246_219 rfl).trans ((e_nx f_246_220 rfl).trans ((e_nx (q := (_, _, .int 3 :: _, _)) f_246_221 rfl).trans ((e_nx f_246_222 rfl).trans ((e_ia (L := [.ref l0, .ref l1, .ref l2, .int x3]) (r := [.int v2, .int v1, .ref l1]) (μ := μ) f_246_223).trans (m_congr fun v3 => (e_nx f_246_224 rfl).trans ((e_nx f_246_225 rfl).trans ((e_nx (q := (_, _, .int 4 :: _, _)) f_246_226 rfl).trans ((e_nx f_246_227 rfl).trans ((e_ia (L := [.ref l0, .ref l1, .ref l2, .int x3]) (r := [.int v3, .int v2, .int v1, .ref l1]) (μ := μ) f_246_228).trans (m_congr fun v4 => (e_gI (L := [.ref l0, .ref l1, .ref l2, .int x3]) (st := [.int v4, .int v3, .int v2, .int v1, .ref l1]) (μ := μ) (L' := [.ref l0, .ref l1, .ref l2, .int x3]) (st' := []) f_246_229 rfl rfl).trans (g_congr (v_c2 rfl (Nat.le_of_ble_eq_true rfl)) (fun h6 => m_congr fun p5 => (e_nx f_246_232 rfl).trans ((e_nx f_246_233 rfl).trans ((e_nx f_246_234 rfl).trans ((e_nx (q := (_, _, .int 1 :: _, _)) f_246_235 rfl).trans ((e_nx f_246_236 rfl).trans ((e_ia (L := [.ref l0, .ref l1, .ref l2, .int x3]) (r := [.ref l2, .int p5.1]) (μ := p5.2) f_246_237).trans (m_congr fun v7 => (e_nx f_246_238 rfl).trans ((e_nx f_246_239 rfl).trans ((e_nx (q := (_, _, .int 2 :: _, _)) f_246_240 rfl).trans ((e_nx f_246_241 rfl).trans ((e_ia (L := [.ref l0, .ref l1, .ref l2, .int x3]) (r := [.int v7, .ref l2, .int p5.1]) (μ := p5.2) f_246_242).trans (m_congr fun v8 => (e_nx f_246_243 rfl).trans ((e_nx f_246_244 rfl).trans ((e_nx (q := (_, _, .int 3 :: _, _)) f_246_245 rfl).trans ((e_nx f_246_246 rfl).trans ((e_ia (L := [.ref l0, .ref l1, .ref l2, .int x3]) (r := [.int v8, .int v7, .ref l2, .int p5.1]) (μ := p5.2) f_246_247).trans (m_congr fun v9 => (e_nx f_246_248 rfl).trans ((e_nx f_246_249 rfl).trans ((e_nx (q := (_, _, .int 4 :: _, _)) f_246_250 rfl).trans ((e_nx f_246_251 rfl).trans ((e_ia (L := [.ref l0, .ref l1, .ref l2, .int x3]) (r := [.int v9, .int v8, .int v7, .ref l2, .int p5.1]) (μ := p5.2) f_246_252).trans (m_congr fun v10 => (e_gI (L := [.ref l0, .ref l1, .ref l2, .int x3]) (st := [.int v10, .int v9, .int v8, .int v7, .ref l2, .int p5.1]) (μ := p5.2) (L' := [.ref l0, .ref l1, .ref l2, .int x3]) (st' := [.int p5.1]) f_246_253 rfl rfl).trans (g_congr (v_c2 rfl (Nat.le_of_ble_eq_true rfl)) (fun h12 => m_congr fun p11 => (e_eq f_246_256 rfl).trans (b_congr (fun h13 => rfl) (fun h13 => (e_nx (q := (_, _, .int 0 :: _, _)) f_246_259 rfl).trans (e_rt f_246_260 rfl)))))))))))))))))))))))))))))))))))))))))))))))))
theorem q_246_261 (d : Nat) (l0 : Nat) (l1 : Nat) (l2 : Nat) (x3 : Int32) (μ : aMem) : Rn (d + 1) 246 (261, [.ref l0, .ref l1, .ref l2, .int x3], [], μ) = (rdI μ l0 (x3 + 1)).bind fun v1 => (rdI μ l0 (x3 + 2)).bind fun v2 => if (mS μ l1).1 = 8 ∧ l1 < 999999 then ((cI d 83 [.ref l1, .int v1, .int v2] μ).bind fun p3 => (rdI p3.2 l0 (x3 + 1)).bind fun v5 => (rdI p3.2 l0 (x3 + 2)).bind fun v6 => if (mS p3.2 l2).1 = 9 ∧ l2 < 999999 then ((cI d 158 [.ref l2, .int v5, .int v6] p3.2).bind fun p7 => if p3.1 = p7.1 then (Rn (d + 1) 246 (1420, [.ref l0, .ref l1, .ref l2, .int x3], [], p7.2)) else (some (some (.int 0), p7.2))) else none) else none :=
  (e_nx f_246_261 rfl).trans ((e_nx f_246_262 rfl).trans ((e_nx f_246_263 rfl).trans ((e_nx (q := (_, _, .int 1 :: _, _)) f_246_264 rfl).trans ((e_nx f_246_265 rfl).trans ((e_ia (L := [.ref l0, .ref l1, .ref l2, .int x3]) (r := [.ref l1]) (μ := μ) f_246_266).trans (m_congr fun v1 => (e_nx f_246_267 rfl).trans ((e_nx f_246_268 rfl).trans ((e_nx (q := (_, _, .int 2 :: _, _)) f_246_269 rfl).trans ((e_nx f_246_270 rfl).trans ((e_ia (L := [.ref l0, .ref l1, .ref l2, .int x3]) (r := [.int v1, .ref l1]) (μ := μ) f_246_271).trans (m_congr fun v2 => (e_gI (L := [.ref l0, .ref l1, .ref l2, .int x3]) (st := [.int v2, .int v1, .ref l1]) (μ := μ) (L' := [.ref l0, .ref l1, .ref l2, .int x3]) (st' := []) f_246_272 rfl rfl).trans (g_congr (v_c2 rfl (Nat.le_of_ble_eq_true rfl)) (fun h4 => m_congr fun p3 => (e_nx f_246_275 rfl).trans ((e_nx f_246_276 rfl).trans ((e_nx f_246_277 rfl).trans ((e_nx (q := (_, _, .int 1 :: _, _)) f_246_278 rfl).trans ((e_nx f_246_279 rfl).trans ((e_ia (L := [.ref l0, .ref l1, .ref l2, .int x3]) (r := [.ref l2, .int p3.1]) (μ := p3.2) f_246_280).trans (m_congr fun v5 => (e_nx f_246_281 rfl).trans ((e_nx f_246_282 rfl).trans ((e_nx (q := (_, _, .int 2 :: _, _)) f_246_283 rfl).trans ((e_nx f_246_284 rfl).trans ((e_ia (L := [.ref l0, .ref l1, .ref l2, .int x3]) (r := [.int v5, .ref l2, .int p3.1]) (μ := p3.2) f_246_285).trans (m_congr fun v6 => (e_gI (L := [.ref l0, .ref l1, .ref l2, .int x3]) (st := [.int v6, .int v5, .ref l2, .int p3.1]) (μ := p3.2) (L' := [.ref l0, .ref l1, .ref l2, .int x3]) (st' := [.int p3.1]) f_246_286 rfl rfl).trans (g_congr (v_c2 rfl (Nat.le_of_ble_eq_true rfl)) (fun h8 => m_congr fun p7 => (e_eq f_246_289 rfl).trans (b_congr (fun h9 => rfl) (fun h9 => (e_nx (q := (_, _, .int 0 :: _, _)) f_246_292 rfl).trans (e_rt f_246_293 rfl)))))))))))))))))))))))))))))
theorem q_246_294 (d : Nat) (l0 : Nat) (l1 : Nat) (l2 : Nat) (x3 : Int32) (μ : aMem) : Rn (d + 1) 246 (294, [.ref l0, .ref l1, .ref l2, .int x3], [], μ) = (rdI μ l0 (x3 + 1)).bind fun v1 => (rdI μ l0 (x3 + 2)).bind fun v2 => if (mS μ l1).1 = 8 ∧ l1 < 999999 then ((cI d 84 [.ref l1, .int v1, .int v2] μ).bind fun p3 => (rdI p3.2 l0 (x3 + 1)).bind fun v5 => (rdI p3.2 l0 (x3 + 2)).bind fun v6 => if (mS p3.2 l2).1 = 9 ∧ l2 < 999999 then ((cI d 160 [.ref l2, .int v5, .int v6] p3.2).bind fun p7 => if p3.1 = p7.1 then (Rn (d + 1) 246 (1420, [.ref l0, .ref l1, .ref l2, .int x3], [], p7.2)) else (some (some (.int 0), p7.2))) else none) else none :=
  (e_nx f_246_294 rfl).trans ((e_nx f_246_295 rfl).trans ((e_nx f_246_296 rfl).trans ((e_nx (q := (_, _, .int 1 :: _, _)) f_246_297 rfl).trans ((e_nx f_246_298 rfl).trans ((e_ia (L := [.ref l0, .ref l1, .ref l2, .int x3]) (r := [.ref l1]) (μ := μ) f_246_299).trans (m_congr fun v1 => (e_nx f_246_300 rfl).trans ((e_nx f_246_301 rfl).trans ((e_nx (q := (_, _, .int 2 :: _, _)) f_246_302 rfl).trans ((e_nx f_246_303 rfl).trans ((e_ia (L := [.ref l0, .ref l1, .ref l2, .int x3]) (r := [.int v1, .ref l1]) (μ := μ) f_246_304).trans (m_congr fun v2 => (e_gI (L := [.ref l0, .ref l1, .ref l2, .int x3]) (st := [.int v2, .int v1, .ref l1]) (μ := μ) (L' := [.ref l0, .ref l1, .ref l2, .int x3]) (st' := []) f_246_305 rfl rfl).trans (g_congr (v_c2 rfl (Nat.le_of_ble_eq_true rfl)) (fun h4 => m_congr fun p3 => (e_nx f_246_308 rfl).trans ((e_nx f_246_309 rfl).trans ((e_nx f_246_310 rfl).trans ((e_nx (q := (_, _, .int 1 :: _, _)) f_246_311 rfl).trans ((e_nx f_246_312 rfl).trans ((e_ia (L := [.ref l0, .ref l1, .ref l2, .int x3]) (r := [.ref l2, .int p3.1]) (μ := p3.2) f_246_313).trans (m_congr fun v5 => (e_nx f_246_314 rfl).trans ((e_nx f_246_315 rfl).trans ((e_nx (q := (_, _, .int 2 :: _, _)) f_246_316 rfl).trans ((e_nx f_246_317 rfl).trans ((e_ia (L := [.ref l0, .ref l1, .ref l2, .int x3]) (r := [.int v5, .ref l2, .int p3.1]) (μ := p3.2) f_246_318).trans (m_congr fun v6 => (e_gI (L := [.ref l0, .ref l1, .ref l2, .int x3]) (st := [.int v6, .int v5, .ref l2, .int p3.1]) (μ := p3.2) (L' := [.ref l0, .ref l1, .ref l2, .int x3]) (st' := [.int p3.1]) f_246_319 rfl rfl).trans (g_congr (v_c2 rfl (Nat.le_of_ble_eq_true rfl)) (fun h8 => m_congr fun p7 => (e_eq f_246_322 rfl).trans (b_congr (fun h9 => rfl) (fun h9 => (e_nx (q := (_, _, .int 0 :: _, _)) f_246_325 rfl).trans (e_rt f_246_326 rfl)))))))))))))))))))))))))))))
theorem q_246_327 (d : Nat) (l0 : Nat) (l1 : Nat) (l2 : Nat) (x3 : Int32) (μ : aMem) : Rn (d + 1) 246 (327, [.ref l0, .ref l1, .ref l2, .int x3], [], μ) = (rdI μ l0 (x3 + 1)).bind fun v1 => (rdI μ l0 (x3 + 2)).bind fun v2 => if (mS μ l1).1 = 8 ∧ l1 < 999999 then ((cI d 85 [.ref l1, .int v1, .int v2] μ).bind fun p3 => (rdI p3.2 l0 (x3 + 1)).bind fun v5 => (rdI p3.2 l0 (x3 + 2)).bind fun v6 => if (mS p3.2 l2).1 = 9 ∧ l2 < 999999 then ((cI d 161 [.ref l2, .int v5, .int v6] p3.2).bind fun p7 => if p3.1 = p7.1 then (Rn (d + 1) 246 (1420, [.ref l0, .ref l1, .ref l2, .int x3], [], p7.2)) else (some (some (.int 0), p7.2))) else none) else none :=
  (e_nx f_246_327 rfl).trans ((e_nx f_246_328 rfl).trans ((e_nx f_246_329 rfl).trans ((e_nx (q := (_, _, .int 1 :: _, _)) f_246_330 rfl).trans ((e_nx f_246_331 rfl).trans ((e_ia (L := [.ref l0, .ref l1, .ref l2, .int x3]) (r := [.ref l1]) (μ := μ) f_246_332).trans (m_congr fun v1 => (e_nx f_246_333 rfl).trans ((e_nx f_246_334 rfl).trans ((e_nx (q := (_, _, .int 2 :: _, _)) f_246_335 rfl).trans ((e_nx f_246_336 rfl).trans ((e_ia (L := [.ref l0, .ref l1, .ref l2, .int x3]) (r := [.int v1, .ref l1]) (μ := μ) f_246_337).trans (m_congr fun v2 => (e_gI (L := [.ref l0, .ref l1, .ref l2, .int x3]) (st := [.int v2, .int v1, .ref l1]) (μ := μ) (L' := [.ref l0, .ref l1, .ref l2, .int x3]) (st' := []) f_246_338 rfl rfl).trans (g_congr (v_c2 rfl (Nat.le_of_ble_eq_true rfl)) (fun h4 => m_congr fun p3 => (e_nx f_246_341 rfl).trans ((e_nx f_246_342 rfl).trans ((e_nx f_246_343 rfl).trans ((e_nx (q := (_, _, .int 1 :: _, _)) f_246_344 rfl).trans ((e_nx f_246_345 rfl).trans ((e_ia (L := [.ref l0, .ref l1, .ref l2, .int x3]) (r := [.ref l2, .int p3.1]) (μ := p3.2) f_246_346).trans (m_congr fun v5 => (e_nx f_246_347 rfl).trans ((e_nx f_246_348 rfl).trans ((e_nx (q := (_, _, .int 2 :: _, _)) f_246_349 rfl).trans ((e_nx f_246_350 rfl).trans ((e_ia (L := [.ref l0, .ref l1, .ref l2, .int x3]) (r := [.int v5, .ref l2, .int p3.1]) (μ := p3.2) f_246_351).trans (m_congr fun v6 => (e_gI (L := [.ref l0, .ref l1, .ref l2, .int x3]) (st := [.int v6, .int v5, .ref l2, .int p3.1]) (μ := p3.2) (L' := [.ref l0, .ref l1, .ref l2, .int x3]) (st' := [.int p3.1]) f_246_352 rfl rfl).trans (g_congr (v_c2 rfl (Nat.le_of_ble_eq_true rfl)) (fun h8 => m_congr fun p7 => (e_eq f_246_355 rfl).trans (b_congr (fun h9 => rfl) (fun h9 => (e_nx (q := (_, _, .int 0 :: _, _)) f_246_358 rfl).trans (e_rt f_246_359 rfl)))))))))))))))))))))))))))))
theorem q_246_360 (d : Nat) (l0 : Nat) (l1 : Nat) (l2 : Nat) (x3 : Int32) (μ : aMem) : Rn (d + 1) 246 (360, [.ref l0, .ref l1, .ref l2, .int x3], [], μ) = (rdI μ l0 (x3 + 1)).bind fun v1 => (rdI μ l0 (x3 + 2)).bind fun v2 => (rdI μ l0 (x3 + 3)).bind fun v3 => if (mS μ l1).1 = 8 ∧ l1 < 999999 then ((cI d 86 [.ref l1, .int v1, .int v2, .int v3] μ).bind fun p4 => (rdI p4.2 l0 (x3 + 1)).bind fun v6 => (rdI p4.2 l0 (x3 + 2)).bind fun v7 => (rdI p4.2 l0 (x3 + 3)).bind fun v8 => if (mS p4.2 l2).1 = 9 ∧ l2 < 999999 then ((cI d 162 [.ref l2, .int v6, .int v7, .int v8] p4.2).bind fun p9 => if p4.1 = p9.1 then (Rn (d + 1) 246 (1420, [.ref l0, .ref l1, .ref l2, .int x3], [], p9.2)) else (some (some (.int 0), p9.2))) else none) else none :=
  (e_nx f_246_360 rfl).trans ((e_nx f_246_361 rfl).trans ((e_nx f_246_362 rfl).trans ((e_nx (q := (_, _, .int 1 :: _, _)) f_246_363 rfl).trans ((e_nx f_246_364 rfl).trans ((e_ia (L := [.ref l0, .ref l1, .ref l2, .int x3]) (r := [.ref l1]) (μ := μ) f_246_365).trans (m_congr fun v1 => (e_nx f_246_366 rfl).trans ((e_nx f_246_367 rfl).trans ((e_nx (q := (_, _, .int 2 :: _, _)) f_246_368 rfl).trans ((e_nx f_246_369 rfl).trans ((e_ia (L := [.ref l0, .ref l1, .ref l2, .int x3]) (r := [.int v1, .ref l1]) (μ := μ) f_246_370).trans (m_congr fun v2 => (e_nx f_246_371 rfl).trans ((e_nx f_246_372 rfl).trans ((e_nx (q := (_, _, .int 3 :: _, _)) f_246_373 rfl).trans ((e_nx f_246_374 rfl).trans ((e_ia (L := [.ref l0, .ref l1, .ref l2, .int x3]) (r := [.int v2, .int v1, .ref l1]) (μ := μ) f_246_375).trans (m_congr fun v3 => (e_gI (L := [.ref l0, .ref l1, .ref l2, .int x3]) (st := [.int v3, .int v2, .int v1, .ref l1]) (μ := μ) (L' := [.ref l0, .ref l1, .ref l2, .int x3]) (st' := []) f_246_376 rfl rfl).trans (g_congr (v_c2 rfl (Nat.le_of_ble_eq_true rfl)) (fun h5 => m_congr fun p4 => (e_nx f_246_379 rfl).trans ((e_nx f_246_380 rfl).trans ((e_nx f_246_381 rfl).trans ((e_nx (q := (_, _, .int 1 :: _, _)) f_246_382 rfl).trans ((e_nx f_246_383 rfl).trans ((e_ia (L := [.ref l0, .ref l1, .ref l2, .int x3]) (r := [.ref l2, .int p4.1]) (μ := p4.2) f_246_384).trans (m_congr fun v6 => (e_nx f_246_385 rfl).trans ((e_nx f_246_386 rfl).trans ((e_nx (q := (_, _, .int 2 :: _, _)) f_246_387 rfl).trans ((e_nx f_246_388 rfl).trans ((e_ia (L := [.ref l0, .ref l1, .ref l2, .int x3]) (r := [.int v6, .ref l2, .int p4.1]) (μ := p4.2) f_246_389).trans (m_congr fun v7 => (e_nx f_246_390 rfl).trans ((e_nx f_246_391 rfl).trans ((e_nx (q := (_, _, .int 3 :: _, _)) f_246_392 rfl).trans ((e_nx f_246_393 rfl).trans ((e_ia (L := [.ref l0, .ref l1, .ref l2, .int x3]) (r := [.int v7, .int v6, .ref l2, .int p4.1]) (μ := p4.2) f_246_394).trans (m_congr fun v8 => (e_gI (L := [.ref l0, .ref l1, .ref l2, .int x3]) (st := [.int v8, .int v7, .int v6, .ref l2, .int p4.1]) (μ := p4.2) (L' := [.ref l0, .ref l1, .ref l2, .int x3]) (st' := [.int p4.1]) f_246_395 rfl rfl).trans (g_congr (v_c2 rfl (Nat.le_of_ble_eq_true rfl)) (fun h10 => m_congr fun p9 => (e_eq f_246_398 rfl).trans (b_congr (fun h11 => rfl) (fun h11 => (e_nx (q := (_, _, .int 0 :: _, _)) f_246_401 rfl).trans (e_rt f_246_402 rfl)))))))))))))))))))))))))))))))))))))))
theorem q_246_403 (d : Nat) (l0 : Nat) (l1 : Nat) (l2 : Nat) (x3 : Int32) (μ : aMem) : Rn (d + 1) 246 (403, [.ref l0, .ref l1, .ref l2, .int x3], [], μ) = (rdI μ l0 (x3 + 1)).bind fun v1 => (rdI μ l0 (x3 + 2)).bind fun v2 => (rdI μ l0 (x3 + 3)).bind fun v3 => if (mS μ l1).1 = 8 ∧ l1 < 999999 then ((cI d 87 [.ref l1, .int v1, .int v2, .int v3] μ).bind fun p4 => (rdI p4.2 l0 (x3 + 1)).bind fun v6 => (rdI p4.2 l0 (x3 + 2)).bind fun v7 => (rdI p4.2 l0 (x3 + 3)).bind fun v8 => if (mS p4.2 l2).1 = 9 ∧ l2 < 999999 then ((cI d 163 [.ref l2, .int v6, .int v7, .int v8] p4.2).bind fun p9 => if p4.1 = p9.1 then (Rn (d + 1) 246 (1420, [.ref l0, .ref l1, .ref l2, .int x3], [], p9.2)) else (some (some (.int 0), p9.2))) else none) else none :=
  (e_nx f_246_403 rfl).trans ((e_nx f_246_404 rfl).trans ((e_nx f_246_405 rfl).trans ((e_nx (q := (_, _, .int 1 :: _, _)) f_246_406 rfl).trans ((e_nx f_246_407 rfl).trans ((e_ia (L := [.ref l0, .ref l1, .ref l2, .int x3]) (r := [.ref l1]) (μ := μ) f_246_408).trans (m_congr fun v1 => (e_nx f_246_409 rfl).trans ((e_nx f_246_410 rfl).trans ((e_nx (q := (_, _, .int 2 :: _, _)) f_246_411 rfl).trans ((e_nx f_246_412 rfl).trans ((e_ia (L := [.ref l0, .ref l1, .ref l2, .int x3]) (r := [.int v1, .ref l1]) (μ := μ) f_246_413).trans (m_congr fun v2 => (e_nx f_246_414 rfl).trans ((e_nx f_246_415 rfl).trans ((e_nx (q := (_, _, .int 3 :: _, _)) f_246_416 rfl).trans ((e_nx f_246_417 rfl).trans ((e_ia (L := [.ref l0, .ref l1, .ref l2, .int x3]) (r := [.int v2, .int v1, .ref l1]) (μ := μ) f_246_418).trans (m_congr fun v3 => (e_gI (L := [.ref l0, .ref l1, .ref l2, .int x3]) (st := [.int v3, .int v2, .int v1, .ref l1]) (μ := μ) (L' := [.ref l0, .ref l1, .ref l2, .int x3]) (st' := []) f_246_419 rfl rfl).trans (g_congr (v_c2 rfl (Nat.le_of_ble_eq_true rfl)) (fun h5 => m_congr fun p4 => (e_nx f_246_422 rfl).trans ((e_nx f_246_423 rfl).trans ((e_nx f_246_424 rfl).trans ((e_nx (q := (_, _, .int 1 :: _, _)) f_246_425 rfl).trans ((e_nx f_246_426 rfl).trans ((e_ia (L := [.ref l0, .ref l1, .ref l2, .int x3]) (r := [.ref l2, .int p4.1]) (μ := p4.2) f_246_427).trans (m_congr fun v6 => (e_nx f_246_428 rfl).trans ((e_nx f_246_429 rfl).trans ((e_nx (q := (_, _, .int 2 :: _, _)) f_246_430 rfl).trans ((e_nx f_246_431 rfl).trans ((e_ia (L := [.ref l0, .ref l1, .ref l2, .int x3]) (r := [.int v6, .ref l2, .int p4.1]) (μ := p4.2) f_246_432).trans (m_congr fun v7 => (e_nx f_246_433 rfl).trans ((e_nx f_246_434 rfl).trans ((e_nx (q := (_, _, .int 3 :: _, _)) f_246_435 rfl).trans ((e_nx f_246_436 rfl).trans ((e_ia (L := [.ref l0, .ref l1, .ref l2, .int x3]) (r := [.int v7, .int v6, .ref l2, .int p4.1]) (μ := p4.2) f_246_437).trans (m_congr fun v8 => (e_gI (L := [.ref l0, .ref l1, .ref l2, .int x3]) (st := [.int v8, .int v7, .int v6, .ref l2, .int p4.1]) (μ := p4.2) (L' := [.ref l0, .ref l1, .ref l2, .int x3]) (st' := [.int p4.1]) f_246_438 rfl rfl).trans (g_congr (v_c2 rfl (Nat.le_of_ble_eq_true rfl)) (fun h10 => m_congr fun p9 => (e_eq f_246_441 rfl).trans (b_congr (fun h11 => rfl) (fun h11 => (e_nx (q := (_, _, .int 0 :: _, _)) f_246_444 rfl).trans (e_rt f_246_445 rfl)))))))))))))))))))))))))))))))))))))))
theorem q_246_446 (d : Nat) (l0 : Nat) (l1 : Nat) (l2 : Nat) (x3 : Int32) (μ : aMem) : Rn (d + 1) 246 (446, [.ref l0, .ref l1, .ref l2, .int x3], [], μ) = (rdI μ l0 (x3 + 1)).bind fun v1 => (rdI μ l0 (x3 + 2)).bind fun v2 => (rdI μ l0 (x3 + 3)).bind fun v3 => if (mS μ l1).1 = 8 ∧ l1 < 999999 then ((cI d 88 [.ref l1, .int v1, .int v2, .int v3] μ).bind fun p4 => (rdI p4.2 l0 (x3 + 1)).bind fun v6 => (rdI p4.2 l0 (x3 + 2)).bind fun v7 => (rdI p4.2 l0 (x3 + 3)).bind fun v8 => if (mS p4.2 l2).1 = 9 ∧ l2 < 999999 then ((cI d 165 [.ref l2, .int v6, .int v7, .int v8] p4.2).bind fun p9 => if p4.1 = p9.1 then (Rn (d + 1) 246 (1420, [.ref l0, .ref l1, .ref l2, .int x3], [], p9.2)) else (some (some (.int 0), p9.2))) else none) else none :=
  (e_nx f_246_446 rfl).trans ((e_nx f_246_447 rfl).trans ((e_nx f_246_448 rfl).trans ((e_nx (q := (_, _, .int 1 :: _, _)) f_246_449 rfl).trans ((e_nx f_246_450 rfl).trans ((e_ia (L := [.ref l0, .ref l1, .ref l2, .int x3]) (r := [.ref l1]) (μ := μ) f_246_451).trans (m_congr fun v1 => (e_nx f_246_452 rfl).trans ((e_nx f_246_453 rfl).trans ((e_nx (q := (_, _, .int 2 :: _, _)) f_246_454 rfl).trans ((e_nx f_246_455 rfl).trans ((e_ia (L := [.ref l0, .ref l1, .ref l2, .int x3]) (r := [.int v1, .ref l1]) (μ := μ) f_246_456).trans (m_congr fun v2 => (e_nx f_246_457 rfl).trans ((e_nx f_246_458 rfl).trans ((e_nx (q := (_, _, .int 3 :: _, _)) f_246_459 rfl).trans ((e_nx f_246_460 rfl).trans ((e_ia (L := [.ref l0, .ref l1, .ref l2, .int x3]) (r := [.int v2, .int v1, .ref l1]) (μ := μ) f_246_461).trans (m_congr fun v3 => (e_gI (L := [.ref l0, .ref l1, .ref l2, .int x3]) (st := [.int v3, .int v2, .int v1, .ref l1]) (μ := μ) (L' := [.ref l0, .ref l1, .ref l2, .int x3]) (st' := []) f_246_462 rfl rfl).trans (g_congr (v_c2 rfl (Nat.le_of_ble_eq_true rfl)) (fun h5 => m_congr fun p4 => (e_nx f_246_465 rfl).trans ((e_nx f_246_466 rfl).trans ((e_nx f_246_467 rfl).trans ((e_nx (q := (_, _, .int 1 :: _, _)) f_246_468 rfl).trans ((e_nx f_246_469 rfl).trans ((e_ia (L := [.ref l0, .ref l1, .ref l2, .int x3]) (r := [.ref l2, .int p4.1]) (μ := p4.2) f_246_470).trans (m_congr fun v6 => (e_nx f_246_471 rfl).trans ((e_nx f_246_472 rfl).trans ((e_nx (q := (_, _, .int 2 :: _, _)) f_246_473 rfl).trans ((e_nx f_246_474 rfl).trans ((e_ia (L := [.ref l0, .ref l1, .ref l2, .int x3]) (r := [.int v6, .ref l2, .int p4.1]) (μ := p4.2) f_246_475).trans (m_congr fun v7 => (e_nx f_246_476 rfl).trans ((e_nx f_246_477 rfl).trans ((e_nx (q := (_, _, .int 3 :: _, _)) f_246_478 rfl).trans ((e_nx f_246_479 rfl).trans ((e_ia (L := [.ref l0, .ref l1, .ref l2, .int x3]) (r := [.int v7, .int v6, .ref l2, .int p4.1]) (μ := p4.2) f_246_480).trans (m_congr fun v8 => (e_gI (L := [.ref l0, .ref l1, .ref l2, .int x3]) (st := [.int v8, .int v7, .int v6, .ref l2, .int p4.1]) (μ := p4.2) (L' := [.ref l0, .ref l1, .ref l2, .int x3]) (st' := [.int p4.1]) f_246_481 rfl rfl).trans (g_congr (v_c2 rfl (Nat.le_of_ble_eq_true rfl)) (fun h10 => m_congr fun p9 => (e_eq f_246_484 rfl).trans (b_congr (fun h11 => rfl) (fun h11 => (e_nx (q := (_, _, .int 0 :: _, _)) f_246_487 rfl).trans (e_rt f_246_488 rfl)))))))))))))))))))))))))))))))))))))))
theorem q_246_489 (d : Nat) (l0 : Nat) (l1 : Nat) (l2 : Nat) (x3 : Int32) (μ : aMem) : Rn (d + 1) 246 (489, [.ref l0, .ref l1, .ref l2, .int x3], [], μ) = (rdI μ l0 (x3 + 1)).bind fun v1 => (rdI μ l0 (x3 + 2)).bind fun v2 => if (mS μ l1).1 = 8 ∧ l1 < 999999 then ((cI d 89 [.ref l1, .int v1, .int v2] μ).bind fun p3 => (rdI p3.2 l0 (x3 + 1)).bind fun v5 => (rdI p3.2 l0 (x3 + 2)).bind fun v6 => if (mS p3.2 l2).1 = 9 ∧ l2 < 999999 then ((cI d 166 [.ref l2, .int v5, .int v6] p3.2).bind fun p7 => if p3.1 = p7.1 then (Rn (d + 1) 246 (1420, [.ref l0, .ref l1, .ref l2, .int x3], [], p7.2)) else (some (some (.int 0), p7.2))) else none) else none :=
  (e_nx f_246_489 rfl).trans ((e_nx f_246_490 rfl).trans ((e_nx f_246_491 rfl).trans ((e_nx (q := (_, _, .int 1 :: _, _)) f_246_492 rfl).trans ((e_nx f_246_493 rfl).trans ((e_ia (L := [.ref l0, .ref l1, .ref l2, .int x3]) (r := [.ref l1]) (μ := μ) f_246_494).trans (m_congr fun v1 => (e_nx f_246_495 rfl).trans ((e_nx f_246_496 rfl).trans ((e_nx (q := (_, _, .int 2 :: _, _)) f_246_497 rfl).trans ((e_nx f_246_498 rfl).trans ((e_ia (L := [.ref l0, .ref l1, .ref l2, .int x3]) (r := [.int v1, .ref l1]) (μ := μ) f_246_499).trans (m_congr fun v2 => (e_gI (L := [.ref l0, .ref l1, .ref l2, .int x3]) (st := [.int v2, .int v1, .ref l1]) (μ := μ) (L' := [.ref l0, .ref l1, .ref l2, .int x3]) (st' := []) f_246_500 rfl rfl).trans (g_congr (v_c2 rfl (Nat.le_of_ble_eq_true rfl)) (fun h4 => m_congr fun p3 => (e_nx f_246_503 rfl).trans ((e_nx f_246_504 rfl).trans ((e_nx f_246_505 rfl).trans ((e_nx (q := (_, _, .int 1 :: _, _)) f_246_506 rfl).trans ((e_nx f_246_507 rfl).trans ((e_ia (L := [.ref l0, .ref l1, .ref l2, .int x3]) (r := [.ref l2, .int p3.1]) (μ := p3.2) f_246_508).trans (m_congr fun v5 => (e_nx f_246_509 rfl).trans ((e_nx f_246_510 rfl).trans ((e_nx (q := (_, _, .int 2 :: _, _)) f_246_511 rfl).trans ((e_nx f_246_512 rfl).trans ((e_ia (L := [.ref l0, .ref l1, .ref l2, .int x3]) (r := [.int v5, .ref l2, .int p3.1]) (μ := p3.2) f_246_513).trans (m_congr fun v6 => (e_gI (L := [.ref l0, .ref l1, .ref l2, .int x3]) (st := [.int v6, .int v5, .ref l2, .int p3.1]) (μ := p3.2) (L' := [.ref l0, .ref l1, .ref l2, .int x3]) (st' := [.int p3.1]) f_246_514 rfl rfl).trans (g_congr (v_c2 rfl (Nat.le_of_ble_eq_true rfl)) (fun h8 => m_congr fun p7 => (e_eq f_246_517 rfl).trans (b_congr (fun h9 => rfl) (fun h9 => (e_nx (q := (_, _, .int 0 :: _, _)) f_246_520 rfl).trans (e_rt f_246_521 rfl)))))))))))))))))))))))))))))
theorem q_246_522 (d : Nat) (l0 : Nat) (l1 : Nat) (l2 : Nat) (x3 : Int32) (μ : aMem) : Rn (d + 1) 246 (522, [.ref l0, .ref l1, .ref l2, .int x3], [], μ) = (rdI μ l0 (x3 + 1)).bind fun v1 => if (mS μ l1).1 = 8 ∧ l1 < 999999 then ((cI d 90 [.ref l1, .int v1] μ).bind fun p2 => (rdI p2.2 l0 (x3 + 1)).bind fun v4 => if (mS p2.2 l2).1 = 9 ∧ l2 < 999999 then ((cI d 167 [.ref l2, .int v4] p2.2).bind fun p5 => if p2.1 = p5.1 then (Rn (d + 1) 246 (1420, [.ref l0, .ref l1, .ref l2, .int x3], [], p5.2)) else (some (some (.int 0), p5.2))) else none) else none :=
  (e_nx f_246_522 rfl).trans ((e_nx f_246_523 rfl).trans ((e_nx f_246_524 rfl).trans ((e_nx (q := (_, _, .int 1 :: _, _)) f_246_525 rfl).trans ((e_nx f_246_526 rfl).trans ((e_ia (L := [.ref l0, .ref l1, .ref l2, .int x3]) (r := [.ref l1]) (μ := μ) f_246_527).trans (m_congr fun v1 => (e_gI (L := [.ref l0, .ref l1, .ref l2, .int x3]) (st := [.int v1, .ref l1]) (μ := μ) (L' := [.ref l0, .ref l1, .ref l2, .int x3]) (st' := []) f_246_528 rfl rfl).trans (g_congr (v_c2 rfl (Nat.le_of_ble_eq_true rfl)) (fun h3 => m_congr fun p2 => (e_nx f_246_531 rfl).trans ((e_nx f_246_532 rfl).trans ((e_nx f_246_533 rfl).trans ((e_nx (q := (_, _, .int 1 :: _, _)) f_246_534 rfl).trans ((e_nx f_246_535 rfl).trans ((e_ia (L := [.ref l0, .ref l1, .ref l2, .int x3]) (r := [.ref l2, .int p2.1]) (μ := p2.2) f_246_536).trans (m_congr fun v4 => (e_gI (L := [.ref l0, .ref l1, .ref l2, .int x3]) (st := [.int v4, .ref l2, .int p2.1]) (μ := p2.2) (L' := [.ref l0, .ref l1, .ref l2, .int x3]) (st' := [.int p2.1]) f_246_537 rfl rfl).trans (g_congr (v_c2 rfl (Nat.le_of_ble_eq_true rfl)) (fun h6 => m_congr fun p5 => (e_eq f_246_540 rfl).trans (b_congr (fun h7 => rfl) (fun h7 => (e_nx (q := (_, _, .int 0 :: _, _)) f_246_543 rfl).trans (e_rt f_246_544 rfl)))))))))))))))))))
theorem q_246_545 (d : Nat) (l0 : Nat) (l1 : Nat) (l2 : Nat) (x3 : Int32) (μ : aMem) : Rn (d + 1) 246 (545, [.ref l0, .ref l1, .ref l2, .int x3], [], μ) = (rdI μ l0 (x3 + 1)).bind fun v1 => if (mS μ l1).1 = 8 ∧ l1 < 999999 then ((cI d 91 [.ref l1, .int v1] μ).bind fun p2 => (rdI p2.2 l0 (x3 + 1)).bind fun v4 => if (mS p2.2 l2).1 = 9 ∧ l2 < 999999 then ((cI d 168 [.ref l2, .int v4] p2.2).bind fun p5 => if p2.1 = p5.1 then (Rn (d + 1) 246 (1420, [.ref l0, .ref l1, .ref l2, .int x3], [], p5.2)) else (some (some (.int 0), p5.2))) else none) else none :=
  (e_nx f_246_545 rfl).trans ((e_nx f_246_546 rfl).trans ((e_nx f_246_547 rfl).trans ((e_nx (q := (_, _, .int 1 :: _, _)) f_246_548 rfl).trans ((e_nx f_246_549 rfl).trans ((e_ia (L := [.ref l0, .ref l1, .ref l2, .int x3]) (r := [.ref l1]) (μ := μ) f_246_550).trans (m_congr fun v1 => (e_gI (L := [.ref l0, .ref l1, .ref l2, .int x3]) (st := [.int v1, .ref l1]) (μ := μ) (L' := [.ref l0, .ref l1, .ref l2, .int x3]) (st' := []) f_246_551 rfl rfl).trans (g_congr (v_c2 rfl (Nat.le_of_ble_eq_true rfl)) (fun h3 => m_congr fun p2 => (e_nx f_246_554 rfl).trans ((e_nx f_246_555 rfl).trans ((e_nx f_246_556 rfl).trans ((e_nx (q := (_, _, .int 1 :: _, _)) f_246_557 rfl).trans ((e_nx f_246_558 rfl).trans ((e_ia (L := [.ref l0, .ref l1, .ref l2, .int x3]) (r := [.ref l2, .int p2.1]) (μ := p2.2) f_246_559).trans (m_congr fun v4 => (e_gI (L := [.ref l0, .ref l1, .ref l2, .int x3]) (st := [.int v4, .ref l2, .int p2.1]) (μ := p2.2) (L' := [.ref l0, .ref l1, .ref l2, .int x3]) (st' := [.int p2.1]) f_246_560 rfl rfl).trans (g_congr (v_c2 rfl (Nat.le_of_ble_eq_true rfl)) (fun h6 => m_congr fun p5 => (e_eq f_246_563 rfl).trans (b_congr (fun h7 => rfl) (fun h7 => (e_nx (q := (_, _, .int 0 :: _, _)) f_246_566 rfl).trans (e_rt f_246_567 rfl)))))))))))))))))))
theorem q_246_568 (d : Nat) (l0 : Nat) (l1 : Nat) (l2 : Nat) (x3 : Int32) (μ : aMem) : Rn (d + 1) 246 (568, [.ref l0, .ref l1, .ref l2, .int x3], [], μ) = (rdI μ l0 (x3 + 1)).bind fun v1 => if (mS μ l1).1 = 8 ∧ l1 < 999999 then ((cI d 92 [.ref l1, .int v1] μ).bind fun p2 => (rdI p2.2 l0 (x3 + 1)).bind fun v4 => if (mS p2.2 l2).1 = 9 ∧ l2 < 999999 then ((cI d 169 [.ref l2, .int v4] p2.2).bind fun p5 => if p2.1 = p5.1 then (Rn (d + 1) 246 (1420, [.ref l0, .ref l1, .ref l2, .int x3], [], p5.2)) else (some (some (.int 0), p5.2))) else none) else none :=
  (e_nx f_246_568 rfl).trans ((e_nx f_246_569 rfl).trans ((e_nx f_246_570 rfl).trans ((e_nx (q := (_, _, .int 1 :: _, _)) f_246_571 rfl).trans ((e_nx f_246_572 rfl).trans ((e_ia (L := [.ref l0, .ref l1, .ref l2, .int x3]) (r := [.ref l1]) (μ := μ) f_246_573).trans (m_congr fun v1 => (e_gI (L := [.ref l0, .ref l1, .ref l2, .int x3]) (st := [.int v1, .ref l1]) (μ := μ) (L' := [.ref l0, .ref l1, .ref l2, .int x3]) (st' := []) f_246_574 rfl rfl).trans (g_congr (v_c2 rfl (Nat.le_of_ble_eq_true rfl)) (fun h3 => m_congr fun p2 => (e_nx f_246_577 rfl).trans ((e_nx f_246_578 rfl).trans ((e_nx f_246_579 rfl).trans ((e_nx (q := (_, _, .int 1 :: _, _)) f_246_580 rfl).trans ((e_nx f_246_581 rfl).trans ((e_ia (L := [.ref l0, .ref l1, .ref l2, .int x3]) (r := [.ref l2, .int p2.1]) (μ := p2.2) f_246_582).trans (m_congr fun v4 => (e_gI (L := [.ref l0, .ref l1, .ref l2, .int x3]) (st := [.int v4, .ref l2, .int p2.1]) (μ := p2.2) (L' := [.ref l0, .ref l1, .ref l2, .int x3]) (st' := [.int p2.1]) f_246_583 rfl rfl).trans (g_congr (v_c2 rfl (Nat.le_of_ble_eq_true rfl)) (fun h6 => m_congr fun p5 => (e_eq f_246_586 rfl).trans (b_congr (fun h7 => rfl) (fun h7 => (e_nx (q := (_, _, .int 0 :: _, _)) f_246_589 rfl).trans (e_rt f_246_590 rfl)))))))))))))))))))
theorem q_246_591 (d : Nat) (l0 : Nat) (l1 : Nat) (l2 : Nat) (x3 : Int32) (μ : aMem) : Rn (d + 1) 246 (591, [.ref l0, .ref l1, .ref l2, .int x3], [], μ) = if (mS μ l1).1 = 8 ∧ l1 < 999999 then ((cI d 93 [.ref l1] μ).bind fun p1 => if (mS p1.2 l2).1 = 9 ∧ l2 < 999999 then ((cI d 170 [.ref l2] p1.2).bind fun p3 => if p1.1 = p3.1 then (Rn (d + 1) 246 (1420, [.ref l0, .ref l1, .ref l2, .int x3], [], p3.2)) else (some (some (.int 0), p3.2))) else none) else none :=
  (e_nx f_246_591 rfl).trans ((e_gI (L := [.ref l0, .ref l1, .ref l2, .int x3]) (st := [.ref l1]) (μ := μ) (L' := [.ref l0, .ref l1, .ref l2, .int x3]) (st' := []) f_246_592 rfl rfl).trans (g_congr (v_c2 rfl (Nat.le_of_ble_eq_true rfl)) (fun h2 => m_congr fun p1 => (e_nx f_246_595 rfl).trans ((e_gI (L := [.ref l0, .ref l1, .ref l2, .int x3]) (st := [.ref l2, .int p1.1]) (μ := p1.2) (L' := [.ref l0, .ref l1, .ref l2, .int x3]) (st' := [.int p1.1]) f_246_596 rfl rfl).trans (g_congr (v_c2 rfl (Nat.le_of_ble_eq_true rfl)) (fun h4 => m_congr fun p3 => (e_eq f_246_599 rfl).trans (b_congr (fun h5 => rfl) (fun h5 => (e_nx (q := (_, _, .int 0 :: _, _)) f_246_602 rfl).trans (e_rt f_246_603 rfl)))))))))
theorem q_246_604 (d : Nat) (l0 : Nat) (l1 : Nat) (l2 : Nat) (x3 : Int32) (μ : aMem) : Rn (d + 1) 246 (604, [.ref l0, .ref l1, .ref l2, .int x3], [], μ) = if (mS μ l1).1 = 8 ∧ l1 < 999999 then ((cI d 94 [.ref l1] μ).bind fun p1 => if (mS p1.2 l2).1 = 9 ∧ l2 < 999999 then ((cI d 171 [.ref l2] p1.2).bind fun p3 => if p1.1 = p3.1 then (Rn (d + 1) 246 (1420, [.ref l0, .ref l1, .ref l2, .int x3], [], p3.2)) else (some (some (.int 0), p3.2))) else none) else none :=
  (e_nx f_246_604 rfl).trans ((e_gI (L := [.ref l0, .ref l1, .ref l2, .int x3]) (st := [.ref l1]) (μ := μ) (L' := [.ref l0, .ref l1, .ref l2, .int x3]) (st' := []) f_246_605 rfl rfl).trans (g_congr (v_c2 rfl (Nat.le_of_ble_eq_true rfl)) (fun h2 => m_congr fun p1 => (e_nx f_246_608 rfl).trans ((e_gI (L := [.ref l0, .ref l1, .ref l2, .int x3]) (st := [.ref l2, .int p1.1]) (μ := p1.2) (L' := [.ref l0, .ref l1, .ref l2, .int x3]) (st' := [.int p1.1]) f_246_609 rfl rfl).trans (g_congr (v_c2 rfl (Nat.le_of_ble_eq_true rfl)) (fun h4 => m_congr fun p3 => (e_eq f_246_612 rfl).trans (b_congr (fun h5 => rfl) (fun h5 => (e_nx (q := (_, _, .int 0 :: _, _)) f_246_615 rfl).trans (e_rt f_246_616 rfl)))))))))
theorem q_246_617 (d : Nat) (l0 : Nat) (l1 : Nat) (l2 : Nat) (x3 : Int32) (μ : aMem) : Rn (d + 1) 246 (617, [.ref l0, .ref l1, .ref l2, .int x3], [], μ) = if (mS μ l1).1 = 8 ∧ l1 < 999999 then ((cI d 95 [.ref l1] μ).bind fun p1 => if (mS p1.2 l2).1 = 9 ∧ l2 < 999999 then ((cI d 173 [.ref l2] p1.2).bind fun p3 => if p1.1 = p3.1 then (Rn (d + 1) 246 (1420, [.ref l0, .ref l1, .ref l2, .int x3], [], p3.2)) else (some (some (.int 0), p3.2))) else none) else none :=
  (e_nx f_246_617 rfl).trans ((e_gI (L := [.ref l0, .ref l1, .ref l2, .int x3]) (st := [.ref l1]) (μ := μ) (L' := [.ref l0, .ref l1, .ref l2, .int x3]) (st' := []) f_246_618 rfl rfl).trans (g_congr (v_c2 rfl (Nat.le_of_ble_eq_true rfl)) (fun h2 => m_congr fun p1 => (e_nx f_246_621 rfl).trans ((e_gI (L := [.ref l0, .ref l1, .ref l2, .int x3]) (st := [.ref l2, .int p1.1]) (μ := p1.2) (L' := [.ref l0, .ref l1, .ref l2, .int x3]) (st' := [.int p1.1]) f_246_622 rfl rfl).trans (g_congr (v_c2 rfl (Nat.le_of_ble_eq_true rfl)) (fun h4 => m_congr fun p3 => (e_eq f_246_625 rfl).trans (b_congr (fun h5 => rfl) (fun h5 => (e_nx (q := (_, _, .int 0 :: _, _)) f_246_628 rfl).trans (e_rt f_246_629 rfl)))))))))
theorem q_246_630 (d : Nat) (l0 : Nat) (l1 : Nat) (l2 : Nat) (x3 : Int32) (μ : aMem) : Rn (d + 1) 246 (630, [.ref l0, .ref l1, .ref l2, .int x3], [], μ) = (rdI μ l0 (x3 + 1)).bind fun v1 => if (mS μ l1).1 = 8 ∧ l1 < 999999 then ((cI d 96 [.ref l1, .int v1] μ).bind fun p2 => (rdI p2.2 l0 (x3 + 1)).bind fun v4 => if (mS p2.2 l2).1 = 9 ∧ l2 < 999999 then ((cI d 176 [.ref l2, .int v4] p2.2).bind fun p5 => if p2.1 = p5.1 then (Rn (d + 1) 246 (1420, [.ref l0, .ref l1, .ref l2, .int x3], [], p5.2)) else (some (some (.int 0), p5.2))) else none) else none :=
  (e_nx f_246_630 rfl).trans ((e_nx f_246_631 rfl).trans ((e_nx f_246_632 rfl).trans ((e_nx (q := (_, _, .int 1 :: _, _)) f_246_633 rfl).trans ((e_nx f_246_634 rfl).trans ((e_ia (L := [.ref l0, .ref l1, .ref l2, .int x3]) (r := [.ref l1]) (μ := μ) f_246_635).trans (m_congr fun v1 => (e_gI (L := [.ref l0, .ref l1, .ref l2, .int x3]) (st := [.int v1, .ref l1]) (μ := μ) (L' := [.ref l0, .ref l1, .ref l2, .int x3]) (st' := []) f_246_636 rfl rfl).trans (g_congr (v_c2 rfl (Nat.le_of_ble_eq_true rfl)) (fun h3 => m_congr fun p2 => (e_nx f_246_639 rfl).trans ((e_nx f_246_640 rfl).trans ((e_nx f_246_641 rfl).trans ((e_nx (q := (_, _, .int 1 :: _, _)) f_246_642 rfl).trans ((e_nx f_246_643 rfl).trans ((e_ia (L := [.ref l0, .ref l1, .ref l2, .int x3]) (r := [.ref l2, .int p2.1]) (μ := p2.2) f_246_644).trans (m_congr fun v4 => (e_gI (L := [.ref l0, .ref l1, .ref l2, .int x3]) (st := [.int v4, .ref l2, .int p2.1]) (μ := p2.2) (L' := [.ref l0, .ref l1, .ref l2, .int x3]) (st' := [.int p2.1]) f_246_645 rfl rfl).trans (g_congr (v_c2 rfl (Nat.le_of_ble_eq_true rfl)) (fun h6 => m_congr fun p5 => (e_eq f_246_648 rfl).trans (b_congr (fun h7 => rfl) (fun h7 => (e_nx (q := (_, _, .int 0 :: _, _)) f_246_651 rfl).trans (e_rt f_246_652 rfl)))))))))))))))))))
theorem q_246_653 (d : Nat) (l0 : Nat) (l1 : Nat) (l2 : Nat) (x3 : Int32) (μ : aMem) : Rn (d + 1) 246 (653, [.ref l0, .ref l1, .ref l2, .int x3], [], μ) = (rdI μ l0 (x3 + 1)).bind fun v1 => (rdI μ l0 (x3 + 2)).bind fun v2 => (rdI μ l0 (x3 + 3)).bind fun v3 => if (mS μ l1).1 = 8 ∧ l1 < 999999 then ((cI d 97 [.ref l1, .int v1, .int v2, .int v3] μ).bind fun p4 => (rdI p4.2 l0 (x3 + 1)).bind fun v6 => (rdI p4.2 l0 (x3 + 2)).bind fun v7 => (rdI p4.2 l0 (x3 + 3)).bind fun v8 => if (mS p4.2 l2).1 = 9 ∧ l2 < 999999 then ((cI d 177 [.ref l2, .int v6, .int v7, .int v8] p4.2).bind fun p9 => if p4.1 = p9.1 then (Rn (d + 1) 246 (1420, [.ref l0, .ref l1, .ref l2, .int x3], [], p9.2)) else (some (some (.int 0), p9.2))) else none) else none :=
  (e_nx f_246_653 rfl).trans ((e_nx f_246_654 rfl).trans ((e_nx f_246_655 rfl).trans ((e_nx (q := (_, _, .int 1 :: _, _)) f_246_656 rfl).trans ((e_nx f_246_657 rfl).trans ((e_ia (L := [.ref l0, .ref l1, .ref l2, .int x3]) (r := [.ref l1]) (μ := μ) f_246_658).trans (m_congr fun v1 => (e_nx f_246_659 rfl).trans ((e_nx f_246_660 rfl).trans ((e_nx (q := (_, _, .int 2 :: _, _)) f_246_661 rfl).trans ((e_nx f_246_662 rfl).trans ((e_ia (L := [.ref l0, .ref l1, .ref l2, .int x3]) (r := [.int v1, .ref l1]) (μ := μ) f_246_663).trans (m_congr fun v2 => (e_nx f_246_664 rfl).trans ((e_nx f_246_665 rfl).trans ((e_nx (q := (_, _, .int 3 :: _, _)) f_246_666 rfl).trans ((e_nx f_246_667 rfl).trans ((e_ia (L := [.ref l0, .ref l1, .ref l2, .int x3]) (r := [.int v2, .int v1, .ref l1]) (μ := μ) f_246_668).trans (m_congr fun v3 => (e_gI (L := [.ref l0, .ref l1, .ref l2, .int x3]) (st := [.int v3, .int v2, .int v1, .ref l1]) (μ := μ) (L' := [.ref l0, .ref l1, .ref l2, .int x3]) (st' := []) f_246_669 rfl rfl).trans (g_congr (v_c2 rfl (Nat.le_of_ble_eq_true rfl)) (fun h5 => m_congr fun p4 => (e_nx f_246_672 rfl).trans ((e_nx f_246_673 rfl).trans ((e_nx f_246_674 rfl).trans ((e_nx (q := (_, _, .int 1 :: _, _)) f_246_675 rfl).trans ((e_nx f_246_676 rfl).trans ((e_ia (L := [.ref l0, .ref l1, .ref l2, .int x3]) (r := [.ref l2, .int p4.1]) (μ := p4.2) f_246_677).trans (m_congr fun v6 => (e_nx f_246_678 rfl).trans ((e_nx f_246_679 rfl).trans ((e_nx (q := (_, _, .int 2 :: _, _)) f_246_680 rfl).trans ((e_nx f_246_681 rfl).trans ((e_ia (L := [.ref l0, .ref l1, .ref l2, .int x3]) (r := [.int v6, .ref l2, .int p4.1]) (μ := p4.2) f_246_682).trans (m_congr fun v7 => (e_nx f_246_683 rfl).trans ((e_nx f_246_684 rfl).trans ((e_nx (q := (_, _, .int 3 :: _, _)) f_246_685 rfl).trans ((e_nx f_246_686 rfl).trans ((e_ia (L := [.ref l0, .ref l1, .ref l2, .int x3]) (r := [.int v7, .int v6, .ref l2, .int p4.1]) (μ := p4.2) f_246_687).trans (m_congr fun v8 => (e_gI (L := [.ref l0, .ref l1, .ref l2, .int x3]) (st := [.int v8, .int v7, .int v6, .ref l2, .int p4.1]) (μ := p4.2) (L' := [.ref l0, .ref l1, .ref l2, .int x3]) (st' := [.int p4.1]) f_246_688 rfl rfl).trans (g_congr (v_c2 rfl (Nat.le_of_ble_eq_true rfl)) (fun h10 => m_congr fun p9 => (e_eq f_246_691 rfl).trans (b_congr (fun h11 => rfl) (fun h11 => (e_nx (q := (_, _, .int 0 :: _, _)) f_246_694 rfl).trans (e_rt f_246_695 rfl)))))))))))))))))))))))))))))))))))))))
theorem q_246_696 (d : Nat) (l0 : Nat) (l1 : Nat) (l2 : Nat) (x3 : Int32) (μ : aMem) : Rn (d + 1) 246 (696, [.ref l0, .ref l1, .ref l2, .int x3], [], μ) = (rdI μ l0 (x3 + 1)).bind fun v1 => (rdI μ l0 (x3 + 2)).bind fun v2 => if (mS μ l1).1 = 8 ∧ l1 < 999999 then ((cJ d 98 [.ref l1, .int v1, .int v2] μ).bind fun p3 => (rdI p3.2 l0 (x3 + 1)).bind fun v5 => (rdI p3.2 l0 (x3 + 2)).bind fun v6 => if (mS p3.2 l2).1 = 9 ∧ l2 < 999999 then ((cJ d 183 [.ref l2, .int v5, .int v6] p3.2).bind fun p7 => if (lg_cmp p3.1 p7.1) = 0 then (Rn (d + 1) 246 (1420, [.ref l0, .ref l1, .ref l2, .int x3], [], p7.2)) else (some (some (.int 0), p7.2))) else none) else none :=
  (e_nx f_246_696 rfl).trans ((e_nx f_246_697 rfl).trans ((e_nx f_246_698 rfl).trans ((e_nx (q := (_, _, .int 1 :: _, _)) f_246_699 rfl).trans ((e_nx f_246_700 rfl).trans ((e_ia (L := [.ref l0, .ref l1, .ref l2, .int x3]) (r := [.ref l1]) (μ := μ) f_246_701).trans (m_congr fun v1 => (e_nx f_246_702 rfl).trans ((e_nx f_246_703 rfl).trans ((e_nx (q := (_, _, .int 2 :: _, _)) f_246_704 rfl).trans ((e_nx f_246_705 rfl).trans ((e_ia (L := [.ref l0, .ref l1, .ref l2, .int x3]) (r := [.int v1, .ref l1]) (μ := μ) f_246_706).trans (m_congr fun v2 => (e_gJ (L := [.ref l0, .ref l1, .ref l2, .int x3]) (st := [.int v2, .int v1, .ref l1]) (μ := μ) (L' := [.ref l0, .ref l1, .ref l2, .int x3]) (st' := []) f_246_707 rfl rfl).trans (g_congr (v_c2 rfl (Nat.le_of_ble_eq_true rfl)) (fun h4 => m_congr fun p3 => (e_nx f_246_710 rfl).trans ((e_nx f_246_711 rfl).trans ((e_nx f_246_712 rfl).trans ((e_nx (q := (_, _, .int 1 :: _, _)) f_246_713 rfl).trans ((e_nx f_246_714 rfl).trans ((e_ia (L := [.ref l0, .ref l1, .ref l2, .int x3]) (r := [.ref l2, .long p3.1]) (μ := p3.2) f_246_715).trans (m_congr fun v5 => (e_nx f_246_716 rfl).trans ((e_nx f_246_717 rfl).trans ((e_nx (q := (_, _, .int 2 :: _, _)) f_246_718 rfl).trans ((e_nx f_246_719 rfl).trans ((e_ia (L := [.ref l0, .ref l1, .ref l2, .int x3]) (r := [.int v5, .ref l2, .long p3.1]) (μ := p3.2) f_246_720).trans (m_congr fun v6 => (e_gJ (L := [.ref l0, .ref l1, .ref l2, .int x3]) (st := [.int v6, .int v5, .ref l2, .long p3.1]) (μ := p3.2) (L' := [.ref l0, .ref l1, .ref l2, .int x3]) (st' := [.long p3.1]) f_246_721 rfl rfl).trans (g_congr (v_c2 rfl (Nat.le_of_ble_eq_true rfl)) (fun h8 => m_congr fun p7 => (e_nx f_246_724 rfl).trans ((e_eq f_246_725 rfl).trans (b_congr (fun h9 => rfl) (fun h9 => (e_nx (q := (_, _, .int 0 :: _, _)) f_246_728 rfl).trans (e_rt f_246_729 rfl))))))))))))))))))))))))))))))
theorem q_246_730 (d : Nat) (l0 : Nat) (l1 : Nat) (l2 : Nat) (x3 : Int32) (μ : aMem) : Rn (d + 1) 246 (730, [.ref l0, .ref l1, .ref l2, .int x3], [], μ) = (rdI μ l0 (x3 + 1)).bind fun v1 => if (mS μ l1).1 = 8 ∧ l1 < 999999 then ((cI d 99 [.ref l1, .int v1] μ).bind fun p2 => (rdI p2.2 l0 (x3 + 1)).bind fun v4 => if (mS p2.2 l2).1 = 9 ∧ l2 < 999999 then ((cI d 185 [.ref l2, .int v4] p2.2).bind fun p5 => if p2.1 = p5.1 then (Rn (d + 1) 246 (1420, [.ref l0, .ref l1, .ref l2, .int x3], [], p5.2)) else (some (some (.int 0), p5.2))) else none) else none :=
  (e_nx f_246_730 rfl).trans ((e_nx f_246_731 rfl).trans ((e_nx f_246_732 rfl).trans ((e_nx (q := (_, _, .int 1 :: _, _)) f_246_733 rfl).trans ((e_nx f_246_734 rfl).trans ((e_ia (L := [.ref l0, .ref l1, .ref l2, .int x3]) (r := [.ref l1]) (μ := μ) f_246_735).trans (m_congr fun v1 => (e_gI (L := [.ref l0, .ref l1, .ref l2, .int x3]) (st := [.int v1, .ref l1]) (μ := μ) (L' := [.ref l0, .ref l1, .ref l2, .int x3]) (st' := []) f_246_736 rfl rfl).trans (g_congr (v_c2 rfl (Nat.le_of_ble_eq_true rfl)) (fun h3 => m_congr fun p2 => (e_nx f_246_739 rfl).trans ((e_nx f_246_740 rfl).trans ((e_nx f_246_741 rfl).trans ((e_nx (q := (_, _, .int 1 :: _, _)) f_246_742 rfl).trans ((e_nx f_246_743 rfl).trans ((e_ia (L := [.ref l0, .ref l1, .ref l2, .int x3]) (r := [.ref l2, .int p2.1]) (μ := p2.2) f_246_744).trans (m_congr fun v4 => (e_gI (L := [.ref l0, .ref l1, .ref l2, .int x3]) (st := [.int v4, .ref l2, .int p2.1]) (μ := p2.2) (L' := [.ref l0, .ref l1, .ref l2, .int x3]) (st' := [.int p2.1]) f_246_745 rfl rfl).trans (g_congr (v_c2 rfl (Nat.le_of_ble_eq_true rfl)) (fun h6 => m_congr fun p5 => (e_eq f_246_748 rfl).trans (b_congr (fun h7 => rfl) (fun h7 => (e_nx (q := (_, _, .int 0 :: _, _)) f_246_751 rfl).trans (e_rt f_246_752 rfl)))))))))))))))))))
theorem q_246_753 (d : Nat) (l0 : Nat) (l1 : Nat) (l2 : Nat) (x3 : Int32) (μ : aMem) : Rn (d + 1) 246 (753, [.ref l0, .ref l1, .ref l2, .int x3], [], μ) = (rdI μ l0 (x3 + 1)).bind fun v1 => if (mS μ l1).1 = 8 ∧ l1 < 999999 then ((cJ d 100 [.ref l1, .int v1] μ).bind fun p2 => (rdI p2.2 l0 (x3 + 1)).bind fun v4 => if (mS p2.2 l2).1 = 9 ∧ l2 < 999999 then ((cJ d 186 [.ref l2, .int v4] p2.2).bind fun p5 => if (lg_cmp p2.1 p5.1) = 0 then (Rn (d + 1) 246 (1420, [.ref l0, .ref l1, .ref l2, .int x3], [], p5.2)) else (some (some (.int 0), p5.2))) else none) else none :=
  (e_nx f_246_753 rfl).trans ((e_nx f_246_754 rfl).trans ((e_nx f_246_755 rfl).trans ((e_nx (q := (_, _, .int 1 :: _, _)) f_246_756 rfl).trans ((e_nx f_246_757 rfl).trans ((e_ia (L := [.ref l0, .ref l1, .ref l2, .int x3]) (r := [.ref l1]) (μ := μ) f_246_758).trans (m_congr fun v1 => (e_gJ (L := [.ref l0, .ref l1, .ref l2, .int x3]) (st := [.int v1, .ref l1]) (μ := μ) (L' := [.ref l0, .ref l1, .ref l2, .int x3]) (st' := []) f_246_759 rfl rfl).trans (g_congr (v_c2 rfl (Nat.le_of_ble_eq_true rfl)) (fun h3 => m_congr fun p2 => (e_nx f_246_762 rfl).trans ((e_nx f_246_763 rfl).trans ((e_nx f_246_764 rfl).trans ((e_nx (q := (_, _, .int 1 :: _, _)) f_246_765 rfl).trans ((e_nx f_246_766 rfl).trans ((e_ia (L := [.ref l0, .ref l1, .ref l2, .int x3]) (r := [.ref l2, .long p2.1]) (μ := p2.2) f_246_767).trans (m_congr fun v4 => (e_gJ (L := [.ref l0, .ref l1, .ref l2, .int x3]) (st := [.int v4, .ref l2, .long p2.1]) (μ := p2.2) (L' := [.ref l0, .ref l1, .ref l2, .int x3]) (st' := [.long p2.1]) f_246_768 rfl rfl).trans (g_congr (v_c2 rfl (Nat.le_of_ble_eq_true rfl)) (fun h6 => m_congr fun p5 => (e_nx f_246_771 rfl).trans ((e_eq f_246_772 rfl).trans (b_congr (fun h7 => rfl) (fun h7 => (e_nx (q := (_, _, .int 0 :: _, _)) f_246_775 rfl).trans (e_rt f_246_776 rfl))))))))))))))))))))
theorem q_246_777 (d : Nat) (l0 : Nat) (l1 : Nat) (l2 : Nat) (x3 : Int32) (μ : aMem) : Rn (d + 1) 246 (777, [.ref l0, .ref l1, .ref l2, .int x3], [], μ) = (rdI μ l0 (x3 + 1)).bind fun v1 => (rdI μ l0 (x3 + 2)).bind fun v2 => if (mS μ l1).1 = 8 ∧ l1 < 999999 then ((cI d 101 [.ref l1, .int v1, .int v2] μ).bind fun p3 => (rdI p3.2 l0 (x3 + 1)).bind fun v5 => (rdI p3.2 l0 (x3 + 2)).bind fun v6 => if (mS p3.2 l2).1 = 9 ∧ l2 < 999999 then ((cI d 188 [.ref l2, .int v5, .int v6] p3.2).bind fun p7 => if p3.1 = p7.1 then (Rn (d + 1) 246 (1420, [.ref l0, .ref l1, .ref l2, .int x3], [], p7.2)) else (some (some (.int 0), p7.2))) else none) else none :=
  (e_nx f_246_777 rfl).trans ((e_nx f_246_778 rfl).trans ((e_nx f_246_779 rfl).trans ((e_nx (q := (_, _, .int 1 :: _, _)) f_246_780 rfl).trans ((e_nx f_246_781 rfl).trans ((e_ia (L := [.ref l0, .ref l1, .ref l2, .int x3]) (r := [.ref l1]) (μ := μ) f_246_782).trans (m_congr fun v1 => (e_nx f_246_783 rfl).trans ((e_nx f_246_784 rfl).trans ((e_nx (q := (_, _, .int 2 :: _, _)) f_246_785 rfl).trans ((e_nx f_246_786 rfl).trans ((e_ia (L := [.ref l0, .ref l1, .ref l2, .int x3]) (r := [.int v1, .ref l1]) (μ := μ) f_246_787).trans (m_congr fun v2 => (e_gI (L := [.ref l0, .ref l1, .ref l2, .int x3]) (st := [.int v2, .int v1, .ref l1]) (μ := μ) (L' := [.ref l0, .ref l1, .ref l2, .int x3]) (st' := []) f_246_788 rfl rfl).trans (g_congr (v_c2 rfl (Nat.le_of_ble_eq_true rfl)) (fun h4 => m_congr fun p3 => (e_nx f_246_791 rfl).trans ((e_nx f_246_792 rfl).trans ((e_nx f_246_793 rfl).trans ((e_nx (q := (_, _, .int 1 :: _, _)) f_246_794 rfl).trans ((e_nx f_246_795 rfl).trans ((e_ia (L := [.ref l0, .ref l1, .ref l2, .int x3]) (r := [.ref l2, .int p3.1]) (μ := p3.2) f_246_796).trans (m_congr fun v5 => (e_nx f_246_797 rfl).trans ((e_nx f_246_798 rfl).trans ((e_nx (q := (_, _, .int 2 :: _, _)) f_246_799 rfl).trans ((e_nx f_246_800 rfl).trans ((e_ia (L := [.ref l0, .ref l1, .ref l2, .int x3]) (r := [.int v5, .ref l2, .int p3.1]) (μ := p3.2) f_246_801).trans (m_congr fun v6 => (e_gI (L := [.ref l0, .ref l1, .ref l2, .int x3]) (st := [.int v6, .int v5, .ref l2, .int p3.1]) (μ := p3.2) (L' := [.ref l0, .ref l1, .ref l2, .int x3]) (st' := [.int p3.1]) f_246_802 rfl rfl).trans (g_congr (v_c2 rfl (Nat.le_of_ble_eq_true rfl)) (fun h8 => m_congr fun p7 => (e_eq f_246_805 rfl).trans (b_congr (fun h9 => rfl) (fun h9 => (e_nx (q := (_, _, .int 0 :: _, _)) f_246_808 rfl).trans (e_rt f_246_809 rfl)))))))))))))))))))))))))))))
theorem q_246_810 (d : Nat) (l0 : Nat) (l1 : Nat) (l2 : Nat) (x3 : Int32) (μ : aMem) : Rn (d + 1) 246 (810, [.ref l0, .ref l1, .ref l2, .int x3], [], μ) = (rdI μ l0 (x3 + 1)).bind fun v1 => if (mS μ l1).1 = 8 ∧ l1 < 999999 then ((cI d 102 [.ref l1, .int v1] μ).bind fun p2 => (rdI p2.2 l0 (x3 + 1)).bind fun v4 => if (mS p2.2 l2).1 = 9 ∧ l2 < 999999 then ((cI d 189 [.ref l2, .int v4] p2.2).bind fun p5 => if p2.1 = p5.1 then (Rn (d + 1) 246 (1420, [.ref l0, .ref l1, .ref l2, .int x3], [], p5.2)) else (some (some (.int 0), p5.2))) else none) else none :=
  (e_nx f_246_810 rfl).trans ((e_nx f_246_811 rfl).trans ((e_nx f_246_812 rfl).trans ((e_nx (q := (_, _, .int 1 :: _, _)) f_246_813 rfl).trans ((e_nx f_246_814 rfl).trans ((e_ia (L := [.ref l0, .ref l1, .ref l2, .int x3]) (r := [.ref l1]) (μ := μ) f_246_815).trans (m_congr fun v1 => (e_gI (L := [.ref l0, .ref l1, .ref l2, .int x3]) (st := [.int v1, .ref l1]) (μ := μ) (L' := [.ref l0, .ref l1, .ref l2, .int x3]) (st' := []) f_246_816 rfl rfl).trans (g_congr (v_c2 rfl (Nat.le_of_ble_eq_true rfl)) (fun h3 => m_congr fun p2 => (e_nx f_246_819 rfl).trans ((e_nx f_246_820 rfl).trans ((e_nx f_246_821 rfl).trans ((e_nx (q := (_, _, .int 1 :: _, _)) f_246_822 rfl).trans ((e_nx f_246_823 rfl).trans ((e_ia (L := [.ref l0, .ref l1, .ref l2, .int x3]) (r := [.ref l2, .int p2.1]) (μ := p2.2) f_246_824).trans (m_congr fun v4 => (e_gI (L := [.ref l0, .ref l1, .ref l2, .int x3]) (st := [.int v4, .ref l2, .int p2.1]) (μ := p2.2) (L' := [.ref l0, .ref l1, .ref l2, .int x3]) (st' := [.int p2.1]) f_246_825 rfl rfl).trans (g_congr (v_c2 rfl (Nat.le_of_ble_eq_true rfl)) (fun h6 => m_congr fun p5 => (e_eq f_246_828 rfl).trans (b_congr (fun h7 => rfl) (fun h7 => (e_nx (q := (_, _, .int 0 :: _, _)) f_246_831 rfl).trans (e_rt f_246_832 rfl)))))))))))))))))))
theorem q_246_833 (d : Nat) (l0 : Nat) (l1 : Nat) (l2 : Nat) (x3 : Int32) (μ : aMem) : Rn (d + 1) 246 (833, [.ref l0, .ref l1, .ref l2, .int x3], [], μ) = (rdI μ l0 (x3 + 1)).bind fun v1 => (rdI μ l0 (x3 + 2)).bind fun v2 => (rdI μ l0 (x3 + 3)).bind fun v3 => if (mS μ l1).1 = 8 ∧ l1 < 999999 then ((cI d 103 [.ref l1, .int v1, .int v2, .int v3] μ).bind fun p4 => (rdI p4.2 l0 (x3 + 1)).bind fun v6 => (rdI p4.2 l0 (x3 + 2)).bind fun v7 => (rdI p4.2 l0 (x3 + 3)).bind fun v8 => if (mS p4.2 l2).1 = 9 ∧ l2 < 999999 then ((cI d 190 [.ref l2, .int v6, .int v7, .int v8] p4.2).bind fun p9 => if p4.1 = p9.1 then (Rn (d + 1) 246 (1420, [.ref l0, .ref l1, .ref l2, .int x3], [], p9.2)) else (some (some (.int 0), p9.2))) else none) else none :=
  (e_nx f_246_833 rfl).trans ((e_nx f_246_834 rfl).trans ((e_nx f_246_835 rfl).trans ((e_nx (q := (_, _, .int 1 :: _, _)) f_246_836 rfl).trans ((e_nx f_246_837 rfl).trans ((e_ia (L := [.ref l0, .ref l1, .ref l2, .int x3]) (r := [.ref l1]) (μ := μ) f_246_838).trans (m_congr fun v1 => (e_nx f_246_839 rfl).trans ((e_nx f_246_840 rfl).trans ((e_nx (q := (_, _, .int 2 :: _, _)) f_246_841 rfl).trans ((e_nx f_246_842 rfl).trans ((e_ia (L := [.ref l0, .ref l1, .ref l2, .int x3]) (r := [.int v1, .ref l1]) (μ := μ) f_246_843).trans (m_congr fun v2 => (e_nx f_246_844 rfl).trans ((e_nx f_246_845 rfl).trans ((e_nx (q := (_, _, .int 3 :: _, _)) f_246_846 rfl).trans ((e_nx f_246_847 rfl).trans ((e_ia (L := [.ref l0, .ref l1, .ref l2, .int x3]) (r := [.int v2, .int v1, .ref l1]) (μ := μ) f_246_848).trans (m_congr fun v3 => (e_gI (L := [.ref l0, .ref l1, .ref l2, .int x3]) (st := [.int v3, .int v2, .int v1, .ref l1]) (μ := μ) (L' := [.ref l0, .ref l1, .ref l2, .int x3]) (st' := []) f_246_849 rfl rfl).trans (g_congr (v_c2 rfl (Nat.le_of_ble_eq_true rfl)) (fun h5 => m_congr fun p4 => (e_nx f_246_852 rfl).trans ((e_nx f_246_853 rfl).trans ((e_nx f_246_854 rfl).trans ((e_nx (q := (_, _, .int 1 :: _, _)) f_246_855 rfl).trans ((e_nx f_246_856 rfl).trans ((e_ia (L := [.ref l0, .ref l1, .ref l2, .int x3]) (r := [.ref l2, .int p4.1]) (μ := p4.2) f_246_857).trans (m_congr fun v6 => (e_nx f_246_858 rfl).trans ((e_nx f_246_859 rfl).trans ((e_nx (q := (_, _, .int 2 :: _, _)) f_246_860 rfl).trans ((e_nx f_246_861 rfl).trans ((e_ia (L := [.ref l0, .ref l1, .ref l2, .int x3]) (r := [.int v6, .ref l2, .int p4.1]) (μ := p4.2) f_246_862).trans (m_congr fun v7 => (e_nx f_246_863 rfl).trans ((e_nx f_246_864 rfl).trans ((e_nx (q := (_, _, .int 3 :: _, _)) f_246_865 rfl).trans ((e_nx f_246_866 rfl).trans ((e_ia (L := [.ref l0, .ref l1, .ref l2, .int x3]) (r := [.int v7, .int v6, .ref l2, .int p4.1]) (μ := p4.2) f_246_867).trans (m_congr fun v8 => (e_gI (L := [.ref l0, .ref l1, .ref l2, .int x3]) (st := [.int v8, .int v7, .int v6, .ref l2, .int p4.1]) (μ := p4.2) (L' := [.ref l0, .ref l1, .ref l2, .int x3]) (st' := [.int p4.1]) f_246_868 rfl rfl).trans (g_congr (v_c2 rfl (Nat.le_of_ble_eq_true rfl)) (fun h10 => m_congr fun p9 => (e_eq f_246_871 rfl).trans (b_congr (fun h11 => rfl) (fun h11 => (e_nx (q := (_, _, .int 0 :: _, _)) f_246_874 rfl).trans (e_rt f_246_875 rfl)))))))))))))))))))))))))))))))))))))))
theorem q_246_876 (d : Nat) (l0 : Nat) (l1 : Nat) (l2 : Nat) (x3 : Int32) (μ : aMem) : Rn (d + 1) 246 (876, [.ref l0, .ref l1, .ref l2, .int x3], [], μ) = (rdI μ l0 (x3 + 1)).bind fun v1 => if (mS μ l1).1 = 8 ∧ l1 < 999999 then ((cI d 104 [.ref l1, .int v1] μ).bind fun p2 => (rdI p2.2 l0 (x3 + 1)).bind fun v4 => if (mS p2.2 l2).1 = 9 ∧ l2 < 999999 then ((cI d 191 [.ref l2, .int v4] p2.2).bind fun p5 => if p2.1 = p5.1 then (Rn (d + 1) 246 (1420, [.ref l0, .ref l1, .ref l2, .int x3], [], p5.2)) else (some (some (.int 0), p5.2))) else none) else none :=
  (e_nx f_246_876 rfl).trans ((e_nx f_246_877 rfl).trans ((e_nx f_246_878 rfl).trans ((e_nx (q := (_, _, .int 1 :: _, _)) f_246_879 rfl).trans ((e_nx f_246_880 rfl).trans ((e_ia (L := [.ref l0, .ref l1, .ref l2, .int x3]) (r := [.ref l1]) (μ := μ) f_246_881).trans (m_congr fun v1 => (e_gI (L := [.ref l0, .ref l1, .ref l2, .int x3]) (st := [.int v1, .ref l1]) (μ := μ) (L' := [.ref l0, .ref l1, .ref l2, .int x3]) (st' := []) f_246_882 rfl rfl).trans (g_congr (v_c2 rfl (Nat.le_of_ble_eq_true rfl)) (fun h3 => m_congr fun p2 => (e_nx f_246_885 rfl).trans ((e_nx f_246_886 rfl).trans ((e_nx f_246_887 rfl).trans ((e_nx (q := (_, _, .int 1 :: _, _)) f_246_888 rfl).trans ((e_nx f_246_889 rfl).trans ((e_ia (L := [.ref l0, .ref l1, .ref l2, .int x3]) (r := [.ref l2, .int p2.1]) (μ := p2.2) f_246_890).trans (m_congr fun v4 => (e_gI (L := [.ref l0, .ref l1, .ref l2, .int x3]) (st := [.int v4, .ref l2, .int p2.1]) (μ := p2.2) (L' := [.ref l0, .ref l1, .ref l2, .int x3]) (st' := [.int p2.1]) f_246_891 rfl rfl).trans (g_congr (v_c2 rfl (Nat.le_of_ble_eq_true rfl)) (fun h6 => m_congr fun p5 => (e_eq f_246_894 rfl).trans (b_congr (fun h7 => rfl) (fun h7 => (e_nx (q := (_, _, .int 0 :: _, _)) f_246_897 rfl).trans (e_rt f_246_898 rfl)))))))))))))))))))
theorem q_246_899 (d : Nat) (l0 : Nat) (l1 : Nat) (l2 : Nat) (x3 : Int32) (μ : aMem) : Rn (d + 1) 246 (899, [.ref l0, .ref l1, .ref l2, .int x3], [], μ) = if (mS μ l1).1 = 8 ∧ l1 < 999999 then ((cI d 105 [.ref l1] μ).bind fun p1 => if (mS p1.2 l2).1 = 9 ∧ l2 < 999999 then ((cI d 207 [.ref l2] p1.2).bind fun p3 => if p1.1 = p3.1 then (Rn (d + 1) 246 (1420, [.ref l0, .ref l1, .ref l2, .int x3], [], p3.2)) else (some (some (.int 0), p3.2))) else none) else none :=
  (e_nx f_246_899 rfl).trans ((e_gI (L := [.ref l0, .ref l1, .ref l2, .int x3]) (st := [.ref l1]) (μ := μ) (L' := [.ref l0, .ref l1, .ref l2, .int x3]) (st' := []) f_246_900 rfl rfl).trans (g_congr (v_c2 rfl (Nat.le_of_ble_eq_true rfl)) (fun h2 => m_congr fun p1 => (e_nx f_246_903 rfl).trans ((e_gI (L := [.ref l0, .ref l1, .ref l2, .int x3]) (st := [.ref l2, .int p1.1]) (μ := p1.2) (L' := [.ref l0, .ref l1, .ref l2, .int x3]) (st' := [.int p1.1]) f_246_904 rfl rfl).trans (g_congr (v_c2 rfl (Nat.le_of_ble_eq_true rfl)) (fun h4 => m_congr fun p3 => (e_eq f_246_907 rfl).trans (b_congr (fun h5 => rfl) (fun h5 => (e_nx (q := (_, _, .int 0 :: _, _)) f_246_910 rfl).trans (e_rt f_246_911 rfl)))))))))
theorem q_246_912 (d : Nat) (l0 : Nat) (l1 : Nat) (l2 : Nat) (x3 : Int32) (μ : aMem) : Rn (d + 1) 246 (912, [.ref l0, .ref l1, .ref l2, .int x3], [], μ) = (rdI μ l0 (x3 + 1)).bind fun v1 => (rdI μ l0 (x3 + 2)).bind fun v2 => if (mS μ l1).1 = 8 ∧ l1 < 999999 then ((cI d 106 [.ref l1, .int v1, .int v2] μ).bind fun p3 => (rdI p3.2 l0 (x3 + 1)).bind fun v5 => (rdI p3.2 l0 (x3 + 2)).bind fun v6 => if (mS p3.2 l2).1 = 9 ∧ l2 < 999999 then ((cI d 208 [.ref l2, .int v5, .int v6] p3.2).bind fun p7 => if p3.1 = p7.1 then (Rn (d + 1) 246 (1420, [.ref l0, .ref l1, .ref l2, .int x3], [], p7.2)) else (some (some (.int 0), p7.2))) else none) else none :=
  (e_nx f_246_912 rfl).trans ((e_nx f_246_913 rfl).trans ((e_nx f_246_914 rfl).trans ((e_nx (q := (_, _, .int 1 :: _, _)) f_246_915 rfl).trans ((e_nx f_246_916 rfl).trans ((e_ia (L := [.ref l0, .ref l1, .ref l2, .int x3]) (r := [.ref l1]) (μ := μ) f_246_917).trans (m_congr fun v1 => (e_nx f_246_918 rfl).trans ((e_nx f_246_919 rfl).trans ((e_nx (q := (_, _, .int 2 :: _, _)) f_246_920 rfl).trans ((e_nx f_246_921 rfl).trans ((e_ia (L := [.ref l0, .ref l1, .ref l2, .int x3]) (r := [.int v1, .ref l1]) (μ := μ) f_246_922).trans (m_congr fun v2 => (e_gI (L := [.ref l0, .ref l1, .ref l2, .int x3]) (st := [.int v2, .int v1, .ref l1]) (μ := μ) (L' := [.ref l0, .ref l1, .ref l2, .int x3]) (st' := []) f_246_923 rfl rfl).trans (g_congr (v_c2 rfl (Nat.le_of_ble_eq_true rfl)) (fun h4 => m_congr fun p3 => (e_nx f_246_926 rfl).trans ((e_nx f_246_927 rfl).trans ((e_nx f_246_928 rfl).trans ((e_nx (q := (_, _, .int 1 :: _, _)) f_246_929 rfl).trans ((e_nx f_246_930 rfl).trans ((e_ia (L := [.ref l0, .ref l1, .ref l2, .int x3]) (r := [.ref l2, .int p3.1]) (μ := p3.2) f_246_931).trans (m_congr fun v5 => (e_nx f_246_932 rfl).trans ((e_nx f_246_933 rfl).trans ((e_nx (q := (_, _, .int 2 :: _, _)) f_246_934 rfl).trans ((e_nx f_246_935 rfl).trans ((e_ia (L := [.ref l0, .ref l1, .ref l2, .int x3]) (r := [.int v5, .ref l2, .int p3.1]) (μ := p3.2) f_246_936).trans (m_congr fun v6 => (e_gI (L := [.ref l0, .ref l1, .ref l2, .int x3]) (st := [.int v6, .int v5, .ref l2, .int p3.1]) (μ := p3.2) (L' := [.ref l0, .ref l1, .ref l2, .int x3]) (st' := [.int p3.1]) f_246_937 rfl rfl).trans (g_congr (v_c2 rfl (Nat.le_of_ble_eq_true rfl)) (fun h8 => m_congr fun p7 => (e_eq f_246_940 rfl).trans (b_congr (fun h9 => rfl) (fun h9 => (e_nx (q := (_, _, .int 0 :: _, _)) f_246_943 rfl).trans (e_rt f_246_944 rfl)))))))))))))))))))))))))))))
theorem q_246_945 (d : Nat) (l0 : Nat) (l1 : Nat) (l2 : Nat) (x3 : Int32) (μ : aMem) : Rn (d + 1) 246 (945, [.ref l0, .ref l1, .ref l2, .int x3], [], μ) = (rdI μ l0 (x3 + 1)).bind fun v1 => if (mS μ l1).1 = 8 ∧ l1 < 999999 then ((cI d 107 [.ref l1, .int v1] μ).bind fun p2 => (rdI p2.2 l0 (x3 + 1)).bind fun v4 => if (mS p2.2 l2).1 = 9 ∧ l2 < 999999 then ((cI d 210 [.ref l2, .int v4] p2.2).bind fun p5 => if p2.1 = p5.1 then (Rn (d + 1) 246 (1420, [.ref l0, .ref l1, .ref l2, .int x3], [], p5.2)) else (some (some (.int 0), p5.2))) else none) else none :=
  (e_nx f_246_945 rfl).trans ((e_nx f_246_946 rfl).trans ((e_nx f_246_947 rfl).trans ((e_nx (q := (_, _, .int 1 :: _, _)) f_246_948 rfl).trans ((e_nx f_246_949 rfl).trans ((e_ia (L := [.ref l0, .ref l1, .ref l2, .int x3]) (r := [.ref l1]) (μ := μ) f_246_950).trans (m_congr fun v1 => (e_gI (L := [.ref l0, .ref l1, .ref l2, .int x3]) (st := [.int v1, .ref l1]) (μ := μ) (L' := [.ref l0, .ref l1, .ref l2, .int x3]) (st' := []) f_246_951 rfl rfl).trans (g_congr (v_c2 rfl (Nat.le_of_ble_eq_true rfl)) (fun h3 => m_congr fun p2 => (e_nx f_246_954 rfl).trans ((e_nx f_246_955 rfl).trans ((e_nx f_246_956 rfl).trans ((e_nx (q := (_, _, .int 1 :: _, _)) f_246_957 rfl).trans ((e_nx f_246_958 rfl).trans ((e_ia (L := [.ref l0, .ref l1, .ref l2, .int x3]) (r := [.ref l2, .int p2.1]) (μ := p2.2) f_246_959).trans (m_congr fun v4 => (e_gI (L := [.ref l0, .ref l1, .ref l2, .int x3]) (st := [.int v4, .ref l2, .int p2.1]) (μ := p2.2) (L' := [.ref l0, .ref l1, .ref l2, .int x3]) (st' := [.int p2.1]) f_246_960 rfl rfl).trans (g_congr (v_c2 rfl (Nat.le_of_ble_eq_true rfl)) (fun h6 => m_congr fun p5 => (e_eq f_246_963 rfl).trans (b_congr (fun h7 => rfl) (fun h7 => (e_nx (q := (_, _, .int 0 :: _, _)) f_246_966 rfl).trans (e_rt f_246_967 rfl)))))))))))))))))))
theorem q_246_968 (d : Nat) (l0 : Nat) (l1 : Nat) (l2 : Nat) (x3 : Int32) (μ : aMem) : Rn (d + 1) 246 (968, [.ref l0, .ref l1, .ref l2, .int x3], [], μ) = (rdI μ l0 (x3 + 1)).bind fun v1 => (rdI μ l0 (x3 + 2)).bind fun v2 => (rdI μ l0 (x3 + 3)).bind fun v3 => if (mS μ l1).1 = 8 ∧ l1 < 999999 then ((cI d 108 [.ref l1, .int v1, .int v2, .int v3] μ).bind fun p4 => (rdI p4.2 l0 (x3 + 1)).bind fun v6 => (rdI p4.2 l0 (x3 + 2)).bind fun v7 => (rdI p4.2 l0 (x3 + 3)).bind fun v8 => if (mS p4.2 l2).1 = 9 ∧ l2 < 999999 then ((cI d 214 [.ref l2, .int v6, .int v7, .int v8] p4.2).bind fun p9 => if p4.1 = p9.1 then (Rn (d + 1) 246 (1420, [.ref l0, .ref l1, .ref l2, .int x3], [], p9.2)) else (some (some (.int 0), p9.2))) else none) else none :=
  (e_nx f_246_968 rfl).trans ((e_nx f_246_969 rfl).trans ((e_nx f_246_970 rfl).trans ((e_nx (q := (_, _, .int 1 :: _, _)) f_246_971 rfl).trans ((e_nx f_246_972 rfl).trans ((e_ia (L := [.ref l0, .ref l1, .ref l2, .int x3]) (r := [.ref l1]) (μ := μ) f_246_973).trans (m_congr fun v1 => (e_nx f_246_974 rfl).trans ((e_nx f_246_975 rfl).trans ((e_nx (q := (_, _, .int 2 :: _, _)) f_246_976 rfl).trans ((e_nx f_246_977 rfl).trans ((e_ia (L := [.ref l0, .ref l1, .ref l2, .int x3]) (r := [.int v1, .ref l1]) (μ := μ) f_246_978).trans (m_congr fun v2 => (e_nx f_246_979 rfl).trans ((e_nx f_246_980 rfl).trans ((e_nx (q := (_, _, .int 3 :: _, _)) f_246_981 rfl).trans ((e_nx f_246_982 rfl).trans ((e_ia (L := [.ref l0, .ref l1, .ref l2, .int x3]) (r := [.int v2, .int v1, .ref l1]) (μ := μ) f_246_983).trans (m_congr fun v3 => (e_gI (L := [.ref l0, .ref l1, .ref l2, .int x3]) (st := [.int v3, .int v2, .int v1, .ref l1]) (μ := μ) (L' := [.ref l0, .ref l1, .ref l2, .int x3]) (st' := []) f_246_984 rfl rfl).trans (g_congr (v_c2 rfl (Nat.le_of_ble_eq_true rfl)) (fun h5 => m_congr fun p4 => (e_nx f_246_987 rfl).trans ((e_nx f_246_988 rfl).trans ((e_nx f_246_989 rfl).trans ((e_nx (q := (_, _, .int 1 :: _, _)) f_246_990 rfl).trans ((e_nx f_246_991 rfl).trans ((e_ia (L := [.ref l0, .ref l1, .ref l2, .int x3]) (r := [.ref l2, .int p4.1]) (μ := p4.2) f_246_992).trans (m_congr fun v6 => (e_nx f_246_993 rfl).trans ((e_nx f_246_994 rfl).trans ((e_nx (q := (_, _, .int 2 :: _, _)) f_246_995 rfl).trans ((e_nx f_246_996 rfl).trans ((e_ia (L := [.ref l0, .ref l1, .ref l2, .int x3]) (r := [.int v6, .ref l2, .int p4.1]) (μ := p4.2) f_246_997).trans (m_congr fun v7 => (e_nx f_246_998 rfl).trans ((e_nx f_246_999 rfl).trans ((e_nx (q := (_, _, .int 3 :: _, _)) f_246_1000 rfl).trans ((e_nx f_246_1001 rfl).trans ((e_ia (L := [.ref l0, .ref l1, .ref l2, .int x3]) (r := [.int v7, .int v6, .ref l2, .int p4.1]) (μ := p4.2) f_246_1002).trans (m_congr fun v8 => (e_gI (L := [.ref l0, .ref l1, .ref l2, .int x3]) (st := [.int v8, .int v7, .int v6, .ref l2, .int p4.1]) (μ := p4.2) (L' := [.ref l0, .ref l1, .ref l2, .int x3]) (st' := [.int p4.1]) f_246_1003 rfl rfl).trans (g_congr (v_c2 rfl (Nat.le_of_ble_eq_true rfl)) (fun h10 => m_congr fun p9 => (e_eq f_246_1006 rfl).trans (b_congr (fun h11 => rfl) (fun h11 => (e_nx (q := (_, _, .int 0 :: _, _)) f_246_1009 rfl).trans (e_rt f_246_1010 rfl)))))))))))))))))))))))))))))))))))))))
theorem q_246_1011 (d : Nat) (l0 : Nat) (l1 : Nat) (l2 : Nat) (x3 : Int32) (μ : aMem) : Rn (d + 1) 246 (1011, [.ref l0, .ref l1, .ref l2, .int x3], [], μ) = (rdI μ l0 (x3 + 1)).bind fun v1 => (rdI μ l0 (x3 + 2)).bind fun v2 => (rdI μ l0 (x3 + 3)).bind fun v3 => if (mS μ l1).1 = 8 ∧ l1 < 999999 then ((cI d 109 [.ref l1, .int v1, .int v2, .int v3] μ).bind fun p4 => (rdI p4.2 l0 (x3 + 1)).bind fun v6 => (rdI p4.2 l0 (x3 + 2)).bind fun v7 => (rdI p4.2 l0 (x3 + 3)).bind fun v8 => if (mS p4.2 l2).1 = 9 ∧ l2 < 999999 then ((cI d 215 [.ref l2, .int v6, .int v7, .int v8] p4.2).bind fun p9 => if p4.1 = p9.1 then (Rn (d + 1) 246 (1420, [.ref l0, .ref l1, .ref l2, .int x3], [], p9.2)) else (some (some (.int 0), p9.2))) else none) else none :=
  (e_nx f_246_1011 rfl).trans ((e_nx f_246_1012 rfl).trans ((e_nx f_246_1013 rfl).trans ((e_nx (q := (_, _, .int 1 :: _, _)) f_246_1014 rfl).trans ((e_nx f_246_1015 rfl).trans ((e_ia (L := [.ref l0, .ref l1, .ref l2, .int x3]) (r := [.ref l1]) (μ := μ) f_246_1016).trans (m_congr fun v1 => (e_nx f_246_1017 rfl).trans ((e_nx f_246_1018 rfl).trans ((e_nx (q := (_, _, .int 2 :: _, _)) f_246_1019 rfl).trans ((e_nx f_246_1020 rfl).trans ((e_ia (L := [.ref l0, .ref l1, .ref l2, .int x3]) (r := [.int v1, .ref l1]) (μ := μ) f_246_1021).trans (m_congr fun v2 => (e_nx f_246_1022 rfl).trans ((e_nx f_246_1023 rfl).trans ((e_nx (q := (_, _, .int 3 :: _, _)) f_246_1024 rfl).trans ((e_nx f_246_1025 rfl).trans ((e_ia (L := [.ref l0, .ref l1, .ref l2, .int x3]) (r := [.int v2, .int v1, .ref l1]) (μ := μ) f_246_1026).trans (m_congr fun v3 => (e_gI (L := [.ref l0, .ref l1, .ref l2, .int x3]) (st := [.int v3, .int v2, .int v1, .ref l1]) (μ := μ) (L' := [.ref l0, .ref l1, .ref l2, .int x3]) (st' := []) f_246_1027 rfl rfl).trans (g_congr (v_c2 rfl (Nat.le_of_ble_eq_true rfl)) (fun h5 => m_congr fun p4 => (e_nx f_246_1030 rfl).trans ((e_nx f_246_1031 rfl).trans ((e_nx f_246_1032 rfl).trans ((e_nx (q := (_, _, .int 1 :: _, _)) f_246_1033 rfl).trans ((e_nx f_246_1034 rfl).trans ((e_ia (L := [.ref l0, .ref l1, .ref l2, .int x3]) (r := [.ref l2, .int p4.1]) (μ := p4.2) f_246_1035).trans (m_congr fun v6 => (e_nx f_246_1036 rfl).trans ((e_nx f_246_1037 rfl).trans ((e_nx (q := (_, _, .int 2 :: _, _)) f_246_1038 rfl).trans ((e_nx f_246_1039 rfl).trans ((e_ia (L := [.ref l0, .ref l1, .ref l2, .int x3]) (r := [.int v6, .ref l2, .int p4.1]) (μ := p4.2) f_246_1040).trans (m_congr fun v7 => (e_nx f_246_1041 rfl).trans ((e_nx f_246_1042 rfl).trans ((e_nx (q := (_, _, .int 3 :: _, _)) f_246_1043 rfl).trans ((e_nx f_246_1044 rfl).trans ((e_ia (L := [.ref l0, .ref l1, .ref l2, .int x3]) (r := [.int v7, .int v6, .ref l2, .int p4.1]) (μ := p4.2) f_246_1045).trans (m_congr fun v8 => (e_gI (L := [.ref l0, .ref l1, .ref l2, .int x3]) (st := [.int v8, .int v7, .int v6, .ref l2, .int p4.1]) (μ := p4.2) (L' := [.ref l0, .ref l1, .ref l2, .int x3]) (st' := [.int p4.1]) f_246_1046 rfl rfl).trans (g_congr (v_c2 rfl (Nat.le_of_ble_eq_true rfl)) (fun h10 => m_congr fun p9 => (e_eq f_246_1049 rfl).trans (b_congr (fun h11 => rfl) (fun h11 => (e_nx (q := (_, _, .int 0 :: _, _)) f_246_1052 rfl).trans (e_rt f_246_1053 rfl)))))))))))))))))))))))))))))))))))))))
theorem q_246_1054 (d : Nat) (l0 : Nat) (l1 : Nat) (l2 : Nat) (x3 : Int32) (μ : aMem) : Rn (d + 1) 246 (1054, [.ref l0, .ref l1, .ref l2, .int x3], [], μ) = (rdI μ l0 (x3 + 1)).bind fun v1 => if (mS μ l1).1 = 8 ∧ l1 < 999999 then ((cI d 110 [.ref l1, .int v1] μ).bind fun p2 => (rdI p2.2 l0 (x3 + 1)).bind fun v4 => if (mS p2.2 l2).1 = 9 ∧ l2 < 999999 then ((cI d 216 [.ref l2, .int v4] p2.2).bind fun p5 => if p2.1 = p5.1 then (Rn (d + 1) 246 (1420, [.ref l0, .ref l1, .ref l2, .int x3], [], p5.2)) else (some (some (.int 0), p5.2))) else none) else none :=
  (e_nx f_246_1054 rfl).trans ((e_nx f_246_1055 rfl).trans ((e_nx f_246_1056 rfl).trans ((e_nx (q := (_, _, .int 1 :: _, _)) f_246_1057 rfl).trans ((e_nx f_246_1058 rfl).trans ((e_ia (L := [.ref l0, .ref l1, .ref l2, .int x3]) (r := [.ref l1]) (μ := μ) f_246_1059).trans (m_congr fun v1 => (e_gI (L := [.ref l0, .ref l1, .ref l2, .int x3]) (st := [.int v1, .ref l1]) (μ := μ) (L' := [.ref l0, .ref l1, .ref l2, .int x3]) (st' := []) f_246_1060 rfl rfl).trans (g_congr (v_c2 rfl (Nat.le_of_ble_eq_true rfl)) (fun h3 => m_congr fun p2 => (e_nx f_246_1063 rfl).trans ((e_nx f_246_1064 rfl).trans ((e_nx f_246_1065 rfl).trans ((e_nx (q := (_, _, .int 1 :: _, _)) f_246_1066 rfl).trans ((e_nx f_246_1067 rfl).trans ((e_ia (L := [.ref l0, .ref l1, .ref l2, .int x3]) (r := [.ref l2, .int p2.1]) (μ := p2.2) f_246_1068).trans (m_congr fun v4 => (e_gI (L := [.ref l0, .ref l1, .ref l2, .int x3]) (st := [.int v4, .ref l2, .int p2.1]) (μ := p2.2) (L' := [.ref l0, .ref l1, .ref l2, .int x3]) (st' := [.int p2.1]) f_246_1069 rfl rfl).trans (g_congr (v_c2 rfl (Nat.le_of_ble_eq_true rfl)) (fun h6 => m_congr fun p5 => (e_eq f_246_1072 rfl).trans (b_congr (fun h7 => rfl) (fun h7 => (e_nx (q := (_, _, .int 0 :: _, _)) f_246_1075 rfl).trans (e_rt f_246_1076 rfl)))))))))))))))))))
theorem q_246_1077 (d : Nat) (l0 : Nat) (l1 : Nat) (l2 : Nat) (x3 : Int32) (μ : aMem) : Rn (d + 1) 246 (1077, [.ref l0, .ref l1, .ref l2, .int x3], [], μ) = (rdI μ l0 (x3 + 1)).bind fun v1 => (rdI μ l0 (x3 + 2)).bind fun v2 => if (mS μ l1).1 = 8 ∧ l1 < 999999 then ((cI d 111 [.ref l1, .int v1, .int v2] μ).bind fun p3 => (rdI p3.2 l0 (x3 + 1)).bind fun v5 => (rdI p3.2 l0 (x3 + 2)).bind fun v6 => if (mS p3.2 l2).1 = 9 ∧ l2 < 999999 then ((cI d 217 [.ref l2, .int v5, .int v6] p3.2).bind fun p7 => if p3.1 = p7.1 then (Rn (d + 1) 246 (1420, [.ref l0, .ref l1, .ref l2, .int x3], [], p7.2)) else (some (some (.int 0), p7.2))) else none) else none :=
  (e_nx f_246_1077 rfl).trans ((e_nx f_246_1078 rfl).trans ((e_nx f_246_1079 rfl).trans ((e_nx (q := (_, _, .int 1 :: _, _)) f_246_1080 rfl).trans ((e_nx f_246_1081 rfl).trans ((e_ia (L := [.ref l0, .ref l1, .ref l2, .int x3]) (r := [.ref l1]) (μ := μ) f_246_1082).trans (m_congr fun v1 => (e_nx f_246_1083 rfl).trans ((e_nx f_246_1084 rfl).trans ((e_nx (q := (_, _, .int 2 :: _, _)) f_246_1085 rfl).trans ((e_nx f_246_1086 rfl).trans ((e_ia (L := [.ref l0, .ref l1, .ref l2, .int x3]) (r := [.int v1, .ref l1]) (μ := μ) f_246_1087).trans (m_congr fun v2 => (e_gI (L := [.ref l0, .ref l1, .ref l2, .int x3]) (st := [.int v2, .int v1, .ref l1]) (μ := μ) (L' := [.ref l0, .ref l1, .ref l2, .int x3]) (st' := []) f_246_1088 rfl rfl).trans (g_congr (v_c2 rfl (Nat.le_of_ble_eq_true rfl)) (fun h4 => m_congr fun p3 => (e_nx f_246_1091 rfl).trans ((e_nx f_246_1092 rfl).trans ((e_nx f_246_1093 rfl).trans ((e_nx (q := (_, _, .int 1 :: _, _)) f_246_1094 rfl).trans ((e_nx f_246_1095 rfl).trans ((e_ia (L := [.ref l0, .ref l1, .ref l2, .int x3]) (r := [.ref l2, .int p3.1]) (μ := p3.2) f_246_1096).trans (m_congr fun v5 => (e_nx f_246_1097 rfl).trans ((e_nx f_246_1098 rfl).trans ((e_nx (q := (_, _, .int 2 :: _, _)) f_246_1099 rfl).trans ((e_nx f_246_1100 rfl).trans ((e_ia (L := [.ref l0, .ref l1, .ref l2, .int x3]) (r := [.int v5, .ref l2, .int p3.1]) (μ := p3.2) f_246_1101).trans (m_congr fun v6 => (e_gI (L := [.ref l0, .ref l1, .ref l2, .int x3]) (st := [.int v6, .int v5, .ref l2, .int p3.1]) (μ := p3.2) (L' := [.ref l0, .ref l1, .ref l2, .int x3]) (st' := [.int p3.1]) f_246_1102 rfl rfl).trans (g_congr (v_c2 rfl (Nat.le_of_ble_eq_true rfl)) (fun h8 => m_congr fun p7 => (e_eq f_246_1105 rfl).trans (b_congr (fun h9 => rfl) (fun h9 => (e_nx (q := (_, _, .int 0 :: _, _)) f_246_1108 rfl).trans (e_rt f_246_1109 rfl)))))))))))))))))))))))))))))
theorem q_246_1110 (d : Nat) (l0 : Nat) (l1 : Nat) (l2 : Nat) (x3 : Int32) (μ : aMem) : Rn (d + 1) 246 (1110, [.ref l0, .ref l1, .ref l2, .int x3], [], μ) = (rdI μ l0 (x3 + 1)).bind fun v1 => (rdI μ l0 (x3 + 2)).bind fun v2 => (rdI μ l0 (x3 + 3)).bind fun v3 => (rdI μ l0 (x3 + 4)).bind fun v4 => (rdI μ l0 (x3 + 5)).bind fun v5 => if (mS μ l1).1 = 8 ∧ l1 < 999999 then ((cI d 112 [.ref l1, .int v1, .int v2, .int v3, .int v4, .int v5] μ).bind fun p6 => (rdI p6.2 l0 (x3 + 1)).bind fun v8 => (rdI p6.2 l0 (x3 + 2)).bind fun v9 => (rdI p6.2 l0 (x3 + 3)).bind fun v10 => (rdI p6.2 l0 (x3 + 4)).bind fun v11 => (rdI p6.2 l0 (x3 + 5)).bind fun v12 => if (mS p6.2 l2).1 = 9 ∧ l2 < 999999 then ((cI d 218 [.ref l2, .int v8, .int v9, .int v10, .int v11, .int v12] p6.2).bind fun p13 => if p6.1 = p13.1 then (Rn (d + 1) 246 (1420, [.ref l0, .ref l1, .ref l2, .int x3], [], p13.2)) else (some (some (.int 0), p13.2))) else none) else none :=
  (e_nx f_246_1110 rfl).trans ((e_nx f_246_1111 rfl).trans ((e_nx f_246_1112 rfl).trans ((e_nx (q := (_, _, .int 1 :: _, _)) f_246_1113 rfl).trans ((e_nx f_246_1114 rfl).trans ((e_ia (L := [.ref l0, .ref l1, .ref l2, .int x3]) (r := [.ref l1]) (μ := μ) f_246_1115).trans (m_congr fun v1 => (e_nx f_246_1116 rfl).trans ((e_nx f_246_1117 rfl).trans ((e_nx (q := (_, _, .int 2 :: _, _)) f_246_1118 rfl).trans ((e_nx f_246_1119 rfl).trans ((e_ia (L := [.ref l0, .ref l1, .ref l2, .int x3]) (r := [.int v1, .ref l1]) (μ := μ) f_246_1120).trans (m_congr fun v2 => (e_nx f_246_1121 rfl).trans ((e_nx f_246_1122 rfl).trans ((e_nx (q := (_, _, .int 3 :: _, _)) f_246_1123 rfl).trans ((e_nx f_246_1124 rfl).trans ((e_ia (L := [.ref l0, .ref l1, .ref l2, .int x3]) (r := [.int v2, .int v1, .ref l1]) (μ := μ) f_246_1125).trans (m_congr fun v3 => (e_nx f_246_1126 rfl).trans ((e_nx f_246_1127 rfl).trans ((e_nx (q := (_, _, .int 4 :: _, _)) f_246_1128 rfl).trans ((e_nx f_246_1129 rfl).trans ((e_ia (L := [.ref l0, .ref l1, .ref l2, .int x3]) (r := [.int v3, .int v2, .int v1, .ref l1]) (μ := μ) f_246_1130).trans (m_congr fun v4 => (e_nx f_246_1131 rfl).trans ((e_nx f_246_1132 rfl).trans ((e_nx (q := (_, _, .int 5 :: _, _)) f_246_1133 rfl).trans ((e_nx f_246_1134 rfl).trans ((e_ia (L := [.ref l0, .ref l1, .ref l2, .int x3]) (r := [.int v4, .int v3, .int v2, .int v1, .ref l1]) (μ := μ) f_246_1135).trans (m_congr fun v5 => (e_gI (L := [.ref l0, .ref l1, .ref l2, .int x3]) (st := [.int v5, .int v4, .int v3, .int v2, .int v1, .ref l1]) (μ := μ) (L' := [.ref l0, .ref l1, .ref l2, .int x3]) (st' := []) f_246_1136 rfl rfl).trans (g_congr (v_c2 rfl (Nat.le_of_ble_eq_true rfl)) (fun h7 => m_congr fun p6 => (e_nx f_246_1139 rfl).trans ((e_nx f_246_1140 rfl).trans ((e_nx f_246_1141 rfl).trans ((e_nx (q := (_, _, .int 1 :: _, _)) f_246_1142 rfl).trans ((e_nx f_246_1143 rfl).trans ((e_ia (L := [.ref l0, .ref l1, .ref l2, .int x3]) (r := [.ref l2, .int p6.1]) (μ := p6.2) f_246_1144).trans (m_congr fun v8 => (e_nx f_246_1145 rfl).trans ((e_nx f_246_1146 rfl).trans ((e_nx (q := (_, _, .int 2 :: _, _)) f_246_1147 rfl).trans ((e_nx f_246_1148 rfl).trans ((e_ia (L := [.ref l0, .ref l1, .ref l2, .int x3]) (r := [.int v8, .ref l2, .int p6.1]) (μ := p6.2) f_246_1149).trans (m_congr fun v9 => (e_nx f_246_1150 rfl).trans ((e_nx f_246_1151 rfl).trans ((e_nx (q := (_, _, .int 3 :: _, _)) f_246_1152 rfl).trans ((e_nx f_246_1153 rfl).trans ((e_ia (L := [.ref l0, .ref l1, .ref l2, .int x3]) (r := [.int v9, .int v8, .ref l2, .int p6.1]) (μ := p6.2) f_246_1154).trans (m_congr fun v10 => (e_nx f_246_1155 rfl).trans ((e_nx f_246_1156 rfl).trans ((e_nx (q := (_, _, .int 4 :: _, _)) f_246_1157 rfl).trans ((e_nx f_246_1158 rfl).trans ((e_ia (L := [.ref l0, .ref l1, .ref l2, .int x3]) (r := [.int v10, .int v9, .int v8, .ref l2, .int p6.1]) (μ := p6.2) f_246_1159).trans (m_congr fun v11 => (e_nx f_246_1160 rfl).trans ((e_nx f_246_1161 rfl).trans ((e_nx (q := (_, _, .int 5 :: _, _)) f_246_1162 rfl).trans ((e_nx f_246_1163 rfl).trans ((e_ia (L := [.ref l0, .ref l1, .ref l2, .int x3]) (r := [.int v11, .int v10, .int v9, .int v8, .ref l2, .int p6.1]) (μ := p6.2) f_246_1164).trans (m_congr fun v12 => (e_gI (L := [.ref l0, .ref l1, .ref l2, .int x3]) (st := [.int v12, .int v11, .int v10, .int v9, .int v8, .ref l2, .int p6.1]) (μ := p6.2) (L' := [.ref l0, .ref l1, .ref l2, .int x3]) (st' := [.int p6.1]) f_246_1165 rfl rfl).trans (g_congr (v_c2 rfl (Nat.le_of_ble_eq_true rfl)) (fun h14 => m_congr fun p13 => (e_eq f_246_1168 rfl).trans (b_congr (fun h15 => rfl) (fun h15 => (e_nx (q := (_, _, .int 0 :: _, _)) f_246_1171 rfl).trans (e_rt f_246_1172 rfl)))))))))))))))))))))))))))))))))))))))))))))))))))))))))))
theorem q_246_1173 (d : Nat) (l0 : Nat) (l1 : Nat) (l2 : Nat) (x3 : Int32) (μ : aMem) : Rn (d + 1) 246 (1173, [.ref l0, .ref l1, .ref l2, .int x3], [], μ) = (rdI μ l0 (x3 + 1)).bind fun v1 => (rdI μ l0 (x3 + 2)).bind fun v2 => (rdI μ l0 (x3 + 3)).bind fun v3 => if (mS μ l1).1 = 8 ∧ l1 < 999999 then ((cI d 113 [.ref l1, .int v1, .int v2, .int v3] μ).bind fun p4 => (rdI p4.2 l0 (x3 + 1)).bind fun v6 => (rdI p4.2 l0 (x3 + 2)).bind fun v7 => (rdI p4.2 l0 (x3 + 3)).bind fun v8 => if (mS p4.2 l2).1 = 9 ∧ l2 < 999999 then ((cI d 220 [.ref l2, .int v6, .int v7, .int v8] p4.2).bind fun p9 => if p4.1 = p9.1 then (Rn (d + 1) 246 (1420, [.ref l0, .ref l1, .ref l2, .int x3], [], p9.2)) else (some (some (.int 0), p9.2))) else none) else none :=
  (e_nx f_246_1173 rfl).trans ((e_nx f_246_1174 rfl).trans ((e_nx f_246_1175 rfl).trans ((e_nx (q := (_, _, .int 1 :: _, _)) f_246_1176 rfl).trans ((e_nx f_246_1177 rfl).trans ((e_ia (L := [.ref l0, .ref l1, .ref l2, .int x3]) (r := [.ref l1]) (μ := μ) f_246_1178).trans (m_congr fun v1 => (e_nx f_246_1179 rfl).trans ((e_nx f_246_1180 rfl).trans ((e_nx (q := (_, _, .int 2 :: _, _)) f_246_1181 rfl).trans ((e_nx f_246_1182 rfl).trans ((e_ia (L := [.ref l0, .ref l1, .ref l2, .int x3]) (r := [.int v1, .ref l1]) (μ := μ) f_246_1183).trans (m_congr fun v2 => (e_nx f_246_1184 rfl).trans ((e_nx f_246_1185 rfl).trans ((e_nx (q := (_, _, .int 3 :: _, _)) f_246_1186 rfl).trans ((e_nx f_246_1187 rfl).trans ((e_ia (L := [.ref l0, .ref l1, .ref l2, .int x3]) (r := [.int v2, .int v1, .ref l1]) (μ := μ) f_246_1188).trans (m_congr fun v3 => (e_gI (L := [.ref l0, .ref l1, .ref l2, .int x3]) (st := [.int v3, .int v2, .int v1, .ref l1]) (μ := μ) (L' := [.ref l0, .ref l1, .ref l2, .int x3]) (st' := []) f_246_1189 rfl rfl).trans (g_congr (v_c2 rfl (Nat.le_of_ble_eq_true rfl)) (fun h5 => m_congr fun p4 => (e_nx f_246_1192 rfl).trans ((e_nx f_246_1193 rfl).trans ((e_nx f_246_1194 rfl).trans ((e_nx (q := (_, _, .int 1 :: _, _)) f_246_1195 rfl).trans ((e_nx f_246_1196 rfl).trans ((e_ia (L := [.ref l0, .ref l1, .ref l2, .int x3]) (r := [.ref l2, .int p4.1]) (μ := p4.2) f_246_1197).trans (m_congr fun v6 => (e_nx f_246_1198 rfl).trans ((e_nx f_246_1199 rfl).trans ((e_nx (q := (_, _, .int 2 :: _, _)) f_246_1200 rfl).trans ((e_nx f_246_1201 rfl).trans ((e_ia (L := [.ref l0, .ref l1, .ref l2, .int x3]) (r := [.int v6, .ref l2, .int p4.1]) (μ := p4.2) f_246_1202).trans (m_congr fun v7 => (e_nx f_246_1203 rfl).trans ((e_nx f_246_1204 rfl).trans ((e_nx (q := (_, _, .int 3 :: _, _)) f_246_1205 rfl).trans ((e_nx f_246_1206 rfl).trans ((e_ia (L := [.ref l0, .ref l1, .ref l2, .int x3]) (r := [.int v7, .int v6, .ref l2, .int p4.1]) (μ := p4.2) f_246_1207).trans (m_congr fun v8 => (e_gI (L := [.ref l0, .ref l1, .ref l2, .int x3]) (st := [.int v8, .int v7, .int v6, .ref l2, .int p4.1]) (μ := p4.2) (L' := [.ref l0, .ref l1, .ref l2, .int x3]) (st' := [.int p4.1]) f_246_1208 rfl rfl).trans (g_congr (v_c2 rfl (Nat.le_of_ble_eq_true rfl)) (fun h10 => m_congr fun p9 => (e_eq f_246_1211 rfl).trans (b_congr (fun h11 => rfl) (fun h11 => (e_nx (q := (_, _, .int 0 :: _, _)) f_246_1214 rfl).trans (e_rt f_246_1215 rfl)))))))))))))))))))))))))))))))))))))))
theorem q_246_1216 (d : Nat) (l0 : Nat) (l1 : Nat) (l2 : Nat) (x3 : Int32) (μ : aMem) : Rn (d + 1) 246 (1216, [.ref l0, .ref l1, .ref l2, .int x3], [], μ) = (rdI μ l0 (x3 + 1)).bind fun v1 => (rdI μ l0 (x3 + 2)).bind fun v2 => if (mS μ l1).1 = 8 ∧ l1 < 999999 then ((cI d 114 [.ref l1, .int v1, .int v2] μ).bind fun p3 => (rdI p3.2 l0 (x3 + 1)).bind fun v5 => (rdI p3.2 l0 (x3 + 2)).bind fun v6 => if (mS p3.2 l2).1 = 9 ∧ l2 < 999999 then ((cI d 221 [.ref l2, .int v5, .int v6] p3.2).bind fun p7 => if p3.1 = p7.1 then (Rn (d + 1) 246 (1420, [.ref l0, .ref l1, .ref l2, .int x3], [], p7.2)) else (some (some (.int 0), p7.2))) else none) else none :=
  (e_nx f_246_1216 rfl).trans ((e_nx f_246_1217 rfl).trans ((e_nx f_246_1218 rfl).trans ((e_nx (q := (_, _, .int 1 :: _, _)) f_246_1219 rfl).trans ((e_nx f_246_1220 rfl).trans ((e_ia (L := [.ref l0, .ref l1, .ref l2, .int x3]) (r := [.ref l1]) (μ := μ) f_246_1221).trans (m_congr fun v1 => (e_nx f_246_1222 rfl).trans ((e_nx f_246_1223 rfl).trans ((e_nx (q := (_, _, .int 2 :: _, _)) f_246_1224 rfl).trans ((e_nx f_246_1225 rfl).trans ((e_ia (L := [.ref l0, .ref l1, .ref l2, .int x3]) (r := [.int v1, .ref l1]) (μ := μ) f_246_1226).trans (m_congr fun v2 => (e_gI (L := [.ref l0, .ref l1, .ref l2, .int x3]) (st := [.int v2, .int v1, .ref l1]) (μ := μ) (L' := [.ref l0, .ref l1, .ref l2, .int x3]) (st' := []) f_246_1227 rfl rfl).trans (g_congr (v_c2 rfl (Nat.le_of_ble_eq_true rfl)) (fun h4 => m_congr fun p3 => (e_nx f_246_1230 rfl).trans ((e_nx f_246_1231 rfl).trans ((e_nx f_246_1232 rfl).trans ((e_nx (q := (_, _, .int 1 :: _, _)) f_246_1233 rfl).trans ((e_nx f_246_1234 rfl).trans ((e_ia (L := [.ref l0, .ref l1, .ref l2, .int x3]) (r := [.ref l2, .int p3.1]) (μ := p3.2) f_246_1235).trans (m_congr fun v5 => (e_nx f_246_1236 rfl).trans ((e_nx f_246_1237 rfl).trans ((e_nx (q := (_, _, .int 2 :: _, _)) f_246_1238 rfl).trans ((e_nx f_246_1239 rfl).trans ((e_ia (L := [.ref l0, .ref l1, .ref l2, .int x3]) (r := [.int v5, .ref l2, .int p3.1]) (μ := p3.2) f_246_1240).trans (m_congr fun v6 => (e_gI (L := [.ref l0, .ref l1, .ref l2, .int x3]) (st := [.int v6, .int v5, .ref l2, .int p3.1]) (μ := p3.2) (L' := [.ref l0, .ref l1, .ref l2, .int x3]) (st' := [.int p3.1]) f_246_1241 rfl rfl).trans (g_congr (v_c2 rfl (Nat.le_of_ble_eq_true rfl)) (fun h8 => m_congr fun p7 => (e_eq f_246_1244 rfl).trans (b_congr (fun h9 => rfl) (fun h9 => (e_nx (q := (_, _, .int 0 :: _, _)) f_246_1247 rfl).trans (e_rt f_246_1248 rfl)))))))))))))))))))))))))))))
theorem q_246_1249 (d : Nat) (l0 : Nat) (l1 : Nat) (l2 : Nat) (x3 : Int32) (μ : aMem) : Rn (d + 1) 246 (1249, [.ref l0, .ref l1, .ref l2, .int x3], [], μ) = (rdI μ l0 (x3 + 1)).bind fun v1 => (rdI μ l0 (x3 + 2)).bind fun v2 => if (mS μ l1).1 = 8 ∧ l1 < 999999 then ((cI d 115 [.ref l1, .int v1, .int v2] μ).bind fun p3 => (rdI p3.2 l0 (x3 + 1)).bind fun v5 => (rdI p3.2 l0 (x3 + 2)).bind fun v6 => if (mS p3.2 l2).1 = 9 ∧ l2 < 999999 then ((cI d 222 [.ref l2, .int v5, .int v6] p3.2).bind fun p7 => if p3.1 = p7.1 then (Rn (d + 1) 246 (1420, [.ref l0, .ref l1, .ref l2, .int x3], [], p7.2)) else (some (some (.int 0), p7.2))) else none) else none :=
  (e_nx f_246_1249 rfl).trans ((e_nx f_246_1250 rfl).trans ((e_nx f_246_1251 rfl).trans ((e_nx (q := (_, _, .int 1 :: _, _)) f_246_1252 rfl).trans ((e_nx f_246_1253 rfl).trans ((e_ia (L := [.ref l0, .ref l1, .ref l2, .int x3]) (r := [.ref l1]) (μ := μ) f_246_1254).trans (m_congr fun v1 => (e_nx f_246_1255 rfl).trans ((e_nx f_246_1256 rfl).trans ((e_nx (q := (_, _, .int 2 :: _, _)) f_246_1257 rfl).trans ((e_nx f_246_1258 rfl).trans ((e_ia (L := [.ref l0, .ref l1, .ref l2, .int x3]) (r := [.int v1, .ref l1]) (μ := μ) f_246_1259).trans (m_congr fun v2 => (e_gI (L := [.ref l0, .ref l1, .ref l2, .int x3]) (st := [.int v2, .int v1, .ref l1]) (μ := μ) (L' := [.ref l0, .ref l1, .ref l2, .int x3]) (st' := []) f_246_1260 rfl rfl).trans (g_congr (v_c2 rfl (Nat.le_of_ble_eq_true rfl)) (fun h4 => m_congr fun p3 => (e_nx f_246_1263 rfl).trans ((e_nx f_246_1264 rfl).trans ((e_nx f_246_1265 rfl).trans ((e_nx (q := (_, _, .int 1 :: _, _)) f_246_1266 rfl).trans ((e_nx f_246_1267 rfl).trans ((e_ia (L := [.ref l0, .ref l1, .ref l2, .int x3]) (r := [.ref l2, .int p3.1]) (μ := p3.2) f_246_1268).trans (m_congr fun v5 => (e_nx f_246_1269 rfl).trans ((e_nx f_246_1270 rfl).trans ((e_nx (q := (_, _, .int 2 :: _, _)) f_246_1271 rfl).trans ((e_nx f_246_1272 rfl).trans ((e_ia (L := [.ref l0, .ref l1, .ref l2, .int x3]) (r := [.int v5, .ref l2, .int p3.1]) (μ := p3.2) f_246_1273).trans (m_congr fun v6 => (e_gI (L := [.ref l0, .ref l1, .ref l2, .int x3]) (st := [.int v6, .int v5, .ref l2, .int p3.1]) (μ := p3.2) (L' := [.ref l0, .ref l1, .ref l2, .int x3]) (st' := [.int p3.1]) f_246_1274 rfl rfl).trans (g_congr (v_c2 rfl (Nat.le_of_ble_eq_true rfl)) (fun h8 => m_congr fun p7 => (e_eq f_246_1277 rfl).trans (b_congr (fun h9 => rfl) (fun h9 => (e_nx (q := (_, _, .int 0 :: _, _)) f_246_1280 rfl).trans (e_rt f_246_1281 rfl)))))))))))))))))))))))))))))
theorem q_246_1282 (d : Nat) (l0 : Nat) (l1 : Nat) (l2 : Nat) (x3 : Int32) (μ : aMem) : Rn (d + 1) 246 (1282, [.ref l0, .ref l1, .ref l2, .int x3], [], μ) = (rdI μ l0 (x3 + 1)).bind fun v1 => (rdI μ l0 (x3 + 2)).bind fun v2 => if (mS μ l1).1 = 8 ∧ l1 < 999999 then ((cI d 116 [.ref l1, .int v1, .int v2] μ).bind fun p3 => (rdI p3.2 l0 (x3 + 1)).bind fun v5 => (rdI p3.2 l0 (x3 + 2)).bind fun v6 => if (mS p3.2 l2).1 = 9 ∧ l2 < 999999 then ((cI d 223 [.ref l2, .int v5, .int v6] p3.2).bind fun p7 => if p3.1 = p7.1 then (Rn (d + 1) 246 (1420, [.ref l0, .ref l1, .ref l2, .int x3], [], p7.2)) else (some (some (.int 0), p7.2))) else none) else none :=
  (e_nx f_246_1282 rfl).trans ((e_nx f_246_1283 rfl).trans ((e_nx f_246_1284 rfl).trans ((e_nx (q := (_, _, .int 1 :: _, _)) f_246_1285 rfl).trans ((e_nx f_246_1286 rfl).trans ((e_ia (L := [.ref l0, .ref l1, .ref l2, .int x3]) (r := [.ref l1]) (μ := μ) f_246_1287).trans (m_congr fun v1 => (e_nx f_246_1288 rfl).trans ((e_nx f_246_1289 rfl).trans ((e_nx (q := (_, _, .int 2 :: _, _)) f_246_1290 rfl).trans ((e_nx f_246_1291 rfl).trans ((e_ia (L := [.ref l0, .ref l1, .ref l2, .int x3]) (r := [.int v1, .ref l1]) (μ := μ) f_246_1292).trans (m_congr fun v2 => (e_gI (L := [.ref l0, .ref l1, .ref l2, .int x3]) (st := [.int v2, .int v1, .ref l1]) (μ := μ) (L' := [.ref l0, .ref l1, .ref l2, .int x3]) (st' := []) f_246_1293 rfl rfl).trans (g_congr (v_c2 rfl (Nat.le_of_ble_eq_true rfl)) (fun h4 => m_congr fun p3 => (e_nx f_246_1296 rfl).trans ((e_nx f_246_1297 rfl).trans ((e_nx f_246_1298 rfl).trans ((e_nx (q := (_, _, .int 1 :: _, _)) f_246_1299 rfl).trans ((e_nx f_246_1300 rfl).trans ((e_ia (L := [.ref l0, .ref l1, .ref l2, .int x3]) (r := [.ref l2, .int p3.1]) (μ := p3.2) f_246_1301).trans (m_congr fun v5 => (e_nx f_246_1302 rfl).trans ((e_nx f_246_1303 rfl).trans ((e_nx (q := (_, _, .int 2 :: _, _)) f_246_1304 rfl).trans ((e_nx f_246_1305 rfl).trans ((e_ia (L := [.ref l0, .ref l1, .ref l2, .int x3]) (r := [.int v5, .ref l2, .int p3.1]) (μ := p3.2) f_246_1306).trans (m_congr fun v6 => (e_gI (L := [.ref l0, .ref l1, .ref l2, .int x3]) (st := [.int v6, .int v5, .ref l2, .int p3.1]) (μ := p3.2) (L' := [.ref l0, .ref l1, .ref l2, .int x3]) (st' := [.int p3.1]) f_246_1307 rfl rfl).trans (g_congr (v_c2 rfl (Nat.le_of_ble_eq_true rfl)) (fun h8 => m_congr fun p7 => (e_eq f_246_1310 rfl).trans (b_congr (fun h9 => rfl) (fun h9 => (e_nx (q := (_, _, .int 0 :: _, _)) f_246_1313 rfl).trans (e_rt f_246_1314 rfl)))))))))))))))))))))))))))))
theorem q_246_1315 (d : Nat) (l0 : Nat) (l1 : Nat) (l2 : Nat) (x3 : Int32) (μ : aMem) : Rn (d + 1) 246 (1315, [.ref l0, .ref l1, .ref l2, .int x3], [], μ) = (rdI μ l0 (x3 + 1)).bind fun v1 => if (mS μ l1).1 = 8 ∧ l1 < 999999 then ((cI d 117 [.ref l1, .int v1] μ).bind fun p2 => (rdI p2.2 l0 (x3 + 1)).bind fun v4 => if (mS p2.2 l2).1 = 9 ∧ l2 < 999999 then ((cI d 224 [.ref l2, .int v4] p2.2).bind fun p5 => if p2.1 = p5.1 then (Rn (d + 1) 246 (1420, [.ref l0, .ref l1, .ref l2, .int x3], [], p5.2)) else (some (some (.int 0), p5.2))) else none) else none :=
  (e_nx f_246_1315 rfl).trans ((e_nx f_246_1316 rfl).trans ((e_nx f_246_1317 rfl).trans ((e_nx (q := (_, _, .int 1 :: _, _)) f_246_1318 rfl).trans ((e_nx f_246_1319 rfl).trans ((e_ia (L := [.ref l0, .ref l1, .ref l2, .int x3]) (r := [.ref l1]) (μ := μ) f_246_1320).trans (m_congr fun v1 => (e_gI (L := [.ref l0, .ref l1, .ref l2, .int x3]) (st := [.int v1, .ref l1]) (μ := μ) (L' := [.ref l0, .ref l1, .ref l2, .int x3]) (st' := []) f_246_1321 rfl rfl).trans (g_congr (v_c2 rfl (Nat.le_of_ble_eq_true rfl)) (fun h3 => m_congr fun p2 => (e_nx f_246_1324 rfl).trans ((e_nx f_246_1325 rfl).trans ((e_nx f_246_1326 rfl).trans ((e_nx (q := (_, _, .int 1 :: _, _)) f_246_1327 rfl).trans ((e_nx f_246_1328 rfl).trans ((e_ia (L := [.ref l0, .ref l1, .ref l2, .int x3]) (r := [.ref l2, .int p2.1]) (μ := p2.2) f_246_1329).trans (m_congr fun v4 => (e_gI (L := [.ref l0, .ref l1, .ref l2, .int x3]) (st := [.int v4, .ref l2, .int p2.1]) (μ := p2.2) (L' := [.ref l0, .ref l1, .ref l2, .int x3]) (st' := [.int p2.1]) f_246_1330 rfl rfl).trans (g_congr (v_c2 rfl (Nat.le_of_ble_eq_true rfl)) (fun h6 => m_congr fun p5 => (e_eq f_246_1333 rfl).trans (b_congr (fun h7 => rfl) (fun h7 => (e_nx (q := (_, _, .int 0 :: _, _)) f_246_1336 rfl).trans (e_rt f_246_1337 rfl)))))))))))))))))))
theorem q_246_1338 (d : Nat) (l0 : Nat) (l1 : Nat) (l2 : Nat) (x3 : Int32) (μ : aMem) : Rn (d + 1) 246 (1338, [.ref l0, .ref l1, .ref l2, .int x3], [], μ) = (rdI μ l0 (x3 + 1)).bind fun v1 => (rdI μ l0 (x3 + 2)).bind fun v2 => if (mS μ l1).1 = 8 ∧ l1 < 999999 then ((cI d 118 [.ref l1, .int v1, .int v2] μ).bind fun p3 => (rdI p3.2 l0 (x3 + 1)).bind fun v5 => (rdI p3.2 l0 (x3 + 2)).bind fun v6 => if (mS p3.2 l2).1 = 9 ∧ l2 < 999999 then ((cI d 226 [.ref l2, .int v5, .int v6] p3.2).bind fun p7 => if p3.1 = p7.1 then (Rn (d + 1) 246 (1420, [.ref l0, .ref l1, .ref l2, .int x3], [], p7.2)) else (some (some (.int 0), p7.2))) else none) else none :=
  (e_nx f_246_1338 rfl).trans ((e_nx f_246_1339 rfl).trans ((e_nx f_246_1340 rfl).trans ((e_nx (q := (_, _, .int 1 :: _, _)) f_246_1341 rfl).trans ((e_nx f_246_1342 rfl).trans ((e_ia (L := [.ref l0, .ref l1, .ref l2, .int x3]) (r := [.ref l1]) (μ := μ) f_246_1343).trans (m_congr fun v1 => (e_nx f_246_1344 rfl).trans ((e_nx f_246_1345 rfl).trans ((e_nx (q := (_, _, .int 2 :: _, _)) f_246_1346 rfl).trans ((e_nx f_246_1347 rfl).trans ((e_ia (L := [.ref l0, .ref l1, .ref l2, .int x3]) (r := [.int v1, .ref l1]) (μ := μ) f_246_1348).trans (m_congr fun v2 => (e_gI (L := [.ref l0, .ref l1, .ref l2, .int x3]) (st := [.int v2, .int v1, .ref l1]) (μ := μ) (L' := [.ref l0, .ref l1, .ref l2, .int x3]) (st' := []) f_246_1349 rfl rfl).trans (g_congr (v_c2 rfl (Nat.le_of_ble_eq_true rfl)) (fun h4 => m_congr fun p3 => (e_nx f_246_1352 rfl).trans ((e_nx f_246_1353 rfl).trans ((e_nx f_246_1354 rfl).trans ((e_nx (q := (_, _, .int 1 :: _, _)) f_246_1355 rfl).trans ((e_nx f_246_1356 rfl).trans ((e_ia (L := [.ref l0, .ref l1, .ref l2, .int x3]) (r := [.ref l2, .int p3.1]) (μ := p3.2) f_246_1357).trans (m_congr fun v5 => (e_nx f_246_1358 rfl).trans ((e_nx f_246_1359 rfl).trans ((e_nx (q := (_, _, .int 2 :: _, _)) f_246_1360 rfl).trans ((e_nx f_246_1361 rfl).trans ((e_ia (L := [.ref l0, .ref l1, .ref l2, .int x3]) (r := [.int v5, .ref l2, .int p3.1]) (μ := p3.2) f_246_1362).trans (m_congr fun v6 => (e_gI (L := [.ref l0, .ref l1, .ref l2, .int x3]) (st := [.int v6, .int v5, .ref l2, .int p3.1]) (μ := p3.2) (L' := [.ref l0, .ref l1, .ref l2, .int x3]) (st' := [.int p3.1]) f_246_1363 rfl rfl).trans (g_congr (v_c2 rfl (Nat.le_of_ble_eq_true rfl)) (fun h8 => m_congr fun p7 => (e_eq f_246_1366 rfl).trans (b_congr (fun h9 => rfl) (fun h9 => (e_nx (q := (_, _, .int 0 :: _, _)) f_246_1369 rfl).trans (e_rt f_246_1370 rfl)))))))))))))))))))))))))))))
theorem q_246_1371 (d : Nat) (l0 : Nat) (l1 : Nat) (l2 : Nat) (x3 : Int32) (μ : aMem) : Rn (d + 1) 246 (1371, [.ref l0, .ref l1, .ref l2, .int x3], [], μ) = if (mS μ l1).1 = 8 ∧ l1 < 999999 then ((cI d 119 [.ref l1] μ).bind fun p1 => if (mS p1.2 l2).1 = 9 ∧ l2 < 999999 then ((cI d 227 [.ref l2] p1.2).bind fun p3 => if p1.1 = p3.1 then (Rn (d + 1) 246 (1420, [.ref l0, .ref l1, .ref l2, .int x3], [], p3.2)) else (some (some (.int 0), p3.2))) else none) else none :=
  (e_nx f_246_1371 rfl).trans ((e_gI (L := [.ref l0, .ref l1, .ref l2, .int x3]) (st := [.ref l1]) (μ := μ) (L' := [.ref l0, .ref l1, .ref l2, .int x3]) (st' := []) f_246_1372 rfl rfl).trans (g_congr (v_c2 rfl (Nat.le_of_ble_eq_true rfl)) (fun h2 => m_congr fun p1 => (e_nx f_246_1375 rfl).trans ((e_gI (L := [.ref l0, .ref l1, .ref l2, .int x3]) (st := [.ref l2, .int p1.1]) (μ := p1.2) (L' := [.ref l0, .ref l1, .ref l2, .int x3]) (st' := [.int p1.1]) f_246_1376 rfl rfl).trans (g_congr (v_c2 rfl (Nat.le_of_ble_eq_true rfl)) (fun h4 => m_congr fun p3 => (e_eq f_246_1379 rfl).trans (b_congr (fun h5 => rfl) (fun h5 => (e_nx (q := (_, _, .int 0 :: _, _)) f_246_1382 rfl).trans (e_rt f_246_1383 rfl)))))))))
theorem q_246_1384 (d : Nat) (l0 : Nat) (l1 : Nat) (l2 : Nat) (x3 : Int32) (μ : aMem) : Rn (d + 1) 246 (1384, [.ref l0, .ref l1, .ref l2, .int x3], [], μ) = if (mS μ l1).1 = 8 ∧ l1 < 999999 then ((cI d 120 [.ref l1] μ).bind fun p1 => if (mS p1.2 l2).1 = 9 ∧ l2 < 999999 then ((cI d 228 [.ref l2] p1.2).bind fun p3 => if p1.1 = p3.1 then (Rn (d + 1) 246 (1420, [.ref l0, .ref l1, .ref l2, .int x3], [], p3.2)) else (some (some (.int 0), p3.2))) else none) else none :=
  (e_nx f_246_1384 rfl).trans ((e_gI (L := [.ref l0, .ref l1, .ref l2, .int x3]) (st := [.ref l1]) (μ := μ) (L' := [.ref l0, .ref l1, .ref l2, .int x3]) (st' := []) f_246_1385 rfl rfl).trans (g_congr (v_c2 rfl (Nat.le_of_ble_eq_true rfl)) (fun h2 => m_congr fun p1 => (e_nx f_246_1388 rfl).trans ((e_gI (L := [.ref l0, .ref l1, .ref l2, .int x3]) (st := [.ref l2, .int p1.1]) (μ := p1.2) (L' := [.ref l0, .ref l1, .ref l2, .int x3]) (st' := [.int p1.1]) f_246_1389 rfl rfl).trans (g_congr (v_c2 rfl (Nat.le_of_ble_eq_true rfl)) (fun h4 => m_congr fun p3 => (e_eq f_246_1392 rfl).trans (b_congr (fun h5 => rfl) (fun h5 => (e_nx (q := (_, _, .int 0 :: _, _)) f_246_1395 rfl).trans (e_rt f_246_1396 rfl)))))))))
theorem q_246_1397 (d : Nat) (l0 : Nat) (l1 : Nat) (l2 : Nat) (x3 : Int32) (μ : aMem) : Rn (d + 1) 246 (1397, [.ref l0, .ref l1, .ref l2, .int x3], [], μ) = (rdI μ l0 (x3 + 1)).bind fun v1 => if (mS μ l1).1 = 8 ∧ l1 < 999999 then ((cI d 121 [.ref l1, .int v1] μ).bind fun p2 => (rdI p2.2 l0 (x3 + 1)).bind fun v4 => if (mS p2.2 l2).1 = 9 ∧ l2 < 999999 then ((cI d 229 [.ref l2, .int v4] p2.2).bind fun p5 => if p2.1 = p5.1 then (Rn (d + 1) 246 (1420, [.ref l0, .ref l1, .ref l2, .int x3], [], p5.2)) else (some (some (.int 0), p5.2))) else none) else none :=
  (e_nx f_246_1397 rfl).trans ((e_nx f_246_1398 rfl).trans ((e_nx f_246_1399 rfl).trans ((e_nx (q := (_, _, .int 1 :: _, _)) f_246_1400 rfl).trans ((e_nx f_246_1401 rfl).trans ((e_ia (L := [.ref l0, .ref l1, .ref l2, .int x3]) (r := [.ref l1]) (μ := μ) f_246_1402).trans (m_congr fun v1 => (e_gI (L := [.ref l0, .ref l1, .ref l2, .int x3]) (st := [.int v1, .ref l1]) (μ := μ) (L' := [.ref l0, .ref l1, .ref l2, .int x3]) (st' := []) f_246_1403 rfl rfl).trans (g_congr (v_c2 rfl (Nat.le_of_ble_eq_true rfl)) (fun h3 => m_congr fun p2 => (e_nx f_246_1406 rfl).trans ((e_nx f_246_1407 rfl).trans ((e_nx f_246_1408 rfl).trans ((e_nx (q := (_, _, .int 1 :: _, _)) f_246_1409 rfl).trans ((e_nx f_246_1410 rfl).trans ((e_ia (L := [.ref l0, .ref l1, .ref l2, .int x3]) (r := [.ref l2, .int p2.1]) (μ := p2.2) f_246_1411).trans (m_congr fun v4 => (e_gI (L := [.ref l0, .ref l1, .ref l2, .int x3]) (st := [.int v4, .ref l2, .int p2.1]) (μ := p2.2) (L' := [.ref l0, .ref l1, .ref l2, .int x3]) (st' := [.int p2.1]) f_246_1412 rfl rfl).trans (g_congr (v_c2 rfl (Nat.le_of_ble_eq_true rfl)) (fun h6 => m_congr fun p5 => (e_eq f_246_1415 rfl).trans (b_congr (fun h7 => rfl) (fun h7 => (e_nx (q := (_, _, .int 0 :: _, _)) f_246_1418 rfl).trans (e_rt f_246_1419 rfl)))))))))))))))))))
theorem q_246_1420 (d : Nat) (l0 : Nat) (l1 : Nat) (l2 : Nat) (x3 : Int32) (μ : aMem) : Rn (d + 1) 246 (1420, [.ref l0, .ref l1, .ref l2, .int x3], [], μ) = Rn (d + 1) 246 (18, [.ref l0, .ref l1, .ref l2, .int (x3 + 6)], [], μ) :=
  (e_nx (q := (_, [.ref l0, .ref l1, .ref l2, .int (x3 + 6)], _, _)) f_246_1420 rfl).trans (e_nx f_246_1423 rfl)
