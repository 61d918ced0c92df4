theorem pg_184 (pc : Nat) : fe0 184 pc = lk prg_184 pc := rfl
theorem f_184_0 : fe0 184 0 = some (.aload_n 0, 1, 0, 0, 0, 0, 0) := (pg_184 0).trans rfl
theorem f_184_1 : fe0 184 1 = some (.invokevirtual 131, 3, 152, 0, 0, 9, 5222) := (pg_184 1).trans rfl
theorem f_184_4 : fe0 184 4 = some (.iconst 0, 1, 0, 0, 0, 0, 0) := (pg_184 4).trans rfl
theorem f_184_5 : fe0 184 5 = some (.istore_n 1, 1, 0, 0, 0, 0, 0) := (pg_184 5).trans rfl
theorem f_184_6 : fe0 184 6 = some (.iload_n 1, 1, 0, 0, 0, 0, 0) := (pg_184 6).trans rfl
theorem f_184_7 : fe0 184 7 = some (.sipush 4000, 3, 0, 0, 0, 0, 0) := (pg_184 7).trans rfl
theorem f_184_10 : fe0 184 10 = some (.if_icmp .ge 16, 3, 0, 0, 0, 0, 0) := (pg_184 10).trans rfl
theorem f_184_13 : fe0 184 13 = some (.aload_n 0, 1, 0, 0, 0, 0, 0) := (pg_184 13).trans rfl
theorem f_184_14 : fe0 184 14 = some (.getfield 58, 3, 9, 17, 1, 0, 5041) := (pg_184 14).trans rfl
theorem f_184_17 : fe0 184 17 = some (.iload_n 1, 1, 0, 0, 0, 0, 0) := (pg_184 17).trans rfl
theorem f_184_18 : fe0 184 18 = some (.lconst 0, 1, 0, 0, 0, 0, 0) := (pg_184 18).trans rfl
theorem f_184_19 : fe0 184 19 = some (.lastore, 1, 0, 0, 0, 0, 0) := (pg_184 19).trans rfl
theorem f_184_20 : fe0 184 20 = some (.iinc 1 1, 3, 0, 0, 0, 0, 0) := (pg_184 20).trans rfl
theorem f_184_23 : fe0 184 23 = some (.goto (-17), 3, 0, 0, 0, 0, 0) := (pg_184 23).trans rfl
theorem f_184_26 : fe0 184 26 = some (.iconst 0, 1, 0, 0, 0, 0, 0) := (pg_184 26).trans rfl
theorem f_184_27 : fe0 184 27 = some (.istore_n 1, 1, 0, 0, 0, 0, 0) := (pg_184 27).trans rfl
theorem f_184_28 : fe0 184 28 = some (.iconst 0, 1, 0, 0, 0, 0, 0) := (pg_184 28).trans rfl
theorem f_184_29 : fe0 184 29 = some (.istore_n 2, 1, 0, 0, 0, 0, 0) := (pg_184 29).trans rfl
theorem f_184_30 : fe0 184 30 = some (.iload_n 2, 1, 0, 0, 0, 0, 0) := (pg_184 30).trans rfl
theorem f_184_31 : fe0 184 31 = some (.iconst 1, 1, 0, 0, 0, 0, 0) := (pg_184 31).trans rfl
theorem f_184_32 : fe0 184 32 = some (.aload_n 0, 1, 0, 0, 0, 0, 0) := (pg_184 32).trans rfl
theorem f_184_33 : fe0 184 33 = some (.getfield 7, 3, 9, 0, 1, 0, 5024) := (pg_184 33).trans rfl
theorem f_184_36 : fe0 184 36 = some (.iconst 0, 1, 0, 0, 0, 0, 0) := (pg_184 36).trans rfl
theorem f_184_37 : fe0 184 37 = some (.iaload, 1, 0, 0, 0, 0, 0) := (pg_184 37).trans rfl
theorem f_184_38 : fe0 184 38 = some (.ishl, 1, 0, 0, 0, 0, 0) := (pg_184 38).trans rfl
theorem f_184_39 : fe0 184 39 = some (.if_icmp .ge 50, 3, 0, 0, 0, 0, 0) := (pg_184 39).trans rfl
theorem f_184_42 : fe0 184 42 = some (.aload_n 0, 1, 0, 0, 0, 0, 0) := (pg_184 42).trans rfl
theorem f_184_43 : fe0 184 43 = some (.iload_n 2, 1, 0, 0, 0, 0, 0) := (pg_184 43).trans rfl
theorem f_184_44 : fe0 184 44 = some (.invokevirtual 199, 3, 179, 1, 0, 9, 6098) := (pg_184 44).trans rfl
theorem f_184_47 : fe0 184 47 = some (.lstore_n 3, 1, 0, 0, 0, 0, 0) := (pg_184 47).trans rfl
theorem f_184_48 : fe0 184 48 = some (.lload_n 3, 1, 0, 0, 0, 0, 0) := (pg_184 48).trans rfl
theorem f_184_49 : fe0 184 49 = some (.lconst 0, 1, 0, 0, 0, 0, 0) := (pg_184 49).trans rfl
theorem f_184_50 : fe0 184 50 = some (.lcmp, 1, 0, 0, 0, 0, 0) := (pg_184 50).trans rfl
theorem f_184_51 : fe0 184 51 = some (.ifCond .le 32, 3, 0, 0, 0, 0, 0) := (pg_184 51).trans rfl
theorem f_184_54 : fe0 184 54 = some (.aload_n 0, 1, 0, 0, 0, 0, 0) := (pg_184 54).trans rfl
theorem f_184_55 : fe0 184 55 = some (.iload_n 2, 1, 0, 0, 0, 0, 0) := (pg_184 55).trans rfl
theorem f_184_56 : fe0 184 56 = some (.invokevirtual 203, 3, 178, 1, 0, 9, 6102) := (pg_184 56).trans rfl
theorem f_184_59 : fe0 184 59 = some (.aload_n 0, 1, 0, 0, 0, 0, 0) := (pg_184 59).trans rfl
theorem f_184_60 : fe0 184 60 = some (.invokevirtual 143, 3, 154, 0, 0, 9, 5226) := (pg_184 60).trans rfl
theorem f_184_63 : fe0 184 63 = some (.istore 5, 2, 0, 0, 0, 0, 0) := (pg_184 63).trans rfl
theorem f_184_65 : fe0 184 65 = some (.aload_n 0, 1, 0, 0, 0, 0, 0) := (pg_184 65).trans rfl
theorem f_184_66 : fe0 184 66 = some (.getfield 58, 3, 9, 17, 1, 0, 5041) := (pg_184 66).trans rfl
theorem f_184_69 : fe0 184 69 = some (.iload 5, 2, 0, 0, 0, 0, 0) := (pg_184 69).trans rfl
theorem f_184_71 : fe0 184 71 = some (.dup2, 1, 0, 0, 0, 0, 0) := (pg_184 71).trans rfl
theorem f_184_72 : fe0 184 72 = some (.laload, 1, 0, 0, 0, 0, 0) := (pg_184 72).trans rfl
theorem f_184_73 : fe0 184 73 = some (.lload_n 3, 1, 0, 0, 0, 0, 0) := (pg_184 73).trans rfl
theorem f_184_74 : fe0 184 74 = some (.ladd, 1, 0, 0, 0, 0, 0) := (pg_184 74).trans rfl
theorem f_184_75 : fe0 184 75 = some (.lastore, 1, 0, 0, 0, 0, 0) := (pg_184 75).trans rfl
theorem f_184_76 : fe0 184 76 = some (.iload_n 1, 1, 0, 0, 0, 0, 0) := (pg_184 76).trans rfl
theorem f_184_77 : fe0 184 77 = some (.iload 5, 2, 0, 0, 0, 0, 0) := (pg_184 77).trans rfl
theorem f_184_79 : fe0 184 79 = some (.invokestatic 137, 3, 136, 2, 2, 0, 5230) := (pg_184 79).trans rfl
theorem f_184_82 : fe0 184 82 = some (.istore_n 1, 1, 0, 0, 0, 0, 0) := (pg_184 82).trans rfl
theorem f_184_83 : fe0 184 83 = some (.iinc 2 1, 3, 0, 0, 0, 0, 0) := (pg_184 83).trans rfl
theorem f_184_86 : fe0 184 86 = some (.goto (-56), 3, 0, 0, 0, 0, 0) := (pg_184 86).trans rfl
theorem f_184_89 : fe0 184 89 = some (.iload_n 1, 1, 0, 0, 0, 0, 0) := (pg_184 89).trans rfl
theorem f_184_90 : fe0 184 90 = some (.ireturn, 1, 0, 0, 0, 0, 0) := (pg_184 90).trans rfl
theorem q_184_0 (d : Nat) (l0 : Nat) (μ : aMem) : Rn (d + 1) 184 (0, [.ref l0, un, un, un, un, un], [], μ) = if (mS μ l0).1 = 9 ∧ l0 < 999999 then ((cV d 152 [.ref l0] μ).bind fun p1 => Rn (d + 1) 184 (6, [.ref l0, .int 0, un, un, un, un], [], p1)) else none :=
  (e_nx f_184_0 rfl).trans ((e_gV (L := [.ref l0, un, un, un, un, un]) (st := [.ref l0]) (μ := μ) (L' := [.ref l0, un, un, un, un, un]) (st' := []) f_184_1 rfl rfl).trans (g_congr (v_c2 rfl (Nat.le_of_ble_eq_true rfl)) (fun h2 => m_congr fun p1 => (e_nx (q := (_, _, .int 0 :: _, _)) f_184_4 rfl).trans (e_nx (q := (_, [.ref l0, .int 0, un, un, un, un], _, _)) f_184_5 rfl))))
theorem q_184_6 (d : Nat) (l0 : Nat) (x1 : Int32) (w2 : Value) (w3 : Value) (w4 : Value) (w5 : Value) (μ : aMem) : Rn (d + 1) 184 (6, [.ref l0, .int x1, w2, w3, w4, w5], [], μ) = if 4000 ≤ x1 then (Rn (d + 1) 184 (30, [.ref l0, .int 0, .int 0, w3, w4, w5], [], μ)) else (if (mS μ l0).1 = 9 then (if (mS μ (mR μ l0 17)).1 = 11 ∧ inb x1 (mS μ (mR μ l0 17)).2 then (Rn (d + 1) 184 (6, [.ref l0, .int (x1 + 1), w2, w3, w4, w5], [], setJ μ (mR μ l0 17) (ix x1) 0)) else none) else none) :=
  (e_nx f_184_6 rfl).trans ((e_nx (q := (_, _, .int 4000 :: _, _)) f_184_7 rfl).trans ((e_ge f_184_10 rfl).trans (b_congr (fun h1 => (e_nx (q := (_, _, .int 0 :: _, _)) f_184_26 rfl).trans ((e_nx (q := (_, [.ref l0, .int 0, w2, w3, w4, w5], _, _)) f_184_27 rfl).trans ((e_nx (q := (_, _, .int 0 :: _, _)) f_184_28 rfl).trans (e_nx (q := (_, [.ref l0, .int 0, .int 0, w3, w4, w5], _, _)) f_184_29 rfl)))) (fun h1 => (e_nx f_184_13 rfl).trans ((e_gd f_184_14 rfl).trans (g_congr (Iff.rfl) (fun h2 => (e_nx f_184_17 rfl).trans ((e_nx (q := (_, _, .long 0 :: _, _)) f_184_18 rfl).trans ((e_gd f_184_19 rfl).trans (g_congr (Iff.rfl) (fun h3 => (e_nx (q := (_, [.ref l0, .int (x1 + 1), w2, w3, w4, w5], _, _)) f_184_20 rfl).trans (e_nx f_184_23 rfl))))))))))))
theorem q_184_30 (d : Nat) (l0 : Nat) (x1 : Int32) (x2 : Int32) (w3 : Value) (w4 : Value) (w5 : Value) (μ : aMem) : Rn (d + 1) 184 (30, [.ref l0, .int x1, .int x2, w3, w4, w5], [], μ) = if (mS μ l0).1 = 9 then ((rdI μ (mR μ l0 0) 0).bind fun v2 => if (1 <<< (v2 &&& 31)) ≤ x2 then (some (some (.int x1), μ)) else (if (mS μ l0).1 = 9 ∧ l0 < 999999 then ((cJ d 179 [.ref l0, .int x2] μ).bind fun p4 => if (lg_cmp p4.1 0) ≤ 0 then (Rn (d + 1) 184 (30, [.ref l0, .int x1, .int (x2 + 1), .long p4.1, un, w5], [], p4.2)) else (if (mS p4.2 l0).1 = 9 ∧ l0 < 999999 then ((cV d 178 [.ref l0, .int x2] p4.2).bind fun p7 => if (mS p7 l0).1 = 9 ∧ l0 < 999999 then ((cI d 154 [.ref l0] p7).bind fun p9 => if (mS p9.2 l0).1 = 9 then (if (mS p9.2 (mR p9.2 l0 17)).1 = 11 ∧ inb p9.1 (mS p9.2 (mR p9.2 l0 17)).2 then ((cI d 136 [.int x1, .int p9.1] (setJ p9.2 (mR p9.2 l0 17) (ix p9.1) ((mJ p9.2 (mR p9.2 l0 17) (ix p9.1)) + p4.1))).bind fun p13 => Rn (d + 1) 184 (30, [.ref l0, .int p13.1, .int (x2 + 1), .long p4.1, un, .int p9.1], [], p13.2)) else none) else none) else none) else none)) else none)) else none :=
  (e_nx f_184_30 rfl).trans ((e_nx (q := (_, _, .int 1 :: _, _)) f_184_31 rfl).trans ((e_nx f_184_32 rfl).trans ((e_gd f_184_33 rfl).trans (g_congr (Iff.rfl) (fun h1 => (e_nx (q := (_, _, .int 0 :: _, _)) f_184_36 rfl).trans ((e_ia (L := [.ref l0, .int x1, .int x2, w3, w4, w5]) (r := [.int 1, .int x2]) (μ := μ) f_184_37).trans (m_congr fun v2 => (e_nx f_184_38 rfl).trans ((e_ge f_184_39 rfl).trans (b_congr (fun h3 => (e_nx f_184_89 rfl).trans (e_rt f_184_90 rfl)) (fun h3 => (e_nx f_184_42 rfl).trans ((e_nx f_184_43 rfl).trans ((e_gJ (L := [.ref l0, .int x1, .int x2, w3, w4, w5]) (st := [.int x2, .ref l0]) (μ := μ) (L' := [.ref l0, .int x1, .int x2, w3, w4, w5]) (st' := []) f_184_44 rfl rfl).trans (g_congr (v_c2 rfl (Nat.le_of_ble_eq_true rfl)) (fun h5 => m_congr fun p4 => (e_nx (q := (_, [.ref l0, .int x1, .int x2, .long p4.1, un, w5], _, _)) f_184_47 rfl).trans ((e_nx f_184_48 rfl).trans ((e_nx (q := (_, _, .long 0 :: _, _)) f_184_49 rfl).trans ((e_nx f_184_50 rfl).trans ((e_le f_184_51 rfl).trans (b_congr (fun h6 => (e_nx (q := (_, [.ref l0, .int x1, .int (x2 + 1), .long p4.1, un, w5], _, _)) f_184_83 rfl).trans (e_nx f_184_86 rfl)) (fun h6 => (e_nx f_184_54 rfl).trans ((e_nx f_184_55 rfl).trans ((e_gV (L := [.ref l0, .int x1, .int x2, .long p4.1, un, w5]) (st := [.int x2, .ref l0]) (μ := p4.2) (L' := [.ref l0, .int x1, .int x2, .long p4.1, un, w5]) (st' := []) f_184_56 rfl rfl).trans (g_congr (v_c2 rfl (Nat.le_of_ble_eq_true rfl)) (fun h8 => m_congr fun p7 => (e_nx f_184_59 rfl).trans ((e_gI (L := [.ref l0, .int x1, .int x2, .long p4.1, un, w5]) (st := [.ref l0]) (μ := p7) (L' := [.ref l0, .int x1, .int x2, .long p4.1, un, w5]) (st' := []) f_184_60 rfl rfl).trans (g_congr (v_c2 rfl (Nat.le_of_ble_eq_true rfl)) (fun h10 => m_congr fun p9 => (e_nx (q := (_, [.ref l0, .int x1, .int x2, .long p4.1, un, .int p9.1], _, _)) f_184_63 rfl).trans ((e_nx f_184_65 rfl).trans ((e_gd f_184_66 rfl).trans (g_congr (Iff.rfl) (fun h11 => (e_nx f_184_69 rfl).trans ((e_nx f_184_71 rfl).trans ((e_gd f_184_72 rfl).trans (g_congr (Iff.rfl) (fun h12 => (e_nx f_184_73 rfl).trans ((e_nx f_184_74 rfl).trans ((e_gk f_184_75 (h12) rfl).trans ((e_nx f_184_76 rfl).trans ((e_nx f_184_77 rfl).trans ((e_cI (L := [.ref l0, .int x1, .int x2, .long p4.1, un, .int p9.1]) (st := [.int p9.1, .int x1]) (μ := setJ p9.2 (mR p9.2 l0 17) (ix p9.1) ((mJ p9.2 (mR p9.2 l0 17) (ix p9.1)) + p4.1)) (L' := [.ref l0, .int x1, .int x2, .long p4.1, un, .int p9.1]) (st' := []) f_184_79 rfl rfl).trans (m_congr fun p13 => (e_nx (q := (_, [.ref l0, .int p13.1, .int x2, .long p4.1, un, .int p9.1], _, _)) f_184_82 rfl).trans ((e_nx (q := (_, [.ref l0, .int p13.1, .int (x2 + 1), .long p4.1, un, .int p9.1], _, _)) f_184_83 rfl).trans (e_nx f_184_86 rfl)))))))))))))))))))))))))))))))))))))))))))
theorem pg_185 (pc : Nat) : fe0 185 pc = lk prg_185 pc := rfl
theorem f_185_0 : fe0 185 0 = some (.iload_n 1, 1, 0, 0, 0, 0, 0) := (pg_185 0).trans rfl
theorem f_185_1 : fe0 185 1 = some (.i2l, 1, 0, 0, 0, 0, 0) := (pg_185 1).trans rfl
theorem f_185_2 : fe0 185 2 = some (.lconst 1, 1, 0, 0, 0, 0, 0) := (pg_185 2).trans rfl
theorem f_185_3 : fe0 185 3 = some (.ldc2_w 220, 3, 0, 0, 100, 0, 6117) := (pg_185 3).trans rfl
theorem f_185_6 : fe0 185 6 = some (.invokestatic 84, 3, 133, 3, 2, 0, 5144) := (pg_185 6).trans rfl
theorem f_185_9 : fe0 185 9 = some (.ifCond .ne 6, 3, 0, 0, 0, 0, 0) := (pg_185 9).trans rfl
theorem f_185_12 : fe0 185 12 = some (.ldc 99, 2, 0, 0, 3294967295, 0, 5152) := (pg_185 12).trans rfl
theorem f_185_14 : fe0 185 14 = some (.ireturn, 1, 0, 0, 0, 0, 0) := (pg_185 14).trans rfl
theorem f_185_15 : fe0 185 15 = some (.aload_n 0, 1, 0, 0, 0, 0, 0) := (pg_185 15).trans rfl
theorem f_185_16 : fe0 185 16 = some (.invokevirtual 222, 3, 184, 0, 0, 9, 6118) := (pg_185 16).trans rfl
theorem f_185_19 : fe0 185 19 = some (.istore_n 2, 1, 0, 0, 0, 0, 0) := (pg_185 19).trans rfl
theorem f_185_20 : fe0 185 20 = some (.aload_n 0, 1, 0, 0, 0, 0, 0) := (pg_185 20).trans rfl
theorem f_185_21 : fe0 185 21 = some (.invokevirtual 212, 3, 180, 0, 0, 9, 6106) := (pg_185 21).trans rfl
theorem f_185_24 : fe0 185 24 = some (.lstore_n 3, 1, 0, 0, 0, 0, 0) := (pg_185 24).trans rfl
theorem f_185_25 : fe0 185 25 = some (.lconst 0, 1, 0, 0, 0, 0, 0) := (pg_185 25).trans rfl
theorem f_185_26 : fe0 185 26 = some (.lstore 5, 2, 0, 0, 0, 0, 0) := (pg_185 26).trans rfl
theorem f_185_28 : fe0 185 28 = some (.iconst 0, 1, 0, 0, 0, 0, 0) := (pg_185 28).trans rfl
theorem f_185_29 : fe0 185 29 = some (.istore 7, 2, 0, 0, 0, 0, 0) := (pg_185 29).trans rfl
theorem f_185_31 : fe0 185 31 = some (.iload 7, 2, 0, 0, 0, 0, 0) := (pg_185 31).trans rfl
theorem f_185_33 : fe0 185 33 = some (.iload_n 2, 1, 0, 0, 0, 0, 0) := (pg_185 33).trans rfl
theorem f_185_34 : fe0 185 34 = some (.if_icmp .ge 38, 3, 0, 0, 0, 0, 0) := (pg_185 34).trans rfl
theorem f_185_37 : fe0 185 37 = some (.lload 5, 2, 0, 0, 0, 0, 0) := (pg_185 37).trans rfl
theorem f_185_39 : fe0 185 39 = some (.aload_n 0, 1, 0, 0, 0, 0, 0) := (pg_185 39).trans rfl
theorem f_185_40 : fe0 185 40 = some (.getfield 58, 3, 9, 17, 1, 0, 5041) := (pg_185 40).trans rfl
theorem f_185_43 : fe0 185 43 = some (.iload 7, 2, 0, 0, 0, 0, 0) := (pg_185 43).trans rfl
theorem f_185_45 : fe0 185 45 = some (.laload, 1, 0, 0, 0, 0, 0) := (pg_185 45).trans rfl
theorem f_185_46 : fe0 185 46 = some (.ladd, 1, 0, 0, 0, 0, 0) := (pg_185 46).trans rfl
theorem f_185_47 : fe0 185 47 = some (.lstore 5, 2, 0, 0, 0, 0, 0) := (pg_185 47).trans rfl
theorem f_185_49 : fe0 185 49 = some (.ldc2_w 220, 3, 0, 0, 100, 0, 6117) := (pg_185 49).trans rfl
theorem f_185_52 : fe0 185 52 = some (.lload 5, 2, 0, 0, 0, 0, 0) := (pg_185 52).trans rfl
theorem f_185_54 : fe0 185 54 = some (.lmul, 1, 0, 0, 0, 0, 0) := (pg_185 54).trans rfl
theorem f_185_55 : fe0 185 55 = some (.iload_n 1, 1, 0, 0, 0, 0, 0) := (pg_185 55).trans rfl
theorem f_185_56 : fe0 185 56 = some (.i2l, 1, 0, 0, 0, 0, 0) := (pg_185 56).trans rfl
theorem f_185_57 : fe0 185 57 = some (.lload_n 3, 1, 0, 0, 0, 0, 0) := (pg_185 57).trans rfl
theorem f_185_58 : fe0 185 58 = some (.lmul, 1, 0, 0, 0, 0, 0) := (pg_185 58).trans rfl
theorem f_185_59 : fe0 185 59 = some (.lcmp, 1, 0, 0, 0, 0, 0) := (pg_185 59).trans rfl
theorem f_185_60 : fe0 185 60 = some (.ifCond .lt 6, 3, 0, 0, 0, 0, 0) := (pg_185 60).trans rfl
theorem f_185_63 : fe0 185 63 = some (.iload 7, 2, 0, 0, 0, 0, 0) := (pg_185 63).trans rfl
theorem f_185_65 : fe0 185 65 = some (.ireturn, 1, 0, 0, 0, 0, 0) := (pg_185 65).trans rfl
theorem f_185_66 : fe0 185 66 = some (.iinc 7 1, 3, 0, 0, 0, 0, 0) := (pg_185 66).trans rfl
theorem f_185_69 : fe0 185 69 = some (.goto (-38), 3, 0, 0, 0, 0, 0) := (pg_185 69).trans rfl
theorem f_185_72 : fe0 185 72 = some (.iload_n 2, 1, 0, 0, 0, 0, 0) := (pg_185 72).trans rfl
theorem f_185_73 : fe0 185 73 = some (.ireturn, 1, 0, 0, 0, 0, 0) := (pg_185 73).trans rfl
theorem q_185_0 (d : Nat) (l0 : Nat) (x1 : Int32) (μ : aMem) : Rn (d + 1) 185 (0, [.ref l0, .int x1, un, un, un, un, un, un], [], μ) = (cI d 133 [.long ((x1 : Int32).toInt64), .long 1, .long 100] μ).bind fun p1 => if p1.1 = 0 then (some (some (.int (-1000000001)), p1.2)) else (if (mS p1.2 l0).1 = 9 ∧ l0 < 999999 then ((cI d 184 [.ref l0] p1.2).bind fun p3 => if (mS p3.2 l0).1 = 9 ∧ l0 < 999999 then ((cJ d 180 [.ref l0] p3.2).bind fun p5 => Rn (d + 1) 185 (31, [.ref l0, .int x1, .int p3.1, .long p5.1, un, .long 0, un, .int 0], [], p5.2)) else none) else none) :=
  (e_nx f_185_0 rfl).trans ((e_nx f_185_1 rfl).trans ((e_nx (q := (_, _, .long 1 :: _, _)) f_185_2 rfl).trans ((e_nx (q := (_, _, .long 100 :: _, _)) f_185_3 rfl).trans ((e_cI (L := [.ref l0, .int x1, un, un, un, un, un, un]) (st := [.long 100, .long 1, .long ((x1 : Int32).toInt64)]) (μ := μ) (L' := [.ref l0, .int x1, un, un, un, un, un, un]) (st' := []) f_185_6 rfl rfl).trans (m_congr fun p1 => (e_ne f_185_9 rfl).trans (b_congr (fun h2 => (e_nx (q := (_, _, .int (-1000000001) :: _, _)) f_185_12 rfl).trans (e_rt f_185_14 rfl)) (fun h2 => (e_nx f_185_15 rfl).trans ((e_gI (L := [.ref l0, .int x1, un, un, un, un, un, un]) (st := [.ref l0]) (μ := p1.2) (L' := [.ref l0, .int x1, un, un, un, un, un, un]) (st' := []) f_185_16 rfl rfl).trans (g_congr (v_c2 rfl (Nat.le_of_ble_eq_true rfl)) (fun h4 => m_congr fun p3 => (e_nx (q := (_, [.ref l0, .int x1, .int p3.1, un, un, un, un, un], _, _)) f_185_19 rfl).trans ((e_nx f_185_20 rfl).trans ((e_gJ (L := [.ref l0, .int x1, .int p3.1, un, un, un, un, un]) (st := [.ref l0]) (μ := p3.2) (L' := [.ref l0, .int x1, .int p3.1, un, un, un, un, un]) (st' := []) f_185_21 rfl rfl).trans (g_congr (v_c2 rfl (Nat.le_of_ble_eq_true rfl)) (fun h6 => m_congr fun p5 => (e_nx (q := (_, [.ref l0, .int x1, .int p3.1, .long p5.1, un, un, un, un], _, _)) f_185_24 rfl).trans ((e_nx (q := (_, _, .long 0 :: _, _)) f_185_25 rfl).trans ((e_nx (q := (_, [.ref l0, .int x1, .int p3.1, .long p5.1, un, .long 0, un, un], _, _)) f_185_26 rfl).trans ((e_nx (q := (_, _, .int 0 :: _, _)) f_185_28 rfl).trans (e_nx (q := (_, [.ref l0, .int x1, .int p3.1, .long p5.1, un, .long 0, un, .int 0], _, _)) f_185_29 rfl))))))))))))))))))
theorem q_185_31 (d : Nat) (l0 : Nat) (x1 : Int32) (x2 : Int32) (j3 : Int64) (j5 : Int64) (x7 : Int32) (μ : aMem) : Rn (d + 1) 185 (31, [.ref l0, .int x1, .int x2, .long j3, un, .long j5, un, .int x7], [], μ) = if x2 ≤ x7 then (some (some (.int x2), μ)) else (if (mS μ l0).1 = 9 then (if (mS μ (mR μ l0 17)).1 = 11 ∧ inb x7 (mS μ (mR μ l0 17)).2 then (if (lg_cmp (100 * (j5 + (mJ μ (mR μ l0 17) (ix x7)))) (((x1 : Int32).toInt64) * j3)) < 0 then (Rn (d + 1) 185 (31, [.ref l0, .int x1, .int x2, .long j3, un, .long (j5 + (mJ μ (mR μ l0 17) (ix x7))), un, .int (x7 + 1)], [], μ)) else (some (some (.int x7), μ))) else none) else none) :=
  (e_nx f_185_31 rfl).trans ((e_nx f_185_33 rfl).trans ((e_ge f_185_34 rfl).trans (b_congr (fun h1 => (e_nx f_185_72 rfl).trans (e_rt f_185_73 rfl)) (fun h1 => (e_nx f_185_37 rfl).trans ((e_nx f_185_39 rfl).trans ((e_gd f_185_40 rfl).trans (g_congr (Iff.rfl) (fun h2 => (e_nx f_185_43 rfl).trans ((e_gd f_185_45 rfl).trans (g_congr (Iff.rfl) (fun h3 => (e_nx f_185_46 rfl).trans ((e_nx (q := (_, [.ref l0, .int x1, .int x2, .long j3, un, .long (j5 + (mJ μ (mR μ l0 17) (ix x7))), un, .int x7], _, _)) f_185_47 rfl).trans ((e_nx (q := (_, _, .long 100 :: _, _)) f_185_49 rfl).trans ((e_nx f_185_52 rfl).trans ((e_nx f_185_54 rfl).trans ((e_nx f_185_55 rfl).trans ((e_nx f_185_56 rfl).trans ((e_nx f_185_57 rfl).trans ((e_nx f_185_58 rfl).trans ((e_nx f_185_59 rfl).trans ((e_lt f_185_60 rfl).trans (b_congr (fun h4 => (e_nx (q := (_, [.ref l0, .int x1, .int x2, .long j3, un, .long (j5 + (mJ μ (mR μ l0 17) (ix x7))), un, .int (x7 + 1)], _, _)) f_185_66 rfl).trans (e_nx f_185_69 rfl)) (fun h4 => (e_nx f_185_63 rfl).trans (e_rt f_185_65 rfl))))))))))))))))))))))))
theorem pg_186 (pc : Nat) : fe0 186 pc = lk prg_186 pc := rfl
theorem f_186_0 : fe0 186 0 = some (.iload_n 1, 1, 0, 0, 0, 0, 0) := (pg_186 0).trans rfl
theorem f_186_1 : fe0 186 1 = some (.i2l, 1, 0, 0, 0, 0, 0) := (pg_186 1).trans rfl
theorem f_186_2 : fe0 186 2 = some (.lconst 0, 1, 0, 0, 0, 0, 0) := (pg_186 2).trans rfl
theorem f_186_3 : fe0 186 3 = some (.lconst 1, 1, 0, 0, 0, 0, 0) := (pg_186 3).trans rfl
theorem f_186_4 : fe0 186 4 = some (.invokestatic 84, 3, 133, 3, 2, 0, 5144) := (pg_186 4).trans rfl
theorem f_186_7 : fe0 186 7 = some (.ifCond .ne 7, 3, 0, 0, 0, 0, 0) := (pg_186 7).trans rfl
theorem f_186_10 : fe0 186 10 = some (.ldc2_w 207, 3, 0, 0, 18446744072709551615, 0, 6093) := (pg_186 10).trans rfl
theorem f_186_13 : fe0 186 13 = some (.lreturn, 1, 0, 0, 0, 0, 0) := (pg_186 13).trans rfl
theorem f_186_14 : fe0 186 14 = some (.aload_n 0, 1, 0, 0, 0, 0, 0) := (pg_186 14).trans rfl
theorem f_186_15 : fe0 186 15 = some (.invokevirtual 222, 3, 184, 0, 0, 9, 6118) := (pg_186 15).trans rfl
theorem f_186_18 : fe0 186 18 = some (.istore_n 2, 1, 0, 0, 0, 0, 0) := (pg_186 18).trans rfl
theorem f_186_19 : fe0 186 19 = some (.lconst 0, 1, 0, 0, 0, 0, 0) := (pg_186 19).trans rfl
theorem f_186_20 : fe0 186 20 = some (.lstore_n 3, 1, 0, 0, 0, 0, 0) := (pg_186 20).trans rfl
theorem f_186_21 : fe0 186 21 = some (.iconst 0, 1, 0, 0, 0, 0, 0) := (pg_186 21).trans rfl
theorem f_186_22 : fe0 186 22 = some (.istore 5, 2, 0, 0, 0, 0, 0) := (pg_186 22).trans rfl
theorem f_186_24 : fe0 186 24 = some (.iload 5, 2, 0, 0, 0, 0, 0) := (pg_186 24).trans rfl
theorem f_186_26 : fe0 186 26 = some (.iload_n 2, 1, 0, 0, 0, 0, 0) := (pg_186 26).trans rfl
theorem f_186_27 : fe0 186 27 = some (.if_icmp .gt 23, 3, 0, 0, 0, 0, 0) := (pg_186 27).trans rfl
theorem f_186_30 : fe0 186 30 = some (.lload_n 3, 1, 0, 0, 0, 0, 0) := (pg_186 30).trans rfl
theorem f_186_31 : fe0 186 31 = some (.iload 5, 2, 0, 0, 0, 0, 0) := (pg_186 31).trans rfl
theorem f_186_33 : fe0 186 33 = some (.i2l, 1, 0, 0, 0, 0, 0) := (pg_186 33).trans rfl
theorem f_186_34 : fe0 186 34 = some (.aload_n 0, 1, 0, 0, 0, 0, 0) := (pg_186 34).trans rfl
theorem f_186_35 : fe0 186 35 = some (.getfield 58, 3, 9, 17, 1, 0, 5041) := (pg_186 35).trans rfl
theorem f_186_38 : fe0 186 38 = some (.iload 5, 2, 0, 0, 0, 0, 0) := (pg_186 38).trans rfl
theorem f_186_40 : fe0 186 40 = some (.laload, 1, 0, 0, 0, 0, 0) := (pg_186 40).trans rfl
theorem f_186_41 : fe0 186 41 = some (.lmul, 1, 0, 0, 0, 0, 0) := (pg_186 41).trans rfl
theorem f_186_42 : fe0 186 42 = some (.ladd, 1, 0, 0, 0, 0, 0) := (pg_186 42).trans rfl
theorem f_186_43 : fe0 186 43 = some (.lstore_n 3, 1, 0, 0, 0, 0, 0) := (pg_186 43).trans rfl
theorem f_186_44 : fe0 186 44 = some (.iinc 5 1, 3, 0, 0, 0, 0, 0) := (pg_186 44).trans rfl
theorem f_186_47 : fe0 186 47 = some (.goto (-23), 3, 0, 0, 0, 0, 0) := (pg_186 47).trans rfl
theorem f_186_50 : fe0 186 50 = some (.lload_n 3, 1, 0, 0, 0, 0, 0) := (pg_186 50).trans rfl
theorem f_186_51 : fe0 186 51 = some (.aload_n 0, 1, 0, 0, 0, 0, 0) := (pg_186 51).trans rfl
theorem f_186_52 : fe0 186 52 = some (.invokevirtual 212, 3, 180, 0, 0, 9, 6106) := (pg_186 52).trans rfl
theorem f_186_55 : fe0 186 55 = some (.iload_n 1, 1, 0, 0, 0, 0, 0) := (pg_186 55).trans rfl
theorem f_186_56 : fe0 186 56 = some (.invokestatic 216, 3, 182, 3, 2, 0, 6110) := (pg_186 56).trans rfl
theorem f_186_59 : fe0 186 59 = some (.lreturn, 1, 0, 0, 0, 0, 0) := (pg_186 59).trans rfl
theorem q_186_0 (d : Nat) (l0 : Nat) (x1 : Int32) (μ : aMem) : Rn (d + 1) 186 (0, [.ref l0, .int x1, un, un, un, un], [], μ) = (cI d 133 [.long ((x1 : Int32).toInt64), .long 0, .long 1] μ).bind fun p1 => if p1.1 = 0 then (some (some (.long (-1000000001)), p1.2)) else (if (mS p1.2 l0).1 = 9 ∧ l0 < 999999 then ((cI d 184 [.ref l0] p1.2).bind fun p3 => Rn (d + 1) 186 (24, [.ref l0, .int x1, .int p3.1, .long 0, un, .int 0], [], p3.2)) else none) :=
  (e_nx f_186_0 rfl).trans ((e_nx f_186_1 rfl).trans ((e_nx (q := (_, _, .long 0 :: _, _)) f_186_2 rfl).trans ((e_nx (q := (_, _, .long 1 :: _, _)) f_186_3 rfl).trans ((e_cI (L := [.ref l0, .int x1, un, un, un, un]) (st := [.long 1, .long 0, .long ((x1 : Int32).toInt64)]) (μ := μ) (L' := [.ref l0, .int x1, un, un, un, un]) (st' := []) f_186_4 rfl rfl).trans (m_congr fun p1 => (e_ne f_186_7 rfl).trans (b_congr (fun h2 => (e_nx (q := (_, _, .long (-1000000001) :: _, _)) f_186_10 rfl).trans (e_rt f_186_13 rfl)) (fun h2 => (e_nx f_186_14 rfl).trans ((e_gI (L := [.ref l0, .int x1, un, un, un, un]) (st := [.ref l0]) (μ := p1.2) (L' := [.ref l0, .int x1, un, un, un, un]) (st' := []) f_186_15 rfl rfl).trans (g_congr (v_c2 rfl (Nat.le_of_ble_eq_true rfl)) (fun h4 => m_congr fun p3 => (e_nx (q := (_, [.ref l0, .int x1, .int p3.1, un, un, un], _, _)) f_186_18 rfl).trans ((e_nx (q := (_, _, .long 0 :: _, _)) f_186_19 rfl).trans ((e_nx (q := (_, [.ref l0, .int x1, .int p3.1, .long 0, un, un], _, _)) f_186_20 rfl).trans ((e_nx (q := (_, _, .int 0 :: _, _)) f_186_21 rfl).trans (e_nx (q := (_, [.ref l0, .int x1, .int p3.1, .long 0, un, .int 0], _, _)) f_186_22 rfl))))))))))))))
theorem q_186_24 (d : Nat) (l0 : Nat) (x1 : Int32) (x2 : Int32) (j3 : Int64) (x5 : Int32) (μ : aMem) : Rn (d + 1) 186 (24, [.ref l0, .int x1, .int x2, .long j3, un, .int x5], [], μ) = if x2 < x5 then (if (mS μ l0).1 = 9 ∧ l0 < 999999 then ((cJ d 180 [.ref l0] μ).bind fun p2 => (cJ d 182 [.long j3, .long p2.1, .int x1] p2.2).bind fun p4 => some (some (.long p4.1), p4.2)) else none) else (if (mS μ l0).1 = 9 then (if (mS μ (mR μ l0 17)).1 = 11 ∧ inb x5 (mS μ (mR μ l0 17)).2 then (Rn (d + 1) 186 (24, [.ref l0, .int x1, .int x2, .long (j3 + (((x5 : Int32).toInt64) * (mJ μ (mR μ l0 17) (ix x5)))), un, .int (x5 + 1)], [], μ)) else none) else none) :=
  (e_nx f_186_24 rfl).trans ((e_nx f_186_26 rfl).trans ((e_gt f_186_27 rfl).trans (b_congr (fun h1 => (e_nx f_186_50 rfl).trans ((e_nx f_186_51 rfl).trans ((e_gJ (L := [.ref l0, .int x1, .int x2, .long j3, un, .int x5]) (st := [.ref l0, .long j3]) (μ := μ) (L' := [.ref l0, .int x1, .int x2, .long j3, un, .int x5]) (st' := [.long j3]) f_186_52 rfl rfl).trans (g_congr (v_c2 rfl (Nat.le_of_ble_eq_true rfl)) (fun h3 => m_congr fun p2 => (e_nx f_186_55 rfl).trans ((e_cJ (L := [.ref l0, .int x1, .int x2, .long j3, un, .int x5]) (st := [.int x1, .long p2.1, .long j3]) (μ := p2.2) (L' := [.ref l0, .int x1, .int x2, .long j3, un, .int x5]) (st' := []) f_186_56 rfl rfl).trans (m_congr fun p4 => e_rt f_186_59 rfl))))))) (fun h1 => (e_nx f_186_30 rfl).trans ((e_nx f_186_31 rfl).trans ((e_nx f_186_33 rfl).trans ((e_nx f_186_34 rfl).trans ((e_gd f_186_35 rfl).trans (g_congr (Iff.rfl) (fun h5 => (e_nx f_186_38 rfl).trans ((e_gd f_186_40 rfl).trans (g_congr (Iff.rfl) (fun h6 => (e_nx f_186_41 rfl).trans ((e_nx f_186_42 rfl).trans ((e_nx (q := (_, [.ref l0, .int x1, .int x2, .long (j3 + (((x5 : Int32).toInt64) * (mJ μ (mR μ l0 17) (ix x5)))), un, .int x5], _, _)) f_186_43 rfl).trans ((e_nx (q := (_, [.ref l0, .int x1, .int x2, .long (j3 + (((x5 : Int32).toInt64) * (mJ μ (mR μ l0 17) (ix x5)))), un, .int (x5 + 1)], _, _)) f_186_44 rfl).trans (e_nx f_186_47 rfl)))))))))))))))))
theorem pg_187 (pc : Nat) : fe0 187 pc = lk prg_187 pc := rfl
theorem f_187_0 : fe0 187 0 = some (.aload_n 0, 1, 0, 0, 0, 0, 0) := (pg_187 0).trans rfl
theorem f_187_1 : fe0 187 1 = some (.invokevirtual 147, 3, 155, 0, 0, 9, 5214) := (pg_187 1).trans rfl
theorem f_187_4 : fe0 187 4 = some (.sipush 9999, 3, 0, 0, 0, 0, 0) := (pg_187 4).trans rfl
theorem f_187_7 : fe0 187 7 = some (.invokestatic 119, 3, 134, 2, 2, 0, 5193) := (pg_187 7).trans rfl
theorem f_187_10 : fe0 187 10 = some (.istore_n 2, 1, 0, 0, 0, 0, 0) := (pg_187 10).trans rfl
theorem f_187_11 : fe0 187 11 = some (.iconst 0, 1, 0, 0, 0, 0, 0) := (pg_187 11).trans rfl
theorem f_187_12 : fe0 187 12 = some (.istore_n 3, 1, 0, 0, 0, 0, 0) := (pg_187 12).trans rfl
theorem f_187_13 : fe0 187 13 = some (.iconst 0, 1, 0, 0, 0, 0, 0) := (pg_187 13).trans rfl
theorem f_187_14 : fe0 187 14 = some (.istore 4, 2, 0, 0, 0, 0, 0) := (pg_187 14).trans rfl
theorem f_187_16 : fe0 187 16 = some (.iload 4, 2, 0, 0, 0, 0, 0) := (pg_187 16).trans rfl
theorem f_187_18 : fe0 187 18 = some (.aload_n 0, 1, 0, 0, 0, 0, 0) := (pg_187 18).trans rfl
theorem f_187_19 : fe0 187 19 = some (.getfield 7, 3, 9, 0, 1, 0, 5024) := (pg_187 19).trans rfl
theorem f_187_22 : fe0 187 22 = some (.iconst 0, 1, 0, 0, 0, 0, 0) := (pg_187 22).trans rfl
theorem f_187_23 : fe0 187 23 = some (.iaload, 1, 0, 0, 0, 0, 0) := (pg_187 23).trans rfl
theorem f_187_24 : fe0 187 24 = some (.if_icmp .ge 37, 3, 0, 0, 0, 0, 0) := (pg_187 24).trans rfl
theorem f_187_27 : fe0 187 27 = some (.iload_n 3, 1, 0, 0, 0, 0, 0) := (pg_187 27).trans rfl
theorem f_187_28 : fe0 187 28 = some (.aload_n 0, 1, 0, 0, 0, 0, 0) := (pg_187 28).trans rfl
theorem f_187_29 : fe0 187 29 = some (.invokevirtual 182, 3, 143, 0, 0, 9, 6046) := (pg_187 29).trans rfl
theorem f_187_32 : fe0 187 32 = some (.bipush 10, 2, 0, 0, 0, 0, 0) := (pg_187 32).trans rfl
theorem f_187_34 : fe0 187 34 = some (.irem, 1, 0, 0, 0, 0, 0) := (pg_187 34).trans rfl
theorem f_187_35 : fe0 187 35 = some (.aload_n 0, 1, 0, 0, 0, 0, 0) := (pg_187 35).trans rfl
theorem f_187_36 : fe0 187 36 = some (.iload 4, 2, 0, 0, 0, 0, 0) := (pg_187 36).trans rfl
theorem f_187_38 : fe0 187 38 = some (.iconst 2, 1, 0, 0, 0, 0, 0) := (pg_187 38).trans rfl
theorem f_187_39 : fe0 187 39 = some (.invokevirtual 105, 3, 139, 2, 0, 9, 5166) := (pg_187 39).trans rfl
theorem f_187_42 : fe0 187 42 = some (.if_icmp .ge 10, 3, 0, 0, 0, 0, 0) := (pg_187 42).trans rfl
theorem f_187_45 : fe0 187 45 = some (.iconst 1, 1, 0, 0, 0, 0, 0) := (pg_187 45).trans rfl
theorem f_187_46 : fe0 187 46 = some (.iload 4, 2, 0, 0, 0, 0, 0) := (pg_187 46).trans rfl
theorem f_187_48 : fe0 187 48 = some (.ishl, 1, 0, 0, 0, 0, 0) := (pg_187 48).trans rfl
theorem f_187_49 : fe0 187 49 = some (.goto 4, 3, 0, 0, 0, 0, 0) := (pg_187 49).trans rfl
theorem f_187_52 : fe0 187 52 = some (.iconst 0, 1, 0, 0, 0, 0, 0) := (pg_187 52).trans rfl
theorem f_187_53 : fe0 187 53 = some (.ior, 1, 0, 0, 0, 0, 0) := (pg_187 53).trans rfl
theorem f_187_54 : fe0 187 54 = some (.istore_n 3, 1, 0, 0, 0, 0, 0) := (pg_187 54).trans rfl
theorem f_187_55 : fe0 187 55 = some (.iinc 4 1, 3, 0, 0, 0, 0, 0) := (pg_187 55).trans rfl
theorem f_187_58 : fe0 187 58 = some (.goto (-42), 3, 0, 0, 0, 0, 0) := (pg_187 58).trans rfl
theorem f_187_61 : fe0 187 61 = some (.aload_n 0, 1, 0, 0, 0, 0, 0) := (pg_187 61).trans rfl
theorem f_187_62 : fe0 187 62 = some (.iload_n 3, 1, 0, 0, 0, 0, 0) := (pg_187 62).trans rfl
theorem f_187_63 : fe0 187 63 = some (.invokevirtual 203, 3, 178, 1, 0, 9, 6102) := (pg_187 63).trans rfl
theorem f_187_66 : fe0 187 66 = some (.aload_n 0, 1, 0, 0, 0, 0, 0) := (pg_187 66).trans rfl
theorem f_187_67 : fe0 187 67 = some (.aload_n 0, 1, 0, 0, 0, 0, 0) := (pg_187 67).trans rfl
theorem f_187_68 : fe0 187 68 = some (.invokevirtual 143, 3, 154, 0, 0, 9, 5226) := (pg_187 68).trans rfl
theorem f_187_71 : fe0 187 71 = some (.sipush 9999, 3, 0, 0, 0, 0, 0) := (pg_187 71).trans rfl
theorem f_187_74 : fe0 187 74 = some (.invokestatic 119, 3, 134, 2, 2, 0, 5193) := (pg_187 74).trans rfl
theorem f_187_77 : fe0 187 77 = some (.putfield 225, 3, 9, 18, 0, 0, 5042) := (pg_187 77).trans rfl
theorem f_187_80 : fe0 187 80 = some (.aload_n 0, 1, 0, 0, 0, 0, 0) := (pg_187 80).trans rfl
theorem f_187_81 : fe0 187 81 = some (.iload_n 1, 1, 0, 0, 0, 0, 0) := (pg_187 81).trans rfl
theorem f_187_82 : fe0 187 82 = some (.iload_n 2, 1, 0, 0, 0, 0, 0) := (pg_187 82).trans rfl
theorem f_187_83 : fe0 187 83 = some (.aload_n 0, 1, 0, 0, 0, 0, 0) := (pg_187 83).trans rfl
theorem f_187_84 : fe0 187 84 = some (.getfield 225, 3, 9, 18, 0, 0, 5042) := (pg_187 84).trans rfl
theorem f_187_87 : fe0 187 87 = some (.invokevirtual 176, 3, 164, 3, 0, 9, 6028) := (pg_187 87).trans rfl
theorem f_187_90 : fe0 187 90 = some (.aload_n 0, 1, 0, 0, 0, 0, 0) := (pg_187 90).trans rfl
theorem f_187_91 : fe0 187 91 = some (.getfield 225, 3, 9, 18, 0, 0, 5042) := (pg_187 91).trans rfl
theorem f_187_94 : fe0 187 94 = some (.iload_n 2, 1, 0, 0, 0, 0, 0) := (pg_187 94).trans rfl
theorem f_187_95 : fe0 187 95 = some (.if_icmp .gt 7, 3, 0, 0, 0, 0, 0) := (pg_187 95).trans rfl
theorem f_187_98 : fe0 187 98 = some (.iconst 1, 1, 0, 0, 0, 0, 0) := (pg_187 98).trans rfl
theorem f_187_99 : fe0 187 99 = some (.goto 4, 3, 0, 0, 0, 0, 0) := (pg_187 99).trans rfl
theorem f_187_102 : fe0 187 102 = some (.iconst 0, 1, 0, 0, 0, 0, 0) := (pg_187 102).trans rfl
theorem f_187_103 : fe0 187 103 = some (.ireturn, 1, 1, 0, 0, 0, 0) := (pg_187 103).trans rfl
theorem q_187_0 (d : Nat) (l0 : Nat) (x1 : Int32) (μ : aMem) : Rn (d + 1) 187 (0, [.ref l0, .int x1, un, un, un], [], μ) = if (mS μ l0).1 = 9 ∧ l0 < 999999 then ((cI d 155 [.ref l0] μ).bind fun p1 => (cI d 134 [.int p1.1, .int 9999] p1.2).bind fun p3 => Rn (d + 1) 187 (16, [.ref l0, .int x1, .int p3.1, .int 0, .int 0], [], p3.2)) else none :=
  (e_nx f_187_0 rfl).trans ((e_gI (L := [.ref l0, .int x1, un, un, un]) (st := [.ref l0]) (μ := μ) (L' := [.ref l0, .int x1, un, un, un]) (st' := []) f_187_1 rfl rfl).trans (g_congr (v_c2 rfl (Nat.le_of_ble_eq_true rfl)) (fun h2 => m_congr fun p1 => (e_nx (q := (_, _, .int 9999 :: _, _)) f_187_4 rfl).trans ((e_cI (L := [.ref l0, .int x1, un, un, un]) (st := [.int 9999, .int p1.1]) (μ := p1.2) (L' := [.ref l0, .int x1, un, un, un]) (st' := []) f_187_7 rfl rfl).trans (m_congr fun p3 => (e_nx (q := (_, [.ref l0, .int x1, .int p3.1, un, un], _, _)) f_187_10 rfl).trans ((e_nx (q := (_, _, .int 0 :: _, _)) f_187_11 rfl).trans ((e_nx (q := (_, [.ref l0, .int x1, .int p3.1, .int 0, un], _, _)) f_187_12 rfl).trans ((e_nx (q := (_, _, .int 0 :: _, _)) f_187_13 rfl).trans (e_nx (q := (_, [.ref l0, .int x1, .int p3.1, .int 0, .int 0], _, _)) f_187_14 rfl)))))))))
theorem q_187_16 (d : Nat) (l0 : Nat) (x1 : Int32) (x2 : Int32) (x3 : Int32) (x4 : Int32) (μ : aMem) : Rn (d + 1) 187 (16, [.ref l0, .int x1, .int x2, .int x3, .int x4], [], μ) = if (mS μ l0).1 = 9 then ((rdI μ (mR μ l0 0) 0).bind fun v2 => if v2 ≤ x4 then (if (mS μ l0).1 = 9 ∧ l0 < 999999 then ((cV d 178 [.ref l0, .int x3] μ).bind fun p4 => if (mS p4 l0).1 = 9 ∧ l0 < 999999 then ((cI d 154 [.ref l0] p4).bind fun p6 => (cI d 134 [.int p6.1, .int 9999] p6.2).bind fun p8 => if (mS p8.2 l0).1 = 9 then (if (mS p8.2 l0).1 = 9 ∧ l0 < 999999 then ((cV d 164 [.ref l0, .int x1, .int x2, .int (mF (setF p8.2 l0 18 p8.1) l0 18)] (setF p8.2 l0 18 p8.1)).bind fun p10 => if (mS p10 l0).1 = 9 then (if x2 < (mF p10 l0 18) then (some (some (.int 0), p10)) else (some (some (.int 1), p10))) else none) else none) else none) else none) else none) else (if (mS μ l0).1 = 9 ∧ l0 < 999999 then ((cI d 143 [.ref l0] μ).bind fun p14 => if (mS p14.2 l0).1 = 9 ∧ l0 < 999999 then ((cI d 139 [.ref l0, .int x4, .int 2] p14.2).bind fun p16 => if p16.1 ≤ (p14.1 - p14.1 / 10 * 10) then (Rn (d + 1) 187 (16, [.ref l0, .int x1, .int x2, .int (x3 ||| 0), .int (x4 + 1)], [], p16.2)) else (Rn (d + 1) 187 (16, [.ref l0, .int x1, .int x2, .int (x3 ||| (1 <<< (x4 &&& 31))), .int (x4 + 1)], [], p16.2))) else none) else none)) else none :=
  (e_nx f_187_16 rfl).trans ((e_nx f_187_18 rfl).trans ((e_gd f_187_19 rfl).trans (g_congr (Iff.rfl) (fun h1 => (e_nx (q := (_, _, .int 0 :: _, _)) f_187_22 rfl).trans ((e_ia (L := [.ref l0, .int x1, .int x2, .int x3, .int x4]) (r := [.int x4]) (μ := μ) f_187_23).trans (m_congr fun v2 => (e_ge f_187_24 rfl).trans (b_congr (fun h3 => (e_nx f_187_61 rfl).trans ((e_nx f_187_62 rfl).trans ((e_gV (L := [.ref l0, .int x1, .int x2, .int x3, .int x4]) (st := [.int x3, .ref l0]) (μ := μ) (L' := [.ref l0, .int x1, .int x2, .int x3, .int x4]) (st' := []) f_187_63 rfl rfl).trans (g_congr (v_c2 rfl (Nat.le_of_ble_eq_true rfl)) (fun h5 => m_congr fun p4 => (e_nx f_187_66 rfl).trans ((e_nx f_187_67 rfl).trans ((e_gI (L := [.ref l0, .int x1, .int x2, .int x3, .int x4]) (st := [.ref l0, .ref l0]) (μ := p4) (L' := [.ref l0, .int x1, .int x2, .int x3, .int x4]) (st' := [.ref l0]) f_187_68 rfl rfl).trans (g_congr (v_c2 rfl (Nat.le_of_ble_eq_true rfl)) (fun h7 => m_congr fun p6 => (e_nx (q := (_, _, .int 9999 :: _, _)) f_187_71 rfl).trans ((e_cI (L := [.ref l0, .int x1, .int x2, .int x3, .int x4]) (st := [.int 9999, .int p6.1, .ref l0]) (μ := p6.2) (L' := [.ref l0, .int x1, .int x2, .int x3, .int x4]) (st' := [.ref l0]) f_187_74 rfl rfl).trans (m_congr fun p8 => (e_gd (L := [.ref l0, .int x1, .int x2, .int x3, .int x4]) (st := [.int p8.1, .ref l0]) (μ := p8.2) f_187_77 rfl).trans (g_congr (pi_iff rfl) (fun h9 => (e_nx f_187_80 rfl).trans ((e_nx f_187_81 rfl).trans ((e_nx f_187_82 rfl).trans ((e_nx f_187_83 rfl).trans ((e_gk f_187_84 (h9) rfl).trans ((e_gV (L := [.ref l0, .int x1, .int x2, .int x3, .int x4]) (st := [.int (mF (setF p8.2 l0 18 p8.1) l0 18), .int x2, .int x1, .ref l0]) (μ := setF p8.2 l0 18 p8.1) (L' := [.ref l0, .int x1, .int x2, .int x3, .int x4]) (st' := []) f_187_87 rfl rfl).trans (g_congr (v_c2 rfl (Nat.le_of_ble_eq_true rfl)) (fun h11 => m_congr fun p10 => (e_nx f_187_90 rfl).trans ((e_gd f_187_91 rfl).trans (g_congr (Iff.rfl) (fun h12 => (e_nx f_187_94 rfl).trans ((e_gt f_187_95 rfl).trans (b_congr (fun h13 => (e_nx (q := (_, _, .int 0 :: _, _)) f_187_102 rfl).trans (e_rt f_187_103 rfl)) (fun h13 => (e_nx (q := (_, _, .int 1 :: _, _)) f_187_98 rfl).trans ((e_nx f_187_99 rfl).trans (e_rt f_187_103 rfl)))))))))))))))))))))))))))) (fun h3 => (e_nx f_187_27 rfl).trans ((e_nx f_187_28 rfl).trans ((e_gI (L := [.ref l0, .int x1, .int x2, .int x3, .int x4]) (st := [.ref l0, .int x3]) (μ := μ) (L' := [.ref l0, .int x1, .int x2, .int x3, .int x4]) (st' := [.int x3]) f_187_29 rfl rfl).trans (g_congr (v_c2 rfl (Nat.le_of_ble_eq_true rfl)) (fun h15 => m_congr fun p14 => (e_nx (q := (_, _, .int 10 :: _, _)) f_187_32 rfl).trans ((e_nx f_187_34 rfl).trans ((e_nx f_187_35 rfl).trans ((e_nx f_187_36 rfl).trans ((e_nx (q := (_, _, .int 2 :: _, _)) f_187_38 rfl).trans ((e_gI (L := [.ref l0, .int x1, .int x2, .int x3, .int x4]) (st := [.int 2, .int x4, .ref l0, .int (p14.1 - p14.1 / 10 * 10), .int x3]) (μ := p14.2) (L' := [.ref l0, .int x1, .int x2, .int x3, .int x4]) (st' := [.int (p14.1 - p14.1 / 10 * 10), .int x3]) f_187_39 rfl rfl).trans (g_congr (v_c2 rfl (Nat.le_of_ble_eq_true rfl)) (fun h17 => m_congr fun p16 => (e_ge f_187_42 rfl).trans (b_congr (fun h18 => (e_nx (q := (_, _, .int 0 :: _, _)) f_187_52 rfl).trans ((e_nx f_187_53 rfl).trans ((e_nx (q := (_, [.ref l0, .int x1, .int x2, .int (x3 ||| 0), .int x4], _, _)) f_187_54 rfl).trans ((e_nx (q := (_, [.ref l0, .int x1, .int x2, .int (x3 ||| 0), .int (x4 + 1)], _, _)) f_187_55 rfl).trans (e_nx f_187_58 rfl))))) (fun h18 => (e_nx (q := (_, _, .int 1 :: _, _)) f_187_45 rfl).trans ((e_nx f_187_46 rfl).trans ((e_nx f_187_48 rfl).trans ((e_nx f_187_49 rfl).trans ((e_nx f_187_53 rfl).trans ((e_nx (q := (_, [.ref l0, .int x1, .int x2, .int (x3 ||| (1 <<< (x4 &&& 31))), .int x4], _, _)) f_187_54 rfl).trans ((e_nx (q := (_, [.ref l0, .int x1, .int x2, .int (x3 ||| (1 <<< (x4 &&& 31))), .int (x4 + 1)], _, _)) f_187_55 rfl).trans (e_nx f_187_58 rfl))))))))))))))))))))))))))))
theorem pg_188 (pc : Nat) : fe0 188 pc = lk prg_188 pc := rfl
theorem f_188_0 : fe0 188 0 = some (.iload_n 1, 1, 0, 0, 0, 0, 0) := (pg_188 0).trans rfl
theorem f_188_1 : fe0 188 1 = some (.invokestatic 95, 3, 141, 1, 2, 0, 5149) := (pg_188 1).trans rfl
theorem f_188_4 : fe0 188 4 = some (.ifCond .eq 15, 3, 0, 0, 0, 0, 0) := (pg_188 4).trans rfl
theorem f_188_7 : fe0 188 7 = some (.iload_n 2, 1, 0, 0, 0, 0, 0) := (pg_188 7).trans rfl
theorem f_188_8 : fe0 188 8 = some (.i2l, 1, 0, 0, 0, 0, 0) := (pg_188 8).trans rfl
theorem f_188_9 : fe0 188 9 = some (.lconst 1, 1, 0, 0, 0, 0, 0) := (pg_188 9).trans rfl
theorem f_188_10 : fe0 188 10 = some (.ldc2_w 229, 3, 0, 0, 40, 0, 6130) := (pg_188 10).trans rfl
theorem f_188_13 : fe0 188 13 = some (.invokestatic 84, 3, 133, 3, 2, 0, 5144) := (pg_188 13).trans rfl
theorem f_188_16 : fe0 188 16 = some (.ifCond .ne 6, 3, 0, 0, 0, 0, 0) := (pg_188 16).trans rfl
theorem f_188_19 : fe0 188 19 = some (.ldc 99, 2, 0, 0, 3294967295, 0, 5152) := (pg_188 19).trans rfl
theorem f_188_21 : fe0 188 21 = some (.ireturn, 1, 0, 0, 0, 0, 0) := (pg_188 21).trans rfl
theorem f_188_22 : fe0 188 22 = some (.iconst 0, 1, 0, 0, 0, 0, 0) := (pg_188 22).trans rfl
theorem f_188_23 : fe0 188 23 = some (.istore_n 3, 1, 0, 0, 0, 0, 0) := (pg_188 23).trans rfl
theorem f_188_24 : fe0 188 24 = some (.iconst 0, 1, 0, 0, 0, 0, 0) := (pg_188 24).trans rfl
theorem f_188_25 : fe0 188 25 = some (.istore 4, 2, 0, 0, 0, 0, 0) := (pg_188 25).trans rfl
theorem f_188_27 : fe0 188 27 = some (.iload 4, 2, 0, 0, 0, 0, 0) := (pg_188 27).trans rfl
theorem f_188_29 : fe0 188 29 = some (.iload_n 2, 1, 0, 0, 0, 0, 0) := (pg_188 29).trans rfl
theorem f_188_30 : fe0 188 30 = some (.if_icmp .ge 25, 3, 0, 0, 0, 0, 0) := (pg_188 30).trans rfl
theorem f_188_33 : fe0 188 33 = some (.iload_n 3, 1, 0, 0, 0, 0, 0) := (pg_188 33).trans rfl
theorem f_188_34 : fe0 188 34 = some (.aload_n 0, 1, 0, 0, 0, 0, 0) := (pg_188 34).trans rfl
theorem f_188_35 : fe0 188 35 = some (.iload_n 1, 1, 0, 0, 0, 0, 0) := (pg_188 35).trans rfl
theorem f_188_36 : fe0 188 36 = some (.invokevirtual 231, 3, 187, 1, 0, 9, 6131) := (pg_188 36).trans rfl
theorem f_188_39 : fe0 188 39 = some (.ifCond .eq 7, 3, 0, 0, 0, 0, 0) := (pg_188 39).trans rfl
theorem f_188_42 : fe0 188 42 = some (.iconst 1, 1, 0, 0, 0, 0, 0) := (pg_188 42).trans rfl
theorem f_188_43 : fe0 188 43 = some (.goto 4, 3, 0, 0, 0, 0, 0) := (pg_188 43).trans rfl
theorem f_188_46 : fe0 188 46 = some (.iconst 0, 1, 0, 0, 0, 0, 0) := (pg_188 46).trans rfl
theorem f_188_47 : fe0 188 47 = some (.iadd, 1, 0, 0, 0, 0, 0) := (pg_188 47).trans rfl
theorem f_188_48 : fe0 188 48 = some (.istore_n 3, 1, 0, 0, 0, 0, 0) := (pg_188 48).trans rfl
theorem f_188_49 : fe0 188 49 = some (.iinc 4 1, 3, 0, 0, 0, 0, 0) := (pg_188 49).trans rfl
theorem f_188_52 : fe0 188 52 = some (.goto (-25), 3, 0, 0, 0, 0, 0) := (pg_188 52).trans rfl
theorem f_188_55 : fe0 188 55 = some (.iload_n 3, 1, 0, 0, 0, 0, 0) := (pg_188 55).trans rfl
theorem f_188_56 : fe0 188 56 = some (.ireturn, 1, 0, 0, 0, 0, 0) := (pg_188 56).trans rfl
theorem q_188_0 (d : Nat) (l0 : Nat) (x1 : Int32) (x2 : Int32) (μ : aMem) : Rn (d + 1) 188 (0, [.ref l0, .int x1, .int x2, un, un], [], μ) = (cI d 141 [.int x1] μ).bind fun p1 => if p1.1 = 0 then (some (some (.int (-1000000001)), p1.2)) else ((cI d 133 [.long ((x2 : Int32).toInt64), .long 1, .long 40] p1.2).bind fun p3 => if p3.1 = 0 then (some (some (.int (-1000000001)), p3.2)) else (Rn (d + 1) 188 (27, [.ref l0, .int x1, .int x2, .int 0, .int 0], [], p3.2))) :=
  (e_nx f_188_0 rfl).trans ((e_cI (L := [.ref l0, .int x1, .int x2, un, un]) (st := [.int x1]) (μ := μ) (L' := [.ref l0, .int x1, .int x2, un, un]) (st' := []) f_188_1 rfl rfl).trans (m_congr fun p1 => (e_eq f_188_4 rfl).trans (b_congr (fun h2 => (e_nx (q := (_, _, .int (-1000000001) :: _, _)) f_188_19 rfl).trans (e_rt f_188_21 rfl)) (fun h2 => (e_nx f_188_7 rfl).trans ((e_nx f_188_8 rfl).trans ((e_nx (q := (_, _, .long 1 :: _, _)) f_188_9 rfl).trans ((e_nx (q := (_, _, .long 40 :: _, _)) f_188_10 rfl).trans ((e_cI (L := [.ref l0, .int x1, .int x2, un, un]) (st := [.long 40, .long 1, .long ((x2 : Int32).toInt64)]) (μ := p1.2) (L' := [.ref l0, .int x1, .int x2, un, un]) (st' := []) f_188_13 rfl rfl).trans (m_congr fun p3 => (e_ne f_188_16 rfl).trans (b_congr (fun h4 => (e_nx (q := (_, _, .int (-1000000001) :: _, _)) f_188_19 rfl).trans (e_rt f_188_21 rfl)) (fun h4 => (e_nx (q := (_, _, .int 0 :: _, _)) f_188_22 rfl).trans ((e_nx (q := (_, [.ref l0, .int x1, .int x2, .int 0, un], _, _)) f_188_23 rfl).trans ((e_nx (q := (_, _, .int 0 :: _, _)) f_188_24 rfl).trans (e_nx (q := (_, [.ref l0, .int x1, .int x2, .int 0, .int 0], _, _)) f_188_25 rfl))))))))))))))
theorem q_188_27 (d : Nat) (l0 : Nat) (x1 : Int32) (x2 : Int32) (x3 : Int32) (x4 : Int32) (μ : aMem) : Rn (d + 1) 188 (27, [.ref l0, .int x1, .int x2, .int x3, .int x4], [], μ) = if x2 ≤ x4 then (some (some (.int x3), μ)) else (if (mS μ l0).1 = 9 ∧ l0 < 999999 then ((cI d 187 [.ref l0, .int x1] μ).bind fun p2 => if p2.1 = 0 then (Rn (d + 1) 188 (27, [.ref l0, .int x1, .int x2, .int (x3 + 0), .int (x4 + 1)], [], p2.2)) else (Rn (d + 1) 188 (27, [.ref l0, .int x1, .int x2, .int (x3 + 1), .int (x4 + 1)], [], p2.2))) else none) :=
  (e_nx f_188_27 rfl).trans ((e_nx f_188_29 rfl).trans ((e_ge f_188_30 rfl).trans (b_congr (fun h1 => (e_nx f_188_55 rfl).trans (e_rt f_188_56 rfl)) (fun h1 => (e_nx f_188_33 rfl).trans ((e_nx f_188_34 rfl).trans ((e_nx f_188_35 rfl).trans ((e_gI (L := [.ref l0, .int x1, .int x2, .int x3, .int x4]) (st := [.int x1, .ref l0, .int x3]) (μ := μ) (L' := [.ref l0, .int x1, .int x2, .int x3, .int x4]) (st' := [.int x3]) f_188_36 rfl rfl).trans (g_congr (v_c2 rfl (Nat.le_of_ble_eq_true rfl)) (fun h3 => m_congr fun p2 => (e_eq f_188_39 rfl).trans (b_congr (fun h4 => (e_nx (q := (_, _, .int 0 :: _, _)) f_188_46 rfl).trans ((e_nx f_188_47 rfl).trans ((e_nx (q := (_, [.ref l0, .int x1, .int x2, .int (x3 + 0), .int x4], _, _)) f_188_48 rfl).trans ((e_nx (q := (_, [.ref l0, .int x1, .int x2, .int (x3 + 0), .int (x4 + 1)], _, _)) f_188_49 rfl).trans (e_nx f_188_52 rfl))))) (fun h4 => (e_nx (q := (_, _, .int 1 :: _, _)) f_188_42 rfl).trans ((e_nx f_188_43 rfl).trans ((e_nx f_188_47 rfl).trans ((e_nx (q := (_, [.ref l0, .int x1, .int x2, .int (x3 + 1), .int x4], _, _)) f_188_48 rfl).trans ((e_nx (q := (_, [.ref l0, .int x1, .int x2, .int (x3 + 1), .int (x4 + 1)], _, _)) f_188_49 rfl).trans (e_nx f_188_52 rfl))))))))))))))))
theorem pg_189 (pc : Nat) : fe0 189 pc = lk prg_189 pc := rfl
theorem f_189_0 : fe0 189 0 = some (.iload_n 1, 1, 0, 0, 0, 0, 0) := (pg_189 0).trans rfl
theorem f_189_1 : fe0 189 1 = some (.i2l, 1, 0, 0, 0, 0, 0) := (pg_189 1).trans rfl
theorem f_189_2 : fe0 189 2 = some (.lconst 0, 1, 0, 0, 0, 0, 0) := (pg_189 2).trans rfl
theorem f_189_3 : fe0 189 3 = some (.ldc2_w 174, 3, 0, 0, 9999, 0, 6027) := (pg_189 3).trans rfl
theorem f_189_6 : fe0 189 6 = some (.invokestatic 84, 3, 133, 3, 2, 0, 5144) := (pg_189 6).trans rfl
theorem f_189_9 : fe0 189 9 = some (.ifCond .ne 6, 3, 0, 0, 0, 0, 0) := (pg_189 9).trans rfl
theorem f_189_12 : fe0 189 12 = some (.ldc 99, 2, 0, 0, 3294967295, 0, 5152) := (pg_189 12).trans rfl
theorem f_189_14 : fe0 189 14 = some (.ireturn, 1, 0, 0, 0, 0, 0) := (pg_189 14).trans rfl
theorem f_189_15 : fe0 189 15 = some (.aload_n 0, 1, 0, 0, 0, 0, 0) := (pg_189 15).trans rfl
theorem f_189_16 : fe0 189 16 = some (.invokevirtual 147, 3, 155, 0, 0, 9, 5214) := (pg_189 16).trans rfl
theorem f_189_19 : fe0 189 19 = some (.istore_n 2, 1, 0, 0, 0, 0, 0) := (pg_189 19).trans rfl
theorem f_189_20 : fe0 189 20 = some (.aload_n 0, 1, 0, 0, 0, 0, 0) := (pg_189 20).trans rfl
theorem f_189_21 : fe0 189 21 = some (.iconst 2, 1, 0, 0, 0, 0, 0) := (pg_189 21).trans rfl
theorem f_189_22 : fe0 189 22 = some (.invokevirtual 109, 3, 209, 1, 0, 9, 5174) := (pg_189 22).trans rfl
theorem f_189_25 : fe0 189 25 = some (.istore_n 3, 1, 0, 0, 0, 0, 0) := (pg_189 25).trans rfl
theorem f_189_26 : fe0 189 26 = some (.iload_n 3, 1, 0, 0, 0, 0, 0) := (pg_189 26).trans rfl
theorem f_189_27 : fe0 189 27 = some (.ifCond .ge 11, 3, 0, 0, 0, 0, 0) := (pg_189 27).trans rfl
theorem f_189_30 : fe0 189 30 = some (.iconst 0, 1, 0, 0, 0, 0, 0) := (pg_189 30).trans rfl
theorem f_189_31 : fe0 189 31 = some (.iload_n 2, 1, 0, 0, 0, 0, 0) := (pg_189 31).trans rfl
theorem f_189_32 : fe0 189 32 = some (.iload_n 1, 1, 0, 0, 0, 0, 0) := (pg_189 32).trans rfl
theorem f_189_33 : fe0 189 33 = some (.isub, 1, 0, 0, 0, 0, 0) := (pg_189 33).trans rfl
theorem f_189_34 : fe0 189 34 = some (.invokestatic 137, 3, 136, 2, 2, 0, 5230) := (pg_189 34).trans rfl
theorem f_189_37 : fe0 189 37 = some (.ireturn, 1, 0, 0, 0, 0, 0) := (pg_189 37).trans rfl
theorem f_189_38 : fe0 189 38 = some (.aload_n 0, 1, 0, 0, 0, 0, 0) := (pg_189 38).trans rfl
theorem f_189_39 : fe0 189 39 = some (.getfield 65, 3, 9, 31, 1, 0, 5055) := (pg_189 39).trans rfl
theorem f_189_42 : fe0 189 42 = some (.bipush 101, 2, 0, 0, 0, 0, 0) := (pg_189 42).trans rfl
theorem f_189_44 : fe0 189 44 = some (.iload_n 2, 1, 0, 0, 0, 0, 0) := (pg_189 44).trans rfl
theorem f_189_45 : fe0 189 45 = some (.iastore, 1, 0, 0, 0, 0, 0) := (pg_189 45).trans rfl
theorem f_189_46 : fe0 189 46 = some (.aload_n 0, 1, 0, 0, 0, 0, 0) := (pg_189 46).trans rfl
theorem f_189_47 : fe0 189 47 = some (.getfield 65, 3, 9, 31, 1, 0, 5055) := (pg_189 47).trans rfl
theorem f_189_50 : fe0 189 50 = some (.bipush 100, 2, 0, 0, 0, 0, 0) := (pg_189 50).trans rfl
theorem f_189_52 : fe0 189 52 = some (.iload_n 1, 1, 0, 0, 0, 0, 0) := (pg_189 52).trans rfl
theorem f_189_53 : fe0 189 53 = some (.iastore, 1, 0, 0, 0, 0, 0) := (pg_189 53).trans rfl
theorem f_189_54 : fe0 189 54 = some (.aload_n 0, 1, 0, 0, 0, 0, 0) := (pg_189 54).trans rfl
theorem f_189_55 : fe0 189 55 = some (.iload_n 3, 1, 0, 0, 0, 0, 0) := (pg_189 55).trans rfl
theorem f_189_56 : fe0 189 56 = some (.invokevirtual 116, 3, 212, 1, 0, 9, 5186) := (pg_189 56).trans rfl
theorem f_189_59 : fe0 189 59 = some (.ireturn, 1, 0, 0, 0, 0, 0) := (pg_189 59).trans rfl
theorem q_189_0 (d : Nat) (l0 : Nat) (x1 : Int32) (μ : aMem) : Rn (d + 1) 189 (0, [.ref l0, .int x1, un, un], [], μ) = (cI d 133 [.long ((x1 : Int32).toInt64), .long 0, .long 9999] μ).bind fun p1 => if p1.1 = 0 then (some (some (.int (-1000000001)), p1.2)) else (if (mS p1.2 l0).1 = 9 ∧ l0 < 999999 then ((cI d 155 [.ref l0] p1.2).bind fun p3 => if (mS p3.2 l0).1 = 9 ∧ l0 < 999999 then ((cI d 209 [.ref l0, .int 2] p3.2).bind fun p5 => if 0 ≤ p5.1 then (if (mS p5.2 l0).1 = 9 then (if (mS p5.2 (mR p5.2 l0 31)).1 = 10 ∧ inb 101 (mS p5.2 (mR p5.2 l0 31)).2 then (if (mS p5.2 (mR p5.2 l0 31)).1 = 10 ∧ inb 100 (mS p5.2 (mR p5.2 l0 31)).2 then (if (mS p5.2 l0).1 = 9 ∧ l0 < 999999 then ((cI d 212 [.ref l0, .int p5.1] (setF (setF p5.2 (mR p5.2 l0 31) (ix 101) p3.1) (mR p5.2 l0 31) (ix 100) x1)).bind fun p11 => some (some (.int p11.1), p11.2)) else none) else none) else none) else none) else ((cI d 136 [.int 0, .int (p3.1 - x1)] p5.2).bind fun p13 => some (some (.int p13.1), p13.2))) else none) else none) :=
  (e_nx f_189_0 rfl).trans ((e_nx f_189_1 rfl).trans ((e_nx (q := (_, _, .long 0 :: _, _)) f_189_2 rfl).trans ((e_nx (q := (_, _, .long 9999 :: _, _)) f_189_3 rfl).trans ((e_cI (L := [.ref l0, .int x1, un, un]) (st := [.long 9999, .long 0, .long ((x1 : Int32).toInt64)]) (μ := μ) (L' := [.ref l0, .int x1, un, un]) (st' := []) f_189_6 rfl rfl).trans (m_congr fun p1 => (e_ne f_189_9 rfl).trans (b_congr (fun h2 => (e_nx (q := (_, _, .int (-1000000001) :: _, _)) f_189_12 rfl).trans (e_rt f_189_14 rfl)) (fun h2 => (e_nx f_189_15 rfl).trans ((e_gI (L := [.ref l0, .int x1, un, un]) (st := [.ref l0]) (μ := p1.2) (L' := [.ref l0, .int x1, un, un]) (st' := []) f_189_16 rfl rfl).trans (g_congr (v_c2 rfl (Nat.le_of_ble_eq_true rfl)) (fun h4 => m_congr fun p3 => (e_nx (q := (_, [.ref l0, .int x1, .int p3.1, un], _, _)) f_189_19 rfl).trans ((e_nx f_189_20 rfl).trans ((e_nx (q := (_, _, .int 2 :: _, _)) f_189_21 rfl).trans ((e_gI (L := [.ref l0, .int x1, .int p3.1, un]) (st := [.int 2, .ref l0]) (μ := p3.2) (L' := [.ref l0, .int x1, .int p3.1, un]) (st' := []) f_189_22 rfl rfl).trans (g_congr (v_c2 rfl (Nat.le_of_ble_eq_true rfl)) (fun h6 => m_congr fun p5 => (e_nx (q := (_, [.ref l0, .int x1, .int p3.1, .int p5.1], _, _)) f_189_25 rfl).trans ((e_nx f_189_26 rfl).trans ((e_ge f_189_27 rfl).trans (b_congr (fun h7 => (e_nx f_189_38 rfl).trans ((e_gd f_189_39 rfl).trans (g_congr (Iff.rfl) (fun h8 => (e_nx (q := (_, _, .int 101 :: _, _)) f_189_42 rfl).trans ((e_nx f_189_44 rfl).trans ((e_gd f_189_45 rfl).trans (g_congr (Iff.rfl) (fun h9 => (e_nx f_189_46 rfl).trans ((e_gk f_189_47 (h8) rfl).trans ((e_nx (q := (_, _, .int 100 :: _, _)) f_189_50 rfl).trans ((e_nx f_189_52 rfl).trans ((e_gd f_189_53 rfl).trans (g_congr (Iff.rfl) (fun h10 => (e_nx f_189_54 rfl).trans ((e_nx f_189_55 rfl).trans ((e_gI (L := [.ref l0, .int x1, .int p3.1, .int p5.1]) (st := [.int p5.1, .ref l0]) (μ := setF (setF p5.2 (mR p5.2 l0 31) (ix 101) p3.1) (mR p5.2 l0 31) (ix 100) x1) (L' := [.ref l0, .int x1, .int p3.1, .int p5.1]) (st' := []) f_189_56 rfl rfl).trans (g_congr (v_c2 rfl (Nat.le_of_ble_eq_true rfl)) (fun h12 => m_congr fun p11 => e_rt f_189_59 rfl)))))))))))))))))) (fun h7 => (e_nx (q := (_, _, .int 0 :: _, _)) f_189_30 rfl).trans ((e_nx f_189_31 rfl).trans ((e_nx f_189_32 rfl).trans ((e_nx f_189_33 rfl).trans ((e_cI (L := [.ref l0, .int x1, .int p3.1, .int p5.1]) (st := [.int (p3.1 - x1), .int 0]) (μ := p5.2) (L' := [.ref l0, .int x1, .int p3.1, .int p5.1]) (st' := []) f_189_34 rfl rfl).trans (m_congr fun p13 => e_rt f_189_37 rfl))))))))))))))))))))))))
theorem pg_190 (pc : Nat) : fe0 190 pc = lk prg_190 pc := rfl
theorem f_190_0 : fe0 190 0 = some (.aload_n 0, 1, 0, 0, 0, 0, 0) := (pg_190 0).trans rfl
theorem f_190_1 : fe0 190 1 = some (.getfield 234, 3, 9, 20, 0, 0, 5044) := (pg_190 1).trans rfl
theorem f_190_4 : fe0 190 4 = some (.bipush 12, 2, 0, 0, 0, 0, 0) := (pg_190 4).trans rfl
theorem f_190_6 : fe0 190 6 = some (.iadd, 1, 0, 0, 0, 0, 0) := (pg_190 6).trans rfl
theorem f_190_7 : fe0 190 7 = some (.bipush 96, 2, 0, 0, 0, 0, 0) := (pg_190 7).trans rfl
theorem f_190_9 : fe0 190 9 = some (.if_icmp .le 6, 3, 0, 0, 0, 0, 0) := (pg_190 9).trans rfl
theorem f_190_12 : fe0 190 12 = some (.ldc 100, 2, 0, 0, 3294967293, 0, 5153) := (pg_190 12).trans rfl
theorem f_190_14 : fe0 190 14 = some (.ireturn, 1, 0, 0, 0, 0, 0) := (pg_190 14).trans rfl
theorem f_190_15 : fe0 190 15 = some (.iconst 0, 1, 0, 0, 0, 0, 0) := (pg_190 15).trans rfl
theorem f_190_16 : fe0 190 16 = some (.istore 4, 2, 0, 0, 0, 0, 0) := (pg_190 16).trans rfl
theorem f_190_18 : fe0 190 18 = some (.iload 4, 2, 0, 0, 0, 0, 0) := (pg_190 18).trans rfl
theorem f_190_20 : fe0 190 20 = some (.bipush 12, 2, 0, 0, 0, 0, 0) := (pg_190 20).trans rfl
theorem f_190_22 : fe0 190 22 = some (.if_icmp .ge 69, 3, 0, 0, 0, 0, 0) := (pg_190 22).trans rfl
theorem f_190_25 : fe0 190 25 = some (.iload 4, 2, 0, 0, 0, 0, 0) := (pg_190 25).trans rfl
theorem f_190_27 : fe0 190 27 = some (.iconst 4, 1, 0, 0, 0, 0, 0) := (pg_190 27).trans rfl
theorem f_190_28 : fe0 190 28 = some (.if_icmp .ge 7, 3, 0, 0, 0, 0, 0) := (pg_190 28).trans rfl
theorem f_190_31 : fe0 190 31 = some (.iload_n 1, 1, 0, 0, 0, 0, 0) := (pg_190 31).trans rfl
theorem f_190_32 : fe0 190 32 = some (.goto 15, 3, 0, 0, 0, 0, 0) := (pg_190 32).trans rfl
theorem f_190_35 : fe0 190 35 = some (.iload 4, 2, 0, 0, 0, 0, 0) := (pg_190 35).trans rfl
theorem f_190_37 : fe0 190 37 = some (.bipush 8, 2, 0, 0, 0, 0, 0) := (pg_190 37).trans rfl
theorem f_190_39 : fe0 190 39 = some (.if_icmp .ge 7, 3, 0, 0, 0, 0, 0) := (pg_190 39).trans rfl
theorem f_190_42 : fe0 190 42 = some (.iload_n 2, 1, 0, 0, 0, 0, 0) := (pg_190 42).trans rfl
theorem f_190_43 : fe0 190 43 = some (.goto 4, 3, 0, 0, 0, 0, 0) := (pg_190 43).trans rfl
theorem f_190_46 : fe0 190 46 = some (.iload_n 3, 1, 0, 0, 0, 0, 0) := (pg_190 46).trans rfl
theorem f_190_47 : fe0 190 47 = some (.istore 5, 2, 0, 0, 0, 0, 0) := (pg_190 47).trans rfl
theorem f_190_49 : fe0 190 49 = some (.aload_n 0, 1, 0, 0, 0, 0, 0) := (pg_190 49).trans rfl
theorem f_190_50 : fe0 190 50 = some (.getfield 62, 3, 9, 19, 1, 0, 5043) := (pg_190 50).trans rfl
theorem f_190_53 : fe0 190 53 = some (.aload_n 0, 1, 0, 0, 0, 0, 0) := (pg_190 53).trans rfl
theorem f_190_54 : fe0 190 54 = some (.getfield 234, 3, 9, 20, 0, 0, 5044) := (pg_190 54).trans rfl
theorem f_190_57 : fe0 190 57 = some (.iload 5, 2, 0, 0, 0, 0, 0) := (pg_190 57).trans rfl
theorem f_190_59 : fe0 190 59 = some (.bipush 24, 2, 0, 0, 0, 0, 0) := (pg_190 59).trans rfl
theorem f_190_61 : fe0 190 61 = some (.bipush 8, 2, 0, 0, 0, 0, 0) := (pg_190 61).trans rfl
theorem f_190_63 : fe0 190 63 = some (.iload 4, 2, 0, 0, 0, 0, 0) := (pg_190 63).trans rfl
theorem f_190_65 : fe0 190 65 = some (.iconst 4, 1, 0, 0, 0, 0, 0) := (pg_190 65).trans rfl
theorem f_190_66 : fe0 190 66 = some (.irem, 1, 0, 0, 0, 0, 0) := (pg_190 66).trans rfl
theorem f_190_67 : fe0 190 67 = some (.imul, 1, 0, 0, 0, 0, 0) := (pg_190 67).trans rfl
theorem f_190_68 : fe0 190 68 = some (.isub, 1, 0, 0, 0, 0, 0) := (pg_190 68).trans rfl
theorem f_190_69 : fe0 190 69 = some (.ishr, 1, 0, 0, 0, 0, 0) := (pg_190 69).trans rfl
theorem f_190_70 : fe0 190 70 = some (.sipush 255, 3, 0, 0, 0, 0, 0) := (pg_190 70).trans rfl
theorem f_190_73 : fe0 190 73 = some (.iand, 1, 0, 0, 0, 0, 0) := (pg_190 73).trans rfl
theorem f_190_74 : fe0 190 74 = some (.iastore, 1, 0, 0, 0, 0, 0) := (pg_190 74).trans rfl
theorem f_190_75 : fe0 190 75 = some (.aload_n 0, 1, 0, 0, 0, 0, 0) := (pg_190 75).trans rfl
theorem f_190_76 : fe0 190 76 = some (.dup, 1, 0, 0, 0, 0, 0) := (pg_190 76).trans rfl
theorem f_190_77 : fe0 190 77 = some (.getfield 234, 3, 9, 20, 0, 0, 5044) := (pg_190 77).trans rfl
theorem f_190_80 : fe0 190 80 = some (.iconst 1, 1, 0, 0, 0, 0, 0) := (pg_190 80).trans rfl
theorem f_190_81 : fe0 190 81 = some (.iadd, 1, 0, 0, 0, 0, 0) := (pg_190 81).trans rfl
theorem f_190_82 : fe0 190 82 = some (.putfield 234, 3, 9, 20, 0, 0, 5044) := (pg_190 82).trans rfl
theorem f_190_85 : fe0 190 85 = some (.iinc 4 1, 3, 0, 0, 0, 0, 0) := (pg_190 85).trans rfl
theorem f_190_88 : fe0 190 88 = some (.goto (-70), 3, 0, 0, 0, 0, 0) := (pg_190 88).trans rfl
theorem f_190_91 : fe0 190 91 = some (.aload_n 0, 1, 0, 0, 0, 0, 0) := (pg_190 91).trans rfl
theorem f_190_92 : fe0 190 92 = some (.getfield 234, 3, 9, 20, 0, 0, 5044) := (pg_190 92).trans rfl
theorem f_190_95 : fe0 190 95 = some (.ireturn, 1, 0, 0, 0, 0, 0) := (pg_190 95).trans rfl
theorem q_190_0 (d : Nat) (l0 : Nat) (x1 : Int32) (x2 : Int32) (x3 : Int32) (μ : aMem) : Rn d 190 (0, [.ref l0, .int x1, .int x2, .int x3, un, un], [], μ) = if (mS μ l0).1 = 9 then (if ((mF μ l0 20) + 12) ≤ 96 then (Rn d 190 (18, [.ref l0, .int x1, .int x2, .int x3, .int 0, un], [], μ)) else (some (some (.int (-1000000003)), μ))) else none :=
  (e_nx f_190_0 rfl).trans ((e_gd f_190_1 rfl).trans (g_congr (Iff.rfl) (fun h1 => (e_nx (q := (_, _, .int 12 :: _, _)) f_190_4 rfl).trans ((e_nx f_190_6 rfl).trans ((e_nx (q := (_, _, .int 96 :: _, _)) f_190_7 rfl).trans ((e_le f_190_9 rfl).trans (b_congr (fun h2 => (e_nx (q := (_, _, .int 0 :: _, _)) f_190_15 rfl).trans (e_nx (q := (_, [.ref l0, .int x1, .int x2, .int x3, .int 0, un], _, _)) f_190_16 rfl)) (fun h2 => (e_nx (q := (_, _, .int (-1000000003) :: _, _)) f_190_12 rfl).trans (e_rt f_190_14 rfl)))))))))
theorem q_190_18 (d : Nat) (l0 : Nat) (x1 : Int32) (x2 : Int32) (x3 : Int32) (x4 : Int32) (w5 : Value) (μ : aMem) : Rn d 190 (18, [.ref l0, .int x1, .int x2, .int x3, .int x4, w5], [], μ) = if 12 ≤ x4 then (if (mS μ l0).1 = 9 then (some (some (.int (mF μ l0 20)), μ)) else none) else (if 4 ≤ x4 then (if 8 ≤ x4 then (if (mS μ l0).1 = 9 then (if (mS μ (mR μ l0 19)).1 = 10 ∧ inb (mF μ l0 20) (mS μ (mR μ l0 19)).2 then (Rn d 190 (18, [.ref l0, .int x1, .int x2, .int x3, .int (x4 + 1), .int x3], [], setF (setF μ (mR μ l0 19) (ix (mF μ l0 20)) ((x3 >>> ((24 - (8 * (x4 - x4 / 4 * 4))) &&& 31)) &&& 255)) l0 20 ((mF (setF μ (mR μ l0 19) (ix (mF μ l0 20)) ((x3 >>> ((24 - (8 * (x4 - x4 / 4 * 4))) &&& 31)) &&& 255)) l0 20) + 1))) else none) else none) else (if (mS μ l0).1 = 9 then (if (mS μ (mR μ l0 19)).1 = 10 ∧ inb (mF μ l0 20) (mS μ (mR μ l0 19)).2 then (Rn d 190 (18, [.ref l0, .int x1, .int x2, .int x3, .int (x4 + 1), .int x2], [], setF (setF μ (mR μ l0 19) (ix (mF μ l0 20)) ((x2 >>> ((24 - (8 * (x4 - x4 / 4 * 4))) &&& 31)) &&& 255)) l0 20 ((mF (setF μ (mR μ l0 19) (ix (mF μ l0 20)) ((x2 >>> ((24 - (8 * (x4 - x4 / 4 * 4))) &&& 31)) &&& 255)) l0 20) + 1))) else none) else none)) else (if (mS μ l0).1 = 9 then (if (mS μ (mR μ l0 19)).1 = 10 ∧ inb (mF μ l0 20) (mS μ (mR μ l0 19)).2 then (Rn d 190 (18, [.ref l0, .int x1, .int x2, .int x3, .int (x4 + 1), .int x1], [], setF (setF μ (mR μ l0 19) (ix (mF μ l0 20)) ((x1 >>> ((24 - (8 * (x4 - x4 / 4 * 4))) &&& 31)) &&& 255)) l0 20 ((mF (setF μ (mR μ l0 19) (ix (mF μ l0 20)) ((x1 >>> ((24 - (8 * (x4 - x4 / 4 * 4))) &&& 31)) &&& 255)) l0 20) + 1))) else none) else none)) :=
  (e_nx f_190_18 rfl).trans ((e_nx (q := (_, _, .int 12 :: _, _)) f_190_20 rfl).trans ((e_ge f_190_22 rfl).trans (b_congr (fun h1 => (e_nx f_190_91 rfl).trans ((e_gd f_190_92 rfl).trans (g_congr (Iff.rfl) (fun h2 => e_rt f_190_95 rfl)))) (fun h1 => (e_nx f_190_25 rfl).trans ((e_nx (q := (_, _, .int 4 :: _, _)) f_190_27 rfl).trans ((e_ge f_190_28 rfl).trans (b_congr (fun h3 => (e_nx f_190_35 rfl).trans ((e_nx (q := (_, _, .int 8 :: _, _)) f_190_37 rfl).trans ((e_ge f_190_39 rfl).trans (b_congr (fun h4 => (e_nx f_190_46 rfl).trans ((e_nx (q := (_, [.ref l0, .int x1, .int x2, .int x3, .int x4, .int x3], _, _)) f_190_47 rfl).trans ((e_nx f_190_49 rfl).trans ((e_gd f_190_50 rfl).trans (g_congr (Iff.rfl) (fun h5 => (e_nx f_190_53 rfl).trans ((e_gk f_190_54 (h5) rfl).trans ((e_nx f_190_57 rfl).trans ((e_nx (q := (_, _, .int 24 :: _, _)) f_190_59 rfl).trans ((e_nx (q := (_, _, .int 8 :: _, _)) f_190_61 rfl).trans ((e_nx f_190_63 rfl).trans ((e_nx (q := (_, _, .int 4 :: _, _)) f_190_65 rfl).trans ((e_nx f_190_66 rfl).trans ((e_nx f_190_67 rfl).trans ((e_nx f_190_68 rfl).trans ((e_nx f_190_69 rfl).trans ((e_nx (q := (_, _, .int 255 :: _, _)) f_190_70 rfl).trans ((e_nx f_190_73 rfl).trans ((e_gd f_190_74 rfl).trans (g_congr (Iff.rfl) (fun h6 => (e_nx f_190_75 rfl).trans ((e_nx f_190_76 rfl).trans ((e_gk f_190_77 (h5) rfl).trans ((e_nx (q := (_, _, .int 1 :: _, _)) f_190_80 rfl).trans ((e_nx f_190_81 rfl).trans ((e_gk (L := [.ref l0, .int x1, .int x2, .int x3, .int x4, .int x3]) (st := [.int ((mF (setF μ (mR μ l0 19) (ix (mF μ l0 20)) ((x3 >>> ((24 - (8 * (x4 - x4 / 4 * 4))) &&& 31)) &&& 255)) l0 20) + 1), .ref l0]) (μ := setF μ (mR μ l0 19) (ix (mF μ l0 20)) ((x3 >>> ((24 - (8 * (x4 - x4 / 4 * 4))) &&& 31)) &&& 255)) f_190_82 ((pi_iff rfl).mpr h5) rfl).trans ((e_nx (q := (_, [.ref l0, .int x1, .int x2, .int x3, .int (x4 + 1), .int x3], _, _)) f_190_85 rfl).trans (e_nx f_190_88 rfl)))))))))))))))))))))))))))) (fun h4 => (e_nx f_190_42 rfl).trans ((e_nx f_190_43 rfl).trans ((e_nx (q := (_, [.ref l0, .int x1, .int x2, .int x3, .int x4, .int x2], _, _)) f_190_47 rfl).trans ((e_nx f_190_49 rfl).trans ((e_gd f_190_50 rfl).trans (g_congr (Iff.rfl) (fun h7 => (e_nx f_190_53 rfl).trans ((e_gk f_190_54 (h7) rfl).trans ((e_nx f_190_57 rfl).trans ((e_nx (q := (_, _, .int 24 :: _, _)) f_190_59 rfl).trans ((e_nx (q := (_, _, .int 8 :: _, _)) f_190_61 rfl).trans ((e_nx f_190_63 rfl).trans ((e_nx (q := (_, _, .int 4 :: _, _)) f_190_65 rfl).trans ((e_nx f_190_66 rfl).trans ((e_nx f_190_67 rfl).trans ((e_nx f_190_68 rfl).trans ((e_nx f_190_69 rfl).trans ((e_nx (q := (_, _, .int 255 :: _, _)) f_190_70 rfl).trans ((e_nx f_190_73 rfl).trans ((e_gd f_190_74 rfl).trans (g_congr (Iff.rfl) (fun h8 => (e_nx f_190_75 rfl).trans ((e_nx f_190_76 rfl).trans ((e_gk f_190_77 (h7) rfl).trans ((e_nx (q := (_, _, .int 1 :: _, _)) f_190_80 rfl).trans ((e_nx f_190_81 rfl).trans ((e_gk (L := [.ref l0, .int x1, .int x2, .int x3, .int x4, .int x2]) (st := [.int ((mF (setF μ (mR μ l0 19) (ix (mF μ l0 20)) ((x2 >>> ((24 - (8 * (x4 - x4 / 4 * 4))) &&& 31)) &&& 255)) l0 20) + 1), .ref l0]) (μ := setF μ (mR μ l0 19) (ix (mF μ l0 20)) ((x2 >>> ((24 - (8 * (x4 - x4 / 4 * 4))) &&& 31)) &&& 255)) f_190_82 ((pi_iff rfl).mpr h7) rfl).trans ((e_nx (q := (_, [.ref l0, .int x1, .int x2, .int x3, .int (x4 + 1), .int x2], _, _)) f_190_85 rfl).trans (e_nx f_190_88 rfl))))))))))))))))))))))))))))))))) (fun h3 => (e_nx f_190_31 rfl).trans ((e_nx f_190_32 rfl).trans ((e_nx (q := (_, [.ref l0, .int x1, .int x2, .int x3, .int x4, .int x1], _, _)) f_190_47 rfl).trans ((e_nx f_190_49 rfl).trans ((e_gd f_190_50 rfl).trans (g_congr (Iff.rfl) (fun h9 => (e_nx f_190_53 rfl).trans ((e_gk f_190_54 (h9) rfl).trans ((e_nx f_190_57 rfl).trans ((e_nx (q := (_, _, .int 24 :: _, _)) f_190_59 rfl).trans ((e_nx (q := (_, _, .int 8 :: _, _)) f_190_61 rfl).trans ((e_nx f_190_63 rfl).trans ((e_nx (q := (_, _, .int 4 :: _, _)) f_190_65 rfl).trans ((e_nx f_190_66 rfl).trans ((e_nx f_190_67 rfl).trans ((e_nx f_190_68 rfl).trans ((e_nx f_190_69 rfl).trans ((e_nx (q := (_, _, .int 255 :: _, _)) f_190_70 rfl).trans ((e_nx f_190_73 rfl).trans ((e_gd f_190_74 rfl).trans (g_congr (Iff.rfl) (fun h10 => (e_nx f_190_75 rfl).trans ((e_nx f_190_76 rfl).trans ((e_gk f_190_77 (h9) rfl).trans ((e_nx (q := (_, _, .int 1 :: _, _)) f_190_80 rfl).trans ((e_nx f_190_81 rfl).trans ((e_gk (L := [.ref l0, .int x1, .int x2, .int x3, .int x4, .int x1]) (st := [.int ((mF (setF μ (mR μ l0 19) (ix (mF μ l0 20)) ((x1 >>> ((24 - (8 * (x4 - x4 / 4 * 4))) &&& 31)) &&& 255)) l0 20) + 1), .ref l0]) (μ := setF μ (mR μ l0 19) (ix (mF μ l0 20)) ((x1 >>> ((24 - (8 * (x4 - x4 / 4 * 4))) &&& 31)) &&& 255)) f_190_82 ((pi_iff rfl).mpr h9) rfl).trans ((e_nx (q := (_, [.ref l0, .int x1, .int x2, .int x3, .int (x4 + 1), .int x1], _, _)) f_190_85 rfl).trans (e_nx f_190_88 rfl))))))))))))))))))))))))))))))))))))
theorem pg_191 (pc : Nat) : fe0 191 pc = lk prg_191 pc := rfl
theorem f_191_0 : fe0 191 0 = some (.iload_n 1, 1, 0, 0, 0, 0, 0) := (pg_191 0).trans rfl
theorem f_191_1 : fe0 191 1 = some (.i2l, 1, 0, 0, 0, 0, 0) := (pg_191 1).trans rfl
theorem f_191_2 : fe0 191 2 = some (.lconst 0, 1, 0, 0, 0, 0, 0) := (pg_191 2).trans rfl
theorem f_191_3 : fe0 191 3 = some (.aload_n 0, 1, 0, 0, 0, 0, 0) := (pg_191 3).trans rfl
theorem f_191_4 : fe0 191 4 = some (.getfield 234, 3, 9, 20, 0, 0, 5044) := (pg_191 4).trans rfl
theorem f_191_7 : fe0 191 7 = some (.i2l, 1, 0, 0, 0, 0, 0) := (pg_191 7).trans rfl
theorem f_191_8 : fe0 191 8 = some (.invokestatic 84, 3, 133, 3, 2, 0, 5144) := (pg_191 8).trans rfl
theorem f_191_11 : fe0 191 11 = some (.ifCond .ne 6, 3, 0, 0, 0, 0, 0) := (pg_191 11).trans rfl
theorem f_191_14 : fe0 191 14 = some (.ldc 99, 2, 0, 0, 3294967295, 0, 5152) := (pg_191 14).trans rfl
theorem f_191_16 : fe0 191 16 = some (.ireturn, 1, 0, 0, 0, 0, 0) := (pg_191 16).trans rfl
theorem f_191_17 : fe0 191 17 = some (.aload_n 0, 1, 0, 0, 0, 0, 0) := (pg_191 17).trans rfl
theorem f_191_18 : fe0 191 18 = some (.iload_n 1, 1, 0, 0, 0, 0, 0) := (pg_191 18).trans rfl
theorem f_191_19 : fe0 191 19 = some (.putfield 234, 3, 9, 20, 0, 0, 5044) := (pg_191 19).trans rfl
theorem f_191_22 : fe0 191 22 = some (.iload_n 1, 1, 0, 0, 0, 0, 0) := (pg_191 22).trans rfl
theorem f_191_23 : fe0 191 23 = some (.ireturn, 1, 0, 0, 0, 0, 0) := (pg_191 23).trans rfl
theorem q_191_0 (d : Nat) (l0 : Nat) (x1 : Int32) (μ : aMem) : Rn (d + 1) 191 (0, [.ref l0, .int x1], [], μ) = if (mS μ l0).1 = 9 then ((cI d 133 [.long ((x1 : Int32).toInt64), .long 0, .long ((mF μ l0 20 : Int32).toInt64)] μ).bind fun p2 => if p2.1 = 0 then (some (some (.int (-1000000001)), p2.2)) else (if (mS p2.2 l0).1 = 9 then (some (some (.int x1), setF p2.2 l0 20 x1)) else none)) else none :=
  (e_nx f_191_0 rfl).trans ((e_nx f_191_1 rfl).trans ((e_nx (q := (_, _, .long 0 :: _, _)) f_191_2 rfl).trans ((e_nx f_191_3 rfl).trans ((e_gd f_191_4 rfl).trans (g_congr (Iff.rfl) (fun h1 => (e_nx f_191_7 rfl).trans ((e_cI (L := [.ref l0, .int x1]) (st := [.long ((mF μ l0 20 : Int32).toInt64), .long 0, .long ((x1 : Int32).toInt64)]) (μ := μ) (L' := [.ref l0, .int x1]) (st' := []) f_191_8 rfl rfl).trans (m_congr fun p2 => (e_ne f_191_11 rfl).trans (b_congr (fun h3 => (e_nx (q := (_, _, .int (-1000000001) :: _, _)) f_191_14 rfl).trans (e_rt f_191_16 rfl)) (fun h3 => (e_nx f_191_17 rfl).trans ((e_nx f_191_18 rfl).trans ((e_gd (L := [.ref l0, .int x1]) (st := [.int x1, .ref l0]) (μ := p2.2) f_191_19 rfl).trans (g_congr (pi_iff rfl) (fun h4 => (e_nx f_191_22 rfl).trans (e_rt f_191_23 rfl)))))))))))))))
theorem pg_192 (pc : Nat) : fe0 192 pc = lk prg_192 pc := rfl
theorem f_192_0 : fe0 192 0 = some (.iload_n 1, 1, 0, 0, 0, 0, 0) := (pg_192 0).trans rfl
theorem f_192_1 : fe0 192 1 = some (.aload_n 0, 1, 0, 0, 0, 0, 0) := (pg_192 1).trans rfl
theorem f_192_2 : fe0 192 2 = some (.getfield 234, 3, 9, 20, 0, 0, 5044) := (pg_192 2).trans rfl
theorem f_192_5 : fe0 192 5 = some (.if_icmp .ge 26, 3, 0, 0, 0, 0, 0) := (pg_192 5).trans rfl
theorem f_192_8 : fe0 192 8 = some (.aload_n 0, 1, 0, 0, 0, 0, 0) := (pg_192 8).trans rfl
theorem f_192_9 : fe0 192 9 = some (.getfield 62, 3, 9, 19, 1, 0, 5043) := (pg_192 9).trans rfl
theorem f_192_12 : fe0 192 12 = some (.iload_n 1, 1, 0, 0, 0, 0, 0) := (pg_192 12).trans rfl
theorem f_192_13 : fe0 192 13 = some (.iaload, 1, 0, 0, 0, 0, 0) := (pg_192 13).trans rfl
theorem f_192_14 : fe0 192 14 = some (.i2l, 1, 0, 0, 0, 0, 0) := (pg_192 14).trans rfl
theorem f_192_15 : fe0 192 15 = some (.ldc2_w 237, 3, 0, 0, 97, 0, 6163) := (pg_192 15).trans rfl
theorem f_192_18 : fe0 192 18 = some (.ldc2_w 239, 3, 0, 0, 122, 0, 6164) := (pg_192 18).trans rfl
theorem f_192_21 : fe0 192 21 = some (.invokestatic 84, 3, 133, 3, 2, 0, 5144) := (pg_192 21).trans rfl
theorem f_192_24 : fe0 192 24 = some (.ifCond .eq 7, 3, 0, 0, 0, 0, 0) := (pg_192 24).trans rfl
theorem f_192_27 : fe0 192 27 = some (.iconst 1, 1, 0, 0, 0, 0, 0) := (pg_192 27).trans rfl
theorem f_192_28 : fe0 192 28 = some (.goto 4, 3, 0, 0, 0, 0, 0) := (pg_192 28).trans rfl
theorem f_192_31 : fe0 192 31 = some (.iconst 0, 1, 0, 0, 0, 0, 0) := (pg_192 31).trans rfl
theorem f_192_32 : fe0 192 32 = some (.ireturn, 1, 1, 0, 0, 0, 0) := (pg_192 32).trans rfl
theorem q_192_0 (d : Nat) (l0 : Nat) (x1 : Int32) (μ : aMem) : Rn (d + 1) 192 (0, [.ref l0, .int x1], [], μ) = if (mS μ l0).1 = 9 then (if (mF μ l0 20) ≤ x1 then (some (some (.int 0), μ)) else ((rdI μ (mR μ l0 19) x1).bind fun v3 => (cI d 133 [.long ((v3 : Int32).toInt64), .long 97, .long 122] μ).bind fun p4 => if p4.1 = 0 then (some (some (.int 0), p4.2)) else (some (some (.int 1), p4.2)))) else none :=
  (e_nx f_192_0 rfl).trans ((e_nx f_192_1 rfl).trans ((e_gd f_192_2 rfl).trans (g_congr (Iff.rfl) (fun h1 => (e_ge f_192_5 rfl).trans (b_congr (fun h2 => (e_nx (q := (_, _, .int 0 :: _, _)) f_192_31 rfl).trans (e_rt f_192_32 rfl)) (fun h2 => (e_nx f_192_8 rfl).trans ((e_gk f_192_9 (h1) rfl).trans ((e_nx f_192_12 rfl).trans ((e_ia (L := [.ref l0, .int x1]) (r := []) (μ := μ) f_192_13).trans (m_congr fun v3 => (e_nx f_192_14 rfl).trans ((e_nx (q := (_, _, .long 97 :: _, _)) f_192_15 rfl).trans ((e_nx (q := (_, _, .long 122 :: _, _)) f_192_18 rfl).trans ((e_cI (L := [.ref l0, .int x1]) (st := [.long 122, .long 97, .long ((v3 : Int32).toInt64)]) (μ := μ) (L' := [.ref l0, .int x1]) (st' := []) f_192_21 rfl rfl).trans (m_congr fun p4 => (e_eq f_192_24 rfl).trans (b_congr (fun h5 => (e_nx (q := (_, _, .int 0 :: _, _)) f_192_31 rfl).trans (e_rt f_192_32 rfl)) (fun h5 => (e_nx (q := (_, _, .int 1 :: _, _)) f_192_27 rfl).trans ((e_nx f_192_28 rfl).trans (e_rt f_192_32 rfl))))))))))))))))))
theorem pg_193 (pc : Nat) : fe0 193 pc = lk prg_193 pc := rfl
theorem f_193_0 : fe0 193 0 = some (.iload_n 1, 1, 0, 0, 0, 0, 0) := (pg_193 0).trans rfl
theorem f_193_1 : fe0 193 1 = some (.aload_n 0, 1, 0, 0, 0, 0, 0) := (pg_193 1).trans rfl
theorem f_193_2 : fe0 193 2 = some (.getfield 234, 3, 9, 20, 0, 0, 5044) := (pg_193 2).trans rfl
theorem f_193_5 : fe0 193 5 = some (.if_icmp .ge 26, 3, 0, 0, 0, 0, 0) := (pg_193 5).trans rfl
theorem f_193_8 : fe0 193 8 = some (.aload_n 0, 1, 0, 0, 0, 0, 0) := (pg_193 8).trans rfl
theorem f_193_9 : fe0 193 9 = some (.getfield 62, 3, 9, 19, 1, 0, 5043) := (pg_193 9).trans rfl
theorem f_193_12 : fe0 193 12 = some (.iload_n 1, 1, 0, 0, 0, 0, 0) := (pg_193 12).trans rfl
theorem f_193_13 : fe0 193 13 = some (.iaload, 1, 0, 0, 0, 0, 0) := (pg_193 13).trans rfl
theorem f_193_14 : fe0 193 14 = some (.i2l, 1, 0, 0, 0, 0, 0) := (pg_193 14).trans rfl
theorem f_193_15 : fe0 193 15 = some (.ldc2_w 241, 3, 0, 0, 48, 0, 6169) := (pg_193 15).trans rfl
theorem f_193_18 : fe0 193 18 = some (.ldc2_w 243, 3, 0, 0, 57, 0, 6170) := (pg_193 18).trans rfl
theorem f_193_21 : fe0 193 21 = some (.invokestatic 84, 3, 133, 3, 2, 0, 5144) := (pg_193 21).trans rfl
theorem f_193_24 : fe0 193 24 = some (.ifCond .eq 7, 3, 0, 0, 0, 0, 0) := (pg_193 24).trans rfl
theorem f_193_27 : fe0 193 27 = some (.iconst 1, 1, 0, 0, 0, 0, 0) := (pg_193 27).trans rfl
theorem f_193_28 : fe0 193 28 = some (.goto 4, 3, 0, 0, 0, 0, 0) := (pg_193 28).trans rfl
theorem f_193_31 : fe0 193 31 = some (.iconst 0, 1, 0, 0, 0, 0, 0) := (pg_193 31).trans rfl
theorem f_193_32 : fe0 193 32 = some (.ireturn, 1, 1, 0, 0, 0, 0) := (pg_193 32).trans rfl
theorem q_193_0 (d : Nat) (l0 : Nat) (x1 : Int32) (μ : aMem) : Rn (d + 1) 193 (0, [.ref l0, .int x1], [], μ) = if (mS μ l0).1 = 9 then (if (mF μ l0 20) ≤ x1 then (some (some (.int 0), μ)) else ((rdI μ (mR μ l0 19) x1).bind fun v3 => (cI d 133 [.long ((v3 : Int32).toInt64), .long 48, .long 57] μ).bind fun p4 => if p4.1 = 0 then (some (some (.int 0), p4.2)) else (some (some (.int 1), p4.2)))) else none :=
  (e_nx f_193_0 rfl).trans ((e_nx f_193_1 rfl).trans ((e_gd f_193_2 rfl).trans (g_congr (Iff.rfl) (fun h1 => (e_ge f_193_5 rfl).trans (b_congr (fun h2 => (e_nx (q := (_, _, .int 0 :: _, _)) f_193_31 rfl).trans (e_rt f_193_32 rfl)) (fun h2 => (e_nx f_193_8 rfl).trans ((e_gk f_193_9 (h1) rfl).trans ((e_nx f_193_12 rfl).trans ((e_ia (L := [.ref l0, .int x1]) (r := []) (μ := μ) f_193_13).trans (m_congr fun v3 => (e_nx f_193_14 rfl).trans ((e_nx (q := (_, _, .long 48 :: _, _)) f_193_15 rfl).trans ((e_nx (q := (_, _, .long 57 :: _, _)) f_193_18 rfl).trans ((e_cI (L := [.ref l0, .int x1]) (st := [.long 57, .long 48, .long ((v3 : Int32).toInt64)]) (μ := μ) (L' := [.ref l0, .int x1]) (st' := []) f_193_21 rfl rfl).trans (m_congr fun p4 => (e_eq f_193_24 rfl).trans (b_congr (fun h5 => (e_nx (q := (_, _, .int 0 :: _, _)) f_193_31 rfl).trans (e_rt f_193_32 rfl)) (fun h5 => (e_nx (q := (_, _, .int 1 :: _, _)) f_193_27 rfl).trans ((e_nx f_193_28 rfl).trans (e_rt f_193_32 rfl))))))))))))))))))
theorem kb_194_0 : prg_194_0.all (fun q => decide (q.1 < 193)) = true := by decide +kernel
theorem kb_194_1 : prg_194_1.all (fun q => decide (q.1 < 340)) = true := by decide +kernel
theorem kc_194_0 {pc : Nat} {e : aEnt} (hp : 0 ≤ pc) (h : lk prg_194_0 pc = some e) : fe0 194 pc = some e := by
  show lk prg_194 pc = some e
  unfold prg_194
  simp only [lk_app, h, Option.none_or, Option.some_or]
theorem kc_194_1 {pc : Nat} {e : aEnt} (hp : 193 ≤ pc) (h : lk prg_194_1 pc = some e) : fe0 194 pc = some e := by
  show lk prg_194 pc = some e
  unfold prg_194
  simp only [lk_app, lk_lt kb_194_0 (show 193 ≤ pc by omega), h, Option.none_or, Option.some_or]
theorem f_194_0 : fe0 194 0 = some (.aload_n 0, 1, 0, 0, 0, 0, 0) := kc_194_0 (Nat.le_of_ble_eq_true rfl) rfl
theorem f_194_1 : fe0 194 1 = some (.getfield 245, 3, 9, 22, 0, 0, 5046) := kc_194_0 (Nat.le_of_ble_eq_true rfl) rfl
theorem f_194_4 : fe0 194 4 = some (.ifCond .le 23, 3, 0, 0, 0, 0, 0) := kc_194_0 (Nat.le_of_ble_eq_true rfl) rfl
theorem f_194_7 : fe0 194 7 = some (.aload_n 0, 1, 0, 0, 0, 0, 0) := kc_194_0 (Nat.le_of_ble_eq_true rfl) rfl
theorem f_194_8 : fe0 194 8 = some (.getfield 248, 3, 9, 23, 0, 0, 5047) := kc_194_0 (Nat.le_of_ble_eq_true rfl) rfl
theorem f_194_11 : fe0 194 11 = some (.iconst 1, 1, 0, 0, 0, 0, 0) := kc_194_0 (Nat.le_of_ble_eq_true rfl) rfl
theorem f_194_12 : fe0 194 12 = some (.if_icmp .eq 11, 3, 0, 0, 0, 0, 0) := kc_194_0 (Nat.le_of_ble_eq_true rfl) rfl
theorem f_194_15 : fe0 194 15 = some (.aload_n 0, 1, 0, 0, 0, 0, 0) := kc_194_0 (Nat.le_of_ble_eq_true rfl) rfl
theorem f_194_16 : fe0 194 16 = some (.getfield 248, 3, 9, 23, 0, 0, 5047) := kc_194_0 (Nat.le_of_ble_eq_true rfl) rfl
theorem f_194_19 : fe0 194 19 = some (.iconst 2, 1, 0, 0, 0, 0, 0) := kc_194_0 (Nat.le_of_ble_eq_true rfl) rfl
theorem f_194_20 : fe0 194 20 = some (.if_icmp .ne 7, 3, 0, 0, 0, 0, 0) := kc_194_0 (Nat.le_of_ble_eq_true rfl) rfl
theorem f_194_23 : fe0 194 23 = some (.iconst 1, 1, 0, 0, 0, 0, 0) := kc_194_0 (Nat.le_of_ble_eq_true rfl) rfl
theorem f_194_24 : fe0 194 24 = some (.goto 4, 3, 0, 0, 0, 0, 0) := kc_194_0 (Nat.le_of_ble_eq_true rfl) rfl
theorem f_194_27 : fe0 194 27 = some (.iconst 0, 1, 0, 0, 0, 0, 0) := kc_194_0 (Nat.le_of_ble_eq_true rfl) rfl
theorem f_194_28 : fe0 194 28 = some (.istore_n 1, 1, 0, 0, 0, 0, 0) := kc_194_0 (Nat.le_of_ble_eq_true rfl) rfl
theorem f_194_29 : fe0 194 29 = some (.aload_n 0, 1, 0, 0, 0, 0, 0) := kc_194_0 (Nat.le_of_ble_eq_true rfl) rfl
theorem f_194_30 : fe0 194 30 = some (.getfield 245, 3, 9, 22, 0, 0, 5046) := kc_194_0 (Nat.le_of_ble_eq_true rfl) rfl
theorem f_194_33 : fe0 194 33 = some (.istore_n 2, 1, 0, 0, 0, 0, 0) := kc_194_0 (Nat.le_of_ble_eq_true rfl) rfl
theorem f_194_34 : fe0 194 34 = some (.aload_n 0, 1, 0, 0, 0, 0, 0) := kc_194_0 (Nat.le_of_ble_eq_true rfl) rfl
theorem f_194_35 : fe0 194 35 = some (.getfield 245, 3, 9, 22, 0, 0, 5046) := kc_194_0 (Nat.le_of_ble_eq_true rfl) rfl
theorem f_194_38 : fe0 194 38 = some (.aload_n 0, 1, 0, 0, 0, 0, 0) := kc_194_0 (Nat.le_of_ble_eq_true rfl) rfl
theorem f_194_39 : fe0 194 39 = some (.getfield 234, 3, 9, 20, 0, 0, 5044) := kc_194_0 (Nat.le_of_ble_eq_true rfl) rfl
theorem f_194_42 : fe0 194 42 = some (.if_icmp .ge 30, 3, 0, 0, 0, 0, 0) := kc_194_0 (Nat.le_of_ble_eq_true rfl) rfl
theorem f_194_45 : fe0 194 45 = some (.aload_n 0, 1, 0, 0, 0, 0, 0) := kc_194_0 (Nat.le_of_ble_eq_true rfl) rfl
theorem f_194_46 : fe0 194 46 = some (.getfield 62, 3, 9, 19, 1, 0, 5043) := kc_194_0 (Nat.le_of_ble_eq_true rfl) rfl
theorem f_194_49 : fe0 194 49 = some (.aload_n 0, 1, 0, 0, 0, 0, 0) := kc_194_0 (Nat.le_of_ble_eq_true rfl) rfl
theorem f_194_50 : fe0 194 50 = some (.getfield 245, 3, 9, 22, 0, 0, 5046) := kc_194_0 (Nat.le_of_ble_eq_true rfl) rfl
theorem f_194_53 : fe0 194 53 = some (.iaload, 1, 0, 0, 0, 0, 0) := kc_194_0 (Nat.le_of_ble_eq_true rfl) rfl
theorem f_194_54 : fe0 194 54 = some (.bipush 32, 2, 0, 0, 0, 0, 0) := kc_194_0 (Nat.le_of_ble_eq_true rfl) rfl
theorem f_194_56 : fe0 194 56 = some (.if_icmp .ne 16, 3, 0, 0, 0, 0, 0) := kc_194_0 (Nat.le_of_ble_eq_true rfl) rfl
theorem f_194_59 : fe0 194 59 = some (.aload_n 0, 1, 0, 0, 0, 0, 0) := kc_194_0 (Nat.le_of_ble_eq_true rfl) rfl
theorem f_194_60 : fe0 194 60 = some (.dup, 1, 0, 0, 0, 0, 0) := kc_194_0 (Nat.le_of_ble_eq_true rfl) rfl
theorem f_194_61 : fe0 194 61 = some (.getfield 245, 3, 9, 22, 0, 0, 5046) := kc_194_0 (Nat.le_of_ble_eq_true rfl) rfl
theorem f_194_64 : fe0 194 64 = some (.iconst 1, 1, 0, 0, 0, 0, 0) := kc_194_0 (Nat.le_of_ble_eq_true rfl) rfl
theorem f_194_65 : fe0 194 65 = some (.iadd, 1, 0, 0, 0, 0, 0) := kc_194_0 (Nat.le_of_ble_eq_true rfl) rfl
theorem f_194_66 : fe0 194 66 = some (.putfield 245, 3, 9, 22, 0, 0, 5046) := kc_194_0 (Nat.le_of_ble_eq_true rfl) rfl
theorem f_194_69 : fe0 194 69 = some (.goto (-35), 3, 0, 0, 0, 0, 0) := kc_194_0 (Nat.le_of_ble_eq_true rfl) rfl
theorem f_194_72 : fe0 194 72 = some (.iload_n 1, 1, 0, 0, 0, 0, 0) := kc_194_0 (Nat.le_of_ble_eq_true rfl) rfl
theorem f_194_73 : fe0 194 73 = some (.ifCond .eq 15, 3, 0, 0, 0, 0, 0) := kc_194_0 (Nat.le_of_ble_eq_true rfl) rfl
theorem f_194_76 : fe0 194 76 = some (.iload_n 2, 1, 0, 0, 0, 0, 0) := kc_194_0 (Nat.le_of_ble_eq_true rfl) rfl
theorem f_194_77 : fe0 194 77 = some (.aload_n 0, 1, 0, 0, 0, 0, 0) := kc_194_0 (Nat.le_of_ble_eq_true rfl) rfl
theorem f_194_78 : fe0 194 78 = some (.getfield 245, 3, 9, 22, 0, 0, 5046) := kc_194_0 (Nat.le_of_ble_eq_true rfl) rfl
theorem f_194_81 : fe0 194 81 = some (.if_icmp .ne 7, 3, 0, 0, 0, 0, 0) := kc_194_0 (Nat.le_of_ble_eq_true rfl) rfl
theorem f_194_84 : fe0 194 84 = some (.iconst 1, 1, 0, 0, 0, 0, 0) := kc_194_0 (Nat.le_of_ble_eq_true rfl) rfl
theorem f_194_85 : fe0 194 85 = some (.goto 4, 3, 0, 0, 0, 0, 0) := kc_194_0 (Nat.le_of_ble_eq_true rfl) rfl
theorem f_194_88 : fe0 194 88 = some (.iconst 0, 1, 0, 0, 0, 0, 0) := kc_194_0 (Nat.le_of_ble_eq_true rfl) rfl
theorem f_194_89 : fe0 194 89 = some (.istore_n 1, 1, 0, 0, 0, 0, 0) := kc_194_0 (Nat.le_of_ble_eq_true rfl) rfl
theorem f_194_90 : fe0 194 90 = some (.aload_n 0, 1, 0, 0, 0, 0, 0) := kc_194_0 (Nat.le_of_ble_eq_true rfl) rfl
theorem f_194_91 : fe0 194 91 = some (.aload_n 0, 1, 0, 0, 0, 0, 0) := kc_194_0 (Nat.le_of_ble_eq_true rfl) rfl
theorem f_194_92 : fe0 194 92 = some (.getfield 245, 3, 9, 22, 0, 0, 5046) := kc_194_0 (Nat.le_of_ble_eq_true rfl) rfl
theorem f_194_95 : fe0 194 95 = some (.putfield 251, 3, 9, 21, 0, 0, 5045) := kc_194_0 (Nat.le_of_ble_eq_true rfl) rfl
theorem f_194_98 : fe0 194 98 = some (.aload_n 0, 1, 0, 0, 0, 0, 0) := kc_194_0 (Nat.le_of_ble_eq_true rfl) rfl
theorem f_194_99 : fe0 194 99 = some (.getfield 251, 3, 9, 21, 0, 0, 5045) := kc_194_0 (Nat.le_of_ble_eq_true rfl) rfl
theorem f_194_102 : fe0 194 102 = some (.aload_n 0, 1, 0, 0, 0, 0, 0) := kc_194_0 (Nat.le_of_ble_eq_true rfl) rfl
theorem f_194_103 : fe0 194 103 = some (.getfield 234, 3, 9, 20, 0, 0, 5044) := kc_194_0 (Nat.le_of_ble_eq_true rfl) rfl
theorem f_194_106 : fe0 194 106 = some (.if_icmp .ne 11, 3, 0, 0, 0, 0, 0) := kc_194_0 (Nat.le_of_ble_eq_true rfl) rfl
theorem f_194_109 : fe0 194 109 = some (.aload_n 0, 1, 0, 0, 0, 0, 0) := kc_194_0 (Nat.le_of_ble_eq_true rfl) rfl
theorem f_194_110 : fe0 194 110 = some (.iconst 0, 1, 0, 0, 0, 0, 0) := kc_194_0 (Nat.le_of_ble_eq_true rfl) rfl
theorem f_194_111 : fe0 194 111 = some (.putfield 248, 3, 9, 23, 0, 0, 5047) := kc_194_0 (Nat.le_of_ble_eq_true rfl) rfl
theorem f_194_114 : fe0 194 114 = some (.goto 225, 3, 0, 0, 0, 0, 0) := kc_194_0 (Nat.le_of_ble_eq_true rfl) rfl
theorem f_194_117 : fe0 194 117 = some (.aload_n 0, 1, 0, 0, 0, 0, 0) := kc_194_0 (Nat.le_of_ble_eq_true rfl) rfl
theorem f_194_118 : fe0 194 118 = some (.aload_n 0, 1, 0, 0, 0, 0, 0) := kc_194_0 (Nat.le_of_ble_eq_true rfl) rfl
theorem f_194_119 : fe0 194 119 = some (.getfield 251, 3, 9, 21, 0, 0, 5045) := kc_194_0 (Nat.le_of_ble_eq_true rfl) rfl
theorem f_194_122 : fe0 194 122 = some (.invokevirtual 254, 3, 192, 1, 0, 9, 6159) := kc_194_0 (Nat.le_of_ble_eq_true rfl) rfl
theorem f_194_125 : fe0 194 125 = some (.ifCond .eq 73, 3, 0, 0, 0, 0, 0) := kc_194_0 (Nat.le_of_ble_eq_true rfl) rfl
theorem f_194_128 : fe0 194 128 = some (.aload_n 0, 1, 0, 0, 0, 0, 0) := kc_194_0 (Nat.le_of_ble_eq_true rfl) rfl
theorem f_194_129 : fe0 194 129 = some (.aload_n 0, 1, 0, 0, 0, 0, 0) := kc_194_0 (Nat.le_of_ble_eq_true rfl) rfl
theorem f_194_130 : fe0 194 130 = some (.getfield 245, 3, 9, 22, 0, 0, 5046) := kc_194_0 (Nat.le_of_ble_eq_true rfl) rfl
theorem f_194_133 : fe0 194 133 = some (.invokevirtual 254, 3, 192, 1, 0, 9, 6159) := kc_194_0 (Nat.le_of_ble_eq_true rfl) rfl
theorem f_194_136 : fe0 194 136 = some (.ifCond .eq 16, 3, 0, 0, 0, 0, 0) := kc_194_0 (Nat.le_of_ble_eq_true rfl) rfl
theorem f_194_139 : fe0 194 139 = some (.aload_n 0, 1, 0, 0, 0, 0, 0) := kc_194_0 (Nat.le_of_ble_eq_true rfl) rfl
theorem f_194_140 : fe0 194 140 = some (.dup, 1, 0, 0, 0, 0, 0) := kc_194_0 (Nat.le_of_ble_eq_true rfl) rfl
theorem f_194_141 : fe0 194 141 = some (.getfield 245, 3, 9, 22, 0, 0, 5046) := kc_194_0 (Nat.le_of_ble_eq_true rfl) rfl
theorem f_194_144 : fe0 194 144 = some (.iconst 1, 1, 0, 0, 0, 0, 0) := kc_194_0 (Nat.le_of_ble_eq_true rfl) rfl
theorem f_194_145 : fe0 194 145 = some (.iadd, 1, 0, 0, 0, 0, 0) := kc_194_0 (Nat.le_of_ble_eq_true rfl) rfl
theorem f_194_146 : fe0 194 146 = some (.putfield 245, 3, 9, 22, 0, 0, 5046) := kc_194_0 (Nat.le_of_ble_eq_true rfl) rfl
theorem f_194_149 : fe0 194 149 = some (.goto (-21), 3, 0, 0, 0, 0, 0) := kc_194_0 (Nat.le_of_ble_eq_true rfl) rfl
theorem f_194_152 : fe0 194 152 = some (.aload_n 0, 1, 0, 0, 0, 0, 0) := kc_194_0 (Nat.le_of_ble_eq_true rfl) rfl
theorem f_194_153 : fe0 194 153 = some (.iload_n 1, 1, 0, 0, 0, 0, 0) := kc_194_0 (Nat.le_of_ble_eq_true rfl) rfl
theorem f_194_154 : fe0 194 154 = some (.ifCond .eq 7, 3, 0, 0, 0, 0, 0) := kc_194_0 (Nat.le_of_ble_eq_true rfl) rfl
theorem f_194_157 : fe0 194 157 = some (.iconst 4, 1, 0, 0, 0, 0, 0) := kc_194_0 (Nat.le_of_ble_eq_true rfl) rfl
theorem f_194_158 : fe0 194 158 = some (.goto 4, 3, 0, 0, 0, 0, 0) := kc_194_0 (Nat.le_of_ble_eq_true rfl) rfl
theorem f_194_161 : fe0 194 161 = some (.iconst 1, 1, 0, 0, 0, 0, 0) := kc_194_0 (Nat.le_of_ble_eq_true rfl) rfl
theorem f_194_162 : fe0 194 162 = some (.putfield 248, 3, 9, 23, 0, 0, 5047) := kc_194_0 (Nat.le_of_ble_eq_true rfl) rfl
theorem f_194_165 : fe0 194 165 = some (.aload_n 0, 1, 0, 0, 0, 0, 0) := kc_194_0 (Nat.le_of_ble_eq_true rfl) rfl
theorem f_194_166 : fe0 194 166 = some (.aload_n 0, 1, 0, 0, 0, 0, 0) := kc_194_0 (Nat.le_of_ble_eq_true rfl) rfl
theorem f_194_167 : fe0 194 167 = some (.getfield 245, 3, 9, 22, 0, 0, 5046) := kc_194_0 (Nat.le_of_ble_eq_true rfl) rfl
theorem f_194_170 : fe0 194 170 = some (.aload_n 0, 1, 0, 0, 0, 0, 0) := kc_194_0 (Nat.le_of_ble_eq_true rfl) rfl
theorem f_194_171 : fe0 194 171 = some (.getfield 251, 3, 9, 21, 0, 0, 5045) := kc_194_0 (Nat.le_of_ble_eq_true rfl) rfl
theorem f_194_174 : fe0 194 174 = some (.isub, 1, 0, 0, 0, 0, 0) := kc_194_0 (Nat.le_of_ble_eq_true rfl) rfl
theorem f_194_175 : fe0 194 175 = some (.iconst 1, 1, 0, 0, 0, 0, 0) := kc_194_0 (Nat.le_of_ble_eq_true rfl) rfl
theorem f_194_176 : fe0 194 176 = some (.if_icmp .ne 15, 3, 0, 0, 0, 0, 0) := kc_194_0 (Nat.le_of_ble_eq_true rfl) rfl
theorem f_194_179 : fe0 194 179 = some (.aload_n 0, 1, 0, 0, 0, 0, 0) := kc_194_0 (Nat.le_of_ble_eq_true rfl) rfl
theorem f_194_180 : fe0 194 180 = some (.getfield 62, 3, 9, 19, 1, 0, 5043) := kc_194_0 (Nat.le_of_ble_eq_true rfl) rfl
theorem f_194_183 : fe0 194 183 = some (.aload_n 0, 1, 0, 0, 0, 0, 0) := kc_194_0 (Nat.le_of_ble_eq_true rfl) rfl
theorem f_194_184 : fe0 194 184 = some (.getfield 251, 3, 9, 21, 0, 0, 5045) := kc_194_0 (Nat.le_of_ble_eq_true rfl) rfl
theorem f_194_187 : fe0 194 187 = some (.iaload, 1, 0, 0, 0, 0, 0) := kc_194_0 (Nat.le_of_ble_eq_true rfl) rfl
theorem f_194_188 : fe0 194 188 = some (.goto 4, 3, 0, 0, 0, 0, 0) := kc_194_0 (Nat.le_of_ble_eq_true rfl) rfl
theorem f_194_191 : fe0 194 191 = some (.iconst 0, 1, 0, 0, 0, 0, 0) := kc_194_0 (Nat.le_of_ble_eq_true rfl) rfl
theorem f_194_192 : fe0 194 192 = some (.putfield 257, 3, 9, 25, 0, 0, 5049) := kc_194_0 (Nat.le_of_ble_eq_true rfl) rfl
theorem f_194_195 : fe0 194 195 = some (.goto 144, 3, 0, 0, 0, 0, 0) := kc_194_1 (Nat.le_of_ble_eq_true rfl) rfl
theorem f_194_198 : fe0 194 198 = some (.aload_n 0, 1, 0, 0, 0, 0, 0) := kc_194_1 (Nat.le_of_ble_eq_true rfl) rfl
theorem f_194_199 : fe0 194 199 = some (.aload_n 0, 1, 0, 0, 0, 0, 0) := kc_194_1 (Nat.le_of_ble_eq_true rfl) rfl
theorem f_194_200 : fe0 194 200 = some (.getfield 251, 3, 9, 21, 0, 0, 5045) := kc_194_1 (Nat.le_of_ble_eq_true rfl) rfl
theorem f_194_203 : fe0 194 203 = some (.invokevirtual 260, 3, 193, 1, 0, 9, 6165) := kc_194_1 (Nat.le_of_ble_eq_true rfl) rfl
theorem f_194_206 : fe0 194 206 = some (.ifCond .eq 105, 3, 0, 0, 0, 0, 0) := kc_194_1 (Nat.le_of_ble_eq_true rfl) rfl
theorem f_194_209 : fe0 194 209 = some (.aload_n 0, 1, 0, 0, 0, 0, 0) := kc_194_1 (Nat.le_of_ble_eq_true rfl) rfl
theorem f_194_210 : fe0 194 210 = some (.iconst 0, 1, 0, 0, 0, 0, 0) := kc_194_1 (Nat.le_of_ble_eq_true rfl) rfl
theorem f_194_211 : fe0 194 211 = some (.putfield 263, 3, 9, 24, 0, 0, 5048) := kc_194_1 (Nat.le_of_ble_eq_true rfl) rfl
theorem f_194_214 : fe0 194 214 = some (.aload_n 0, 1, 0, 0, 0, 0, 0) := kc_194_1 (Nat.le_of_ble_eq_true rfl) rfl
theorem f_194_215 : fe0 194 215 = some (.aload_n 0, 1, 0, 0, 0, 0, 0) := kc_194_1 (Nat.le_of_ble_eq_true rfl) rfl
theorem f_194_216 : fe0 194 216 = some (.getfield 245, 3, 9, 22, 0, 0, 5046) := kc_194_1 (Nat.le_of_ble_eq_true rfl) rfl
theorem f_194_219 : fe0 194 219 = some (.invokevirtual 260, 3, 193, 1, 0, 9, 6165) := kc_194_1 (Nat.le_of_ble_eq_true rfl) rfl
theorem f_194_222 : fe0 194 222 = some (.ifCond .eq 60, 3, 0, 0, 0, 0, 0) := kc_194_1 (Nat.le_of_ble_eq_true rfl) rfl
theorem f_194_225 : fe0 194 225 = some (.aload_n 0, 1, 0, 0, 0, 0, 0) := kc_194_1 (Nat.le_of_ble_eq_true rfl) rfl
theorem f_194_226 : fe0 194 226 = some (.aload_n 0, 1, 0, 0, 0, 0, 0) := kc_194_1 (Nat.le_of_ble_eq_true rfl) rfl
theorem f_194_227 : fe0 194 227 = some (.getfield 245, 3, 9, 22, 0, 0, 5046) := kc_194_1 (Nat.le_of_ble_eq_true rfl) rfl
theorem f_194_230 : fe0 194 230 = some (.aload_n 0, 1, 0, 0, 0, 0, 0) := kc_194_1 (Nat.le_of_ble_eq_true rfl) rfl
theorem f_194_231 : fe0 194 231 = some (.getfield 251, 3, 9, 21, 0, 0, 5045) := kc_194_1 (Nat.le_of_ble_eq_true rfl) rfl
theorem f_194_234 : fe0 194 234 = some (.isub, 1, 0, 0, 0, 0, 0) := kc_194_1 (Nat.le_of_ble_eq_true rfl) rfl
theorem f_194_235 : fe0 194 235 = some (.iconst 4, 1, 0, 0, 0, 0, 0) := kc_194_1 (Nat.le_of_ble_eq_true rfl) rfl
theorem f_194_236 : fe0 194 236 = some (.if_icmp .ge 26, 3, 0, 0, 0, 0, 0) := kc_194_1 (Nat.le_of_ble_eq_true rfl) rfl
theorem f_194_239 : fe0 194 239 = some (.bipush 10, 2, 0, 0, 0, 0, 0) := kc_194_1 (Nat.le_of_ble_eq_true rfl) rfl
theorem f_194_241 : fe0 194 241 = some (.aload_n 0, 1, 0, 0, 0, 0, 0) := kc_194_1 (Nat.le_of_ble_eq_true rfl) rfl
theorem f_194_242 : fe0 194 242 = some (.getfield 263, 3, 9, 24, 0, 0, 5048) := kc_194_1 (Nat.le_of_ble_eq_true rfl) rfl
theorem f_194_245 : fe0 194 245 = some (.imul, 1, 0, 0, 0, 0, 0) := kc_194_1 (Nat.le_of_ble_eq_true rfl) rfl
theorem f_194_246 : fe0 194 246 = some (.aload_n 0, 1, 0, 0, 0, 0, 0) := kc_194_1 (Nat.le_of_ble_eq_true rfl) rfl
theorem f_194_247 : fe0 194 247 = some (.getfield 62, 3, 9, 19, 1, 0, 5043) := kc_194_1 (Nat.le_of_ble_eq_true rfl) rfl
theorem f_194_250 : fe0 194 250 = some (.aload_n 0, 1, 0, 0, 0, 0, 0) := kc_194_1 (Nat.le_of_ble_eq_true rfl) rfl
theorem f_194_251 : fe0 194 251 = some (.getfield 245, 3, 9, 22, 0, 0, 5046) := kc_194_1 (Nat.le_of_ble_eq_true rfl) rfl
theorem f_194_254 : fe0 194 254 = some (.iaload, 1, 0, 0, 0, 0, 0) := kc_194_1 (Nat.le_of_ble_eq_true rfl) rfl
theorem f_194_255 : fe0 194 255 = some (.iadd, 1, 0, 0, 0, 0, 0) := kc_194_1 (Nat.le_of_ble_eq_true rfl) rfl
theorem f_194_256 : fe0 194 256 = some (.bipush 48, 2, 0, 0, 0, 0, 0) := kc_194_1 (Nat.le_of_ble_eq_true rfl) rfl
theorem f_194_258 : fe0 194 258 = some (.isub, 1, 0, 0, 0, 0, 0) := kc_194_1 (Nat.le_of_ble_eq_true rfl) rfl
theorem f_194_259 : fe0 194 259 = some (.goto 7, 3, 0, 0, 0, 0, 0) := kc_194_1 (Nat.le_of_ble_eq_true rfl) rfl
theorem f_194_262 : fe0 194 262 = some (.aload_n 0, 1, 0, 0, 0, 0, 0) := kc_194_1 (Nat.le_of_ble_eq_true rfl) rfl
theorem f_194_263 : fe0 194 263 = some (.getfield 263, 3, 9, 24, 0, 0, 5048) := kc_194_1 (Nat.le_of_ble_eq_true rfl) rfl
theorem f_194_266 : fe0 194 266 = some (.putfield 263, 3, 9, 24, 0, 0, 5048) := kc_194_1 (Nat.le_of_ble_eq_true rfl) rfl
theorem f_194_269 : fe0 194 269 = some (.aload_n 0, 1, 0, 0, 0, 0, 0) := kc_194_1 (Nat.le_of_ble_eq_true rfl) rfl
theorem f_194_270 : fe0 194 270 = some (.dup, 1, 0, 0, 0, 0, 0) := kc_194_1 (Nat.le_of_ble_eq_true rfl) rfl
theorem f_194_271 : fe0 194 271 = some (.getfield 245, 3, 9, 22, 0, 0, 5046) := kc_194_1 (Nat.le_of_ble_eq_true rfl) rfl
theorem f_194_274 : fe0 194 274 = some (.iconst 1, 1, 0, 0, 0, 0, 0) := kc_194_1 (Nat.le_of_ble_eq_true rfl) rfl
theorem f_194_275 : fe0 194 275 = some (.iadd, 1, 0, 0, 0, 0, 0) := kc_194_1 (Nat.le_of_ble_eq_true rfl) rfl
theorem f_194_276 : fe0 194 276 = some (.putfield 245, 3, 9, 22, 0, 0, 5046) := kc_194_1 (Nat.le_of_ble_eq_true rfl) rfl
theorem f_194_279 : fe0 194 279 = some (.goto (-65), 3, 0, 0, 0, 0, 0) := kc_194_1 (Nat.le_of_ble_eq_true rfl) rfl
theorem f_194_282 : fe0 194 282 = some (.aload_n 0, 1, 0, 0, 0, 0, 0) := kc_194_1 (Nat.le_of_ble_eq_true rfl) rfl
theorem f_194_283 : fe0 194 283 = some (.iload_n 1, 1, 0, 0, 0, 0, 0) := kc_194_1 (Nat.le_of_ble_eq_true rfl) rfl
theorem f_194_284 : fe0 194 284 = some (.ifCond .ne 16, 3, 0, 0, 0, 0, 0) := kc_194_1 (Nat.le_of_ble_eq_true rfl) rfl
theorem f_194_287 : fe0 194 287 = some (.aload_n 0, 1, 0, 0, 0, 0, 0) := kc_194_1 (Nat.le_of_ble_eq_true rfl) rfl
theorem f_194_288 : fe0 194 288 = some (.getfield 245, 3, 9, 22, 0, 0, 5046) := kc_194_1 (Nat.le_of_ble_eq_true rfl) rfl
theorem f_194_291 : fe0 194 291 = some (.aload_n 0, 1, 0, 0, 0, 0, 0) := kc_194_1 (Nat.le_of_ble_eq_true rfl) rfl
theorem f_194_292 : fe0 194 292 = some (.getfield 251, 3, 9, 21, 0, 0, 5045) := kc_194_1 (Nat.le_of_ble_eq_true rfl) rfl
theorem f_194_295 : fe0 194 295 = some (.isub, 1, 0, 0, 0, 0, 0) := kc_194_1 (Nat.le_of_ble_eq_true rfl) rfl
theorem f_194_296 : fe0 194 296 = some (.iconst 4, 1, 0, 0, 0, 0, 0) := kc_194_1 (Nat.le_of_ble_eq_true rfl) rfl
theorem f_194_297 : fe0 194 297 = some (.if_icmp .le 7, 3, 0, 0, 0, 0, 0) := kc_194_1 (Nat.le_of_ble_eq_true rfl) rfl
theorem f_194_300 : fe0 194 300 = some (.iconst 4, 1, 0, 0, 0, 0, 0) := kc_194_1 (Nat.le_of_ble_eq_true rfl) rfl
theorem f_194_301 : fe0 194 301 = some (.goto 4, 3, 0, 0, 0, 0, 0) := kc_194_1 (Nat.le_of_ble_eq_true rfl) rfl
theorem f_194_304 : fe0 194 304 = some (.iconst 2, 1, 0, 0, 0, 0, 0) := kc_194_1 (Nat.le_of_ble_eq_true rfl) rfl
theorem f_194_305 : fe0 194 305 = some (.putfield 248, 3, 9, 23, 0, 0, 5047) := kc_194_1 (Nat.le_of_ble_eq_true rfl) rfl
theorem f_194_308 : fe0 194 308 = some (.goto 31, 3, 0, 0, 0, 0, 0) := kc_194_1 (Nat.le_of_ble_eq_true rfl) rfl
theorem f_194_311 : fe0 194 311 = some (.aload_n 0, 1, 0, 0, 0, 0, 0) := kc_194_1 (Nat.le_of_ble_eq_true rfl) rfl
theorem f_194_312 : fe0 194 312 = some (.iconst 3, 1, 0, 0, 0, 0, 0) := kc_194_1 (Nat.le_of_ble_eq_true rfl) rfl
theorem f_194_313 : fe0 194 313 = some (.putfield 248, 3, 9, 23, 0, 0, 5047) := kc_194_1 (Nat.le_of_ble_eq_true rfl) rfl
theorem f_194_316 : fe0 194 316 = some (.aload_n 0, 1, 0, 0, 0, 0, 0) := kc_194_1 (Nat.le_of_ble_eq_true rfl) rfl
theorem f_194_317 : fe0 194 317 = some (.aload_n 0, 1, 0, 0, 0, 0, 0) := kc_194_1 (Nat.le_of_ble_eq_true rfl) rfl
theorem f_194_318 : fe0 194 318 = some (.getfield 62, 3, 9, 19, 1, 0, 5043) := kc_194_1 (Nat.le_of_ble_eq_true rfl) rfl
theorem f_194_321 : fe0 194 321 = some (.aload_n 0, 1, 0, 0, 0, 0, 0) := kc_194_1 (Nat.le_of_ble_eq_true rfl) rfl
theorem f_194_322 : fe0 194 322 = some (.getfield 251, 3, 9, 21, 0, 0, 5045) := kc_194_1 (Nat.le_of_ble_eq_true rfl) rfl
theorem f_194_325 : fe0 194 325 = some (.iaload, 1, 0, 0, 0, 0, 0) := kc_194_1 (Nat.le_of_ble_eq_true rfl) rfl
theorem f_194_326 : fe0 194 326 = some (.putfield 257, 3, 9, 25, 0, 0, 5049) := kc_194_1 (Nat.le_of_ble_eq_true rfl) rfl
theorem f_194_329 : fe0 194 329 = some (.aload_n 0, 1, 0, 0, 0, 0, 0) := kc_194_1 (Nat.le_of_ble_eq_true rfl) rfl
theorem f_194_330 : fe0 194 330 = some (.dup, 1, 0, 0, 0, 0, 0) := kc_194_1 (Nat.le_of_ble_eq_true rfl) rfl
theorem f_194_331 : fe0 194 331 = some (.getfield 245, 3, 9, 22, 0, 0, 5046) := kc_194_1 (Nat.le_of_ble_eq_true rfl) rfl
theorem f_194_334 : fe0 194 334 = some (.iconst 1, 1, 0, 0, 0, 0, 0) := kc_194_1 (Nat.le_of_ble_eq_true rfl) rfl
theorem f_194_335 : fe0 194 335 = some (.iadd, 1, 0, 0, 0, 0, 0) := kc_194_1 (Nat.le_of_ble_eq_true rfl) rfl
theorem f_194_336 : fe0 194 336 = some (.putfield 245, 3, 9, 22, 0, 0, 5046) := kc_194_1 (Nat.le_of_ble_eq_true rfl) rfl
theorem f_194_339 : fe0 194 339 = some (.return_, 1, 0, 0, 0, 0, 0) := kc_194_1 (Nat.le_of_ble_eq_true rfl) rfl
theorem q_194_0 (d : Nat) (l0 : Nat) (μ : aMem) : Rn (d + 1) 194 (0, [.ref l0, un, un], [], μ) = if (mS μ l0).1 = 9 then (if (mF μ l0 22) ≤ 0 then (Rn (d + 1) 194 (27, [.ref l0, un, un], [], μ)) else (if (mF μ l0 23) = 1 then (Rn (d + 1) 194 (23, [.ref l0, un, un], [], μ)) else (if (mF μ l0 23) = 2 then (Rn (d + 1) 194 (23, [.ref l0, un, un], [], μ)) else (Rn (d + 1) 194 (27, [.ref l0, un, un], [], μ))))) else none :=
  (e_nx f_194_0 rfl).trans ((e_gd f_194_1 rfl).trans (g_congr (Iff.rfl) (fun h1 => (e_le f_194_4 rfl).trans (b_congr (fun h2 => rfl) (fun h2 => (e_nx f_194_7 rfl).trans ((e_gk f_194_8 (h1) rfl).trans ((e_nx (q := (_, _, .int 1 :: _, _)) f_194_11 rfl).trans ((e_eq f_194_12 rfl).trans (b_congr (fun h3 => rfl) (fun h3 => (e_nx f_194_15 rfl).trans ((e_gk f_194_16 (h1) rfl).trans ((e_nx (q := (_, _, .int 2 :: _, _)) f_194_19 rfl).trans ((e_ne f_194_20 rfl).trans (b_congr (fun h4 => rfl) (fun h4 => rfl)))))))))))))))
theorem q_194_23 (d : Nat) (l0 : Nat) (w1 : Value) (w2 : Value) (μ : aMem) : Rn (d + 1) 194 (23, [.ref l0, w1, w2], [], μ) = Rn (d + 1) 194 (28, [.ref l0, w1, w2], [.int 1], μ) :=
  (e_nx (q := (_, _, .int 1 :: _, _)) f_194_23 rfl).trans (e_nx f_194_24 rfl)
theorem q_194_27 (d : Nat) (l0 : Nat) (w1 : Value) (w2 : Value) (μ : aMem) : Rn (d + 1) 194 (27, [.ref l0, w1, w2], [], μ) = Rn (d + 1) 194 (28, [.ref l0, w1, w2], [.int 0], μ) :=
  e_nx (q := (_, _, .int 0 :: _, _)) f_194_27 rfl
theorem q_194_28 (d : Nat) (l0 : Nat) (w1 : Value) (w2 : Value) (xs0 : Int32) (μ : aMem) : Rn (d + 1) 194 (28, [.ref l0, w1, w2], [.int xs0], μ) = if (mS μ l0).1 = 9 then (Rn (d + 1) 194 (34, [.ref l0, .int xs0, .int (mF μ l0 22)], [], μ)) else none :=
  (e_nx (q := (_, [.ref l0, .int xs0, w2], _, _)) f_194_28 rfl).trans ((e_nx f_194_29 rfl).trans ((e_gd f_194_30 rfl).trans (g_congr (Iff.rfl) (fun h1 => e_nx (q := (_, [.ref l0, .int xs0, .int (mF μ l0 22)], _, _)) f_194_33 rfl))))
theorem q_194_34 (d : Nat) (l0 : Nat) (x1 : Int32) (x2 : Int32) (μ : aMem) : Rn (d + 1) 194 (34, [.ref l0, .int x1, .int x2], [], μ) = if (mS μ l0).1 = 9 then (if (mF μ l0 20) ≤ (mF μ l0 22) then (Rn (d + 1) 194 (72, [.ref l0, .int x1, .int x2], [], μ)) else ((rdI μ (mR μ l0 19) (mF μ l0 22)).bind fun v3 => if v3 = 32 then (Rn (d + 1) 194 (34, [.ref l0, .int x1, .int x2], [], setF μ l0 22 ((mF μ l0 22) + 1))) else (Rn (d + 1) 194 (72, [.ref l0, .int x1, .int x2], [], μ)))) else none :=
  (e_nx f_194_34 rfl).trans ((e_gd f_194_35 rfl).trans (g_congr (Iff.rfl) (fun h1 => (e_nx f_194_38 rfl).trans ((e_gk f_194_39 (h1) rfl).trans ((e_ge f_194_42 rfl).trans (b_congr (fun h2 => rfl) (fun h2 => (e_nx f_194_45 rfl).trans ((e_gk f_194_46 (h1) rfl).trans ((e_nx f_194_49 rfl).trans ((e_gk f_194_50 (h1) rfl).trans ((e_ia (L := [.ref l0, .int x1, .int x2]) (r := []) (μ := μ) f_194_53).trans (m_congr fun v3 => (e_nx (q := (_, _, .int 32 :: _, _)) f_194_54 rfl).trans ((e_ne f_194_56 rfl).trans (b_congr (fun h4 => (e_nx f_194_59 rfl).trans ((e_nx f_194_60 rfl).trans ((e_gk f_194_61 (h1) rfl).trans ((e_nx (q := (_, _, .int 1 :: _, _)) f_194_64 rfl).trans ((e_nx f_194_65 rfl).trans ((e_gk (L := [.ref l0, .int x1, .int x2]) (st := [.int ((mF μ l0 22) + 1), .ref l0]) (μ := μ) f_194_66 ((pi_iff rfl).mpr h1) rfl).trans (e_nx f_194_69 rfl))))))) (fun h4 => rfl)))))))))))))))
theorem q_194_72 (d : Nat) (l0 : Nat) (x1 : Int32) (x2 : Int32) (μ : aMem) : Rn (d + 1) 194 (72, [.ref l0, .int x1, .int x2], [], μ) = if x1 = 0 then (Rn (d + 1) 194 (88, [.ref l0, .int x1, .int x2], [], μ)) else (if (mS μ l0).1 = 9 then (if x2 = (mF μ l0 22) then (Rn (d + 1) 194 (89, [.ref l0, .int x1, .int x2], [.int 1], μ)) else (Rn (d + 1) 194 (88, [.ref l0, .int x1, .int x2], [], μ))) else none) :=
  (e_nx f_194_72 rfl).trans ((e_eq f_194_73 rfl).trans (b_congr (fun h1 => rfl) (fun h1 => (e_nx f_194_76 rfl).trans ((e_nx f_194_77 rfl).trans ((e_gd f_194_78 rfl).trans (g_congr (Iff.rfl) (fun h2 => (e_ne f_194_81 rfl).trans (b_congr (fun h3 => (e_nx (q := (_, _, .int 1 :: _, _)) f_194_84 rfl).trans (e_nx f_194_85 rfl)) (fun h3 => rfl)))))))))
theorem q_194_88 (d : Nat) (l0 : Nat) (x1 : Int32) (x2 : Int32) (μ : aMem) : Rn (d + 1) 194 (88, [.ref l0, .int x1, .int x2], [], μ) = Rn (d + 1) 194 (89, [.ref l0, .int x1, .int x2], [.int 0], μ) :=
  e_nx (q := (_, _, .int 0 :: _, _)) f_194_88 rfl
theorem q_194_89 (d : Nat) (l0 : Nat) (x1 : Int32) (x2 : Int32) (xs0 : Int32) (μ : aMem) : Rn (d + 1) 194 (89, [.ref l0, .int x1, .int x2], [.int xs0], μ) = if (mS μ l0).1 = 9 then (if (mF (setF μ l0 21 (mF μ l0 22)) l0 21) = (mF (setF μ l0 21 (mF μ l0 22)) l0 20) then (Rn (d + 1) 194 (339, [.ref l0, .int xs0, .int x2], [], setF (setF μ l0 21 (mF μ l0 22)) l0 23 0)) else (if (mS μ l0).1 = 9 ∧ l0 < 999999 then ((cI d 192 [.ref l0, .int (mF (setF μ l0 21 (mF μ l0 22)) l0 21)] (setF μ l0 21 (mF μ l0 22))).bind fun p3 => if p3.1 = 0 then (if (mS p3.2 l0).1 = 9 then (if (mS p3.2 l0).1 = 9 ∧ l0 < 999999 then ((cI d 193 [.ref l0, .int (mF p3.2 l0 21)] p3.2).bind fun p7 => if p7.1 = 0 then (if (mS p7.2 l0).1 = 9 then ((rdI (setF p7.2 l0 23 3) (mR p7.2 l0 19) (mF (setF p7.2 l0 23 3) l0 21)).bind fun v11 => Rn (d + 1) 194 (339, [.ref l0, .int xs0, .int x2], [], setF (setF (setF p7.2 l0 23 3) l0 25 v11) l0 22 ((mF (setF (setF p7.2 l0 23 3) l0 25 v11) l0 22) + 1))) else none) else (if (mS p7.2 l0).1 = 9 then (Rn (d + 1) 194 (214, [.ref l0, .int xs0, .int x2], [], setF p7.2 l0 24 0)) else none)) else none) else none) else (Rn (d + 1) 194 (128, [.ref l0, .int xs0, .int x2], [], p3.2))) else none)) else none :=
  (e_nx (q := (_, [.ref l0, .int xs0, .int x2], _, _)) f_194_89 rfl).trans ((e_nx f_194_90 rfl).trans ((e_nx f_194_91 rfl).trans ((e_gd f_194_92 rfl).trans (g_congr (Iff.rfl) (fun h1 => (e_gk (L := [.ref l0, .int xs0, .int x2]) (st := [.int (mF μ l0 22), .ref l0]) (μ := μ) f_194_95 ((pi_iff rfl).mpr h1) rfl).trans ((e_nx f_194_98 rfl).trans ((e_gk f_194_99 (h1) rfl).trans ((e_nx f_194_102 rfl).trans ((e_gk f_194_103 (h1) rfl).trans ((e_ne f_194_106 rfl).trans (b_congr (fun h2 => (e_nx f_194_109 rfl).trans ((e_nx (q := (_, _, .int 0 :: _, _)) f_194_110 rfl).trans ((e_gk (L := [.ref l0, .int xs0, .int x2]) (st := [.int 0, .ref l0]) (μ := setF μ l0 21 (mF μ l0 22)) f_194_111 ((pi_iff rfl).mpr h1) rfl).trans (e_nx f_194_114 rfl)))) (fun h2 => (e_nx f_194_117 rfl).trans ((e_nx f_194_118 rfl).trans ((e_gk f_194_119 (h1) rfl).trans ((e_gI (L := [.ref l0, .int xs0, .int x2]) (st := [.int (mF (setF μ l0 21 (mF μ l0 22)) l0 21), .ref l0]) (μ := setF μ l0 21 (mF μ l0 22)) (L' := [.ref l0, .int xs0, .int x2]) (st' := []) f_194_122 rfl rfl).trans (g_congr (v_c2 rfl (Nat.le_of_ble_eq_true rfl)) (fun h4 => m_congr fun p3 => (e_eq f_194_125 rfl).trans (b_congr (fun h5 => (e_nx f_194_198 rfl).trans ((e_nx f_194_199 rfl).trans ((e_gd f_194_200 rfl).trans (g_congr (Iff.rfl) (fun h6 => (e_gI (L := [.ref l0, .int xs0, .int x2]) (st := [.int (mF p3.2 l0 21), .ref l0]) (μ := p3.2) (L' := [.ref l0, .int xs0, .int x2]) (st' := []) f_194_203 rfl rfl).trans (g_congr (v_c2 rfl (Nat.le_of_ble_eq_true rfl)) (fun h8 => m_congr fun p7 => (e_eq f_194_206 rfl).trans (b_congr (fun h9 => (e_nx f_194_311 rfl).trans ((e_nx (q := (_, _, .int 3 :: _, _)) f_194_312 rfl).trans ((e_gd (L := [.ref l0, .int xs0, .int x2]) (st := [.int 3, .ref l0]) (μ := p7.2) f_194_313 rfl).trans (g_congr (pi_iff rfl) (fun h10 => (e_nx f_194_316 rfl).trans ((e_nx f_194_317 rfl).trans ((e_gk f_194_318 (h10) rfl).trans ((e_nx f_194_321 rfl).trans ((e_gk f_194_322 (h10) rfl).trans ((e_ia (L := [.ref l0, .int xs0, .int x2]) (r := [.ref l0]) (μ := setF p7.2 l0 23 3) f_194_325).trans (m_congr fun v11 => (e_gk (L := [.ref l0, .int xs0, .int x2]) (st := [.int v11, .ref l0]) (μ := setF p7.2 l0 23 3) f_194_326 ((pi_iff rfl).mpr h10) rfl).trans ((e_nx f_194_329 rfl).trans ((e_nx f_194_330 rfl).trans ((e_gk f_194_331 (h10) rfl).trans ((e_nx (q := (_, _, .int 1 :: _, _)) f_194_334 rfl).trans ((e_nx f_194_335 rfl).trans ((e_gk (L := [.ref l0, .int xs0, .int x2]) (st := [.int ((mF (setF (setF p7.2 l0 23 3) l0 25 v11) l0 22) + 1), .ref l0]) (μ := setF (setF p7.2 l0 23 3) l0 25 v11) f_194_336 ((pi_iff rfl).mpr h10) rfl).trans (rfl)))))))))))))))))) (fun h9 => (e_nx f_194_209 rfl).trans ((e_nx (q := (_, _, .int 0 :: _, _)) f_194_210 rfl).trans ((e_gd (L := [.ref l0, .int xs0, .int x2]) (st := [.int 0, .ref l0]) (μ := p7.2) f_194_211 rfl).trans (g_congr (pi_iff rfl) (fun h12 => rfl))))))))))))) (fun h5 => rfl)))))))))))))))))))
theorem q_194_128 (d : Nat) (l0 : Nat) (x1 : Int32) (x2 : Int32) (μ : aMem) : Rn (d + 1) 194 (128, [.ref l0, .int x1, .int x2], [], μ) = if (mS μ l0).1 = 9 then (if (mS μ l0).1 = 9 ∧ l0 < 999999 then ((cI d 192 [.ref l0, .int (mF μ l0 22)] μ).bind fun p2 => if p2.1 = 0 then (if x1 = 0 then (Rn (d + 1) 194 (162, [.ref l0, .int x1, .int x2], [.int 1, .ref l0], p2.2)) else (Rn (d + 1) 194 (162, [.ref l0, .int x1, .int x2], [.int 4, .ref l0], p2.2))) else (if (mS p2.2 l0).1 = 9 then (Rn (d + 1) 194 (128, [.ref l0, .int x1, .int x2], [], setF p2.2 l0 22 ((mF p2.2 l0 22) + 1))) else none)) else none) else none :=
  (e_nx f_194_128 rfl).trans ((e_nx f_194_129 rfl).trans ((e_gd f_194_130 rfl).trans (g_congr (Iff.rfl) (fun h1 => (e_gI (L := [.ref l0, .int x1, .int x2]) (st := [.int (mF μ l0 22), .ref l0]) (μ := μ) (L' := [.ref l0, .int x1, .int x2]) (st' := []) f_194_133 rfl rfl).trans (g_congr (v_c2 rfl (Nat.le_of_ble_eq_true rfl)) (fun h3 => m_congr fun p2 => (e_eq f_194_136 rfl).trans (b_congr (fun h4 => (e_nx f_194_152 rfl).trans ((e_nx f_194_153 rfl).trans ((e_eq f_194_154 rfl).trans (b_congr (fun h5 => e_nx (q := (_, _, .int 1 :: _, _)) f_194_161 rfl) (fun h5 => (e_nx (q := (_, _, .int 4 :: _, _)) f_194_157 rfl).trans (e_nx f_194_158 rfl)))))) (fun h4 => (e_nx f_194_139 rfl).trans ((e_nx f_194_140 rfl).trans ((e_gd f_194_141 rfl).trans (g_congr (Iff.rfl) (fun h6 => (e_nx (q := (_, _, .int 1 :: _, _)) f_194_144 rfl).trans ((e_nx f_194_145 rfl).trans ((e_gk (L := [.ref l0, .int x1, .int x2]) (st := [.int ((mF p2.2 l0 22) + 1), .ref l0]) (μ := p2.2) f_194_146 ((pi_iff rfl).mpr h6) rfl).trans (e_nx f_194_149 rfl)))))))))))))))
theorem q_194_162 (d : Nat) (l0 : Nat) (x1 : Int32) (x2 : Int32) (xs0 : Int32) (ls1 : Nat) (μ : aMem) : Rn (d + 1) 194 (162, [.ref l0, .int x1, .int x2], [.int xs0, .ref ls1], μ) = if (mS μ ls1).1 = 9 then (if (mS μ l0).1 = 9 then (if ((mF (setF μ ls1 23 xs0) l0 22) - (mF (setF μ ls1 23 xs0) l0 21)) = 1 then ((rdI (setF μ ls1 23 xs0) (mR μ l0 19) (mF (setF μ ls1 23 xs0) l0 21)).bind fun v4 => Rn (d + 1) 194 (192, [.ref l0, .int x1, .int x2], [.int v4, .ref l0], setF μ ls1 23 xs0)) else (Rn (d + 1) 194 (192, [.ref l0, .int x1, .int x2], [.int 0, .ref l0], setF μ ls1 23 xs0))) else none) else none :=
  (e_gd (L := [.ref l0, .int x1, .int x2]) (st := [.int xs0, .ref ls1]) (μ := μ) f_194_162 rfl).trans (g_congr (pi_iff rfl) (fun h1 => (e_nx f_194_165 rfl).trans ((e_nx f_194_166 rfl).trans ((e_gd f_194_167 rfl).trans (g_congr (Iff.rfl) (fun h2 => (e_nx f_194_170 rfl).trans ((e_gk f_194_171 (h2) rfl).trans ((e_nx f_194_174 rfl).trans ((e_nx (q := (_, _, .int 1 :: _, _)) f_194_175 rfl).trans ((e_ne f_194_176 rfl).trans (b_congr (fun h3 => (e_nx f_194_179 rfl).trans ((e_gk f_194_180 (h2) rfl).trans ((e_nx f_194_183 rfl).trans ((e_gk f_194_184 (h2) rfl).trans ((e_ia (L := [.ref l0, .int x1, .int x2]) (r := [.ref l0]) (μ := setF μ ls1 23 xs0) f_194_187).trans (m_congr fun v4 => e_nx f_194_188 rfl)))))) (fun h3 => e_nx (q := (_, _, .int 0 :: _, _)) f_194_191 rfl))))))))))))
theorem q_194_192 (d : Nat) (l0 : Nat) (x1 : Int32) (x2 : Int32) (xs0 : Int32) (ls1 : Nat) (μ : aMem) : Rn (d + 1) 194 (192, [.ref l0, .int x1, .int x2], [.int xs0, .ref ls1], μ) = if (mS μ ls1).1 = 9 then (Rn (d + 1) 194 (339, [.ref l0, .int x1, .int x2], [], setF μ ls1 25 xs0)) else none :=
  (e_gd (L := [.ref l0, .int x1, .int x2]) (st := [.int xs0, .ref ls1]) (μ := μ) f_194_192 rfl).trans (g_congr (pi_iff rfl) (fun h1 => e_nx f_194_195 rfl))
theorem q_194_214 (d : Nat) (l0 : Nat) (x1 : Int32) (x2 : Int32) (μ : aMem) : Rn (d + 1) 194 (214, [.ref l0, .int x1, .int x2], [], μ) = if (mS μ l0).1 = 9 then (if (mS μ l0).1 = 9 ∧ l0 < 999999 then ((cI d 193 [.ref l0, .int (mF μ l0 22)] μ).bind fun p2 => if p2.1 = 0 then (if x1 = 0 then (if (mS p2.2 l0).1 = 9 then (if ((mF p2.2 l0 22) - (mF p2.2 l0 21)) ≤ 4 then (Rn (d + 1) 194 (305, [.ref l0, .int x1, .int x2], [.int 2, .ref l0], p2.2)) else (Rn (d + 1) 194 (300, [.ref l0, .int x1, .int x2], [.ref l0], p2.2))) else none) else (Rn (d + 1) 194 (300, [.ref l0, .int x1, .int x2], [.ref l0], p2.2))) else (if (mS p2.2 l0).1 = 9 then (if 4 ≤ ((mF p2.2 l0 22) - (mF p2.2 l0 21)) then (Rn (d + 1) 194 (266, [.ref l0, .int x1, .int x2], [.int (mF p2.2 l0 24), .ref l0], p2.2)) else ((rdI p2.2 (mR p2.2 l0 19) (mF p2.2 l0 22)).bind fun v10 => Rn (d + 1) 194 (266, [.ref l0, .int x1, .int x2], [.int (((10 * (mF p2.2 l0 24)) + v10) - 48), .ref l0], p2.2))) else none)) else none) else none :=
  (e_nx f_194_214 rfl).trans ((e_nx f_194_215 rfl).trans ((e_gd f_194_216 rfl).trans (g_congr (Iff.rfl) (fun h1 => (e_gI (L := [.ref l0, .int x1, .int x2]) (st := [.int (mF μ l0 22), .ref l0]) (μ := μ) (L' := [.ref l0, .int x1, .int x2]) (st' := []) f_194_219 rfl rfl).trans (g_congr (v_c2 rfl (Nat.le_of_ble_eq_true rfl)) (fun h3 => m_congr fun p2 => (e_eq f_194_222 rfl).trans (b_congr (fun h4 => (e_nx f_194_282 rfl).trans ((e_nx f_194_283 rfl).trans ((e_ne f_194_284 rfl).trans (b_congr (fun h5 => (e_nx f_194_287 rfl).trans ((e_gd f_194_288 rfl).trans (g_congr (Iff.rfl) (fun h6 => (e_nx f_194_291 rfl).trans ((e_gk f_194_292 (h6) rfl).trans ((e_nx f_194_295 rfl).trans ((e_nx (q := (_, _, .int 4 :: _, _)) f_194_296 rfl).trans ((e_le f_194_297 rfl).trans (b_congr (fun h7 => e_nx (q := (_, _, .int 2 :: _, _)) f_194_304 rfl) (fun h7 => rfl)))))))))) (fun h5 => rfl))))) (fun h4 => (e_nx f_194_225 rfl).trans ((e_nx f_194_226 rfl).trans ((e_gd f_194_227 rfl).trans (g_congr (Iff.rfl) (fun h8 => (e_nx f_194_230 rfl).trans ((e_gk f_194_231 (h8) rfl).trans ((e_nx f_194_234 rfl).trans ((e_nx (q := (_, _, .int 4 :: _, _)) f_194_235 rfl).trans ((e_ge f_194_236 rfl).trans (b_congr (fun h9 => (e_nx f_194_262 rfl).trans ((e_gk f_194_263 (h8) rfl).trans (rfl))) (fun h9 => (e_nx (q := (_, _, .int 10 :: _, _)) f_194_239 rfl).trans ((e_nx f_194_241 rfl).trans ((e_gk f_194_242 (h8) rfl).trans ((e_nx f_194_245 rfl).trans ((e_nx f_194_246 rfl).trans ((e_gk f_194_247 (h8) rfl).trans ((e_nx f_194_250 rfl).trans ((e_gk f_194_251 (h8) rfl).trans ((e_ia (L := [.ref l0, .int x1, .int x2]) (r := [.int (10 * (mF p2.2 l0 24)), .ref l0]) (μ := p2.2) f_194_254).trans (m_congr fun v10 => (e_nx f_194_255 rfl).trans ((e_nx (q := (_, _, .int 48 :: _, _)) f_194_256 rfl).trans ((e_nx f_194_258 rfl).trans (e_nx f_194_259 rfl))))))))))))))))))))))))))))))
theorem q_194_266 (d : Nat) (l0 : Nat) (x1 : Int32) (x2 : Int32) (xs0 : Int32) (ls1 : Nat) (μ : aMem) : Rn (d + 1) 194 (266, [.ref l0, .int x1, .int x2], [.int xs0, .ref ls1], μ) = if (mS μ ls1).1 = 9 then (if (mS μ l0).1 = 9 then (Rn (d + 1) 194 (214, [.ref l0, .int x1, .int x2], [], setF (setF μ ls1 24 xs0) l0 22 ((mF (setF μ ls1 24 xs0) l0 22) + 1))) else none) else none :=
  (e_gd (L := [.ref l0, .int x1, .int x2]) (st := [.int xs0, .ref ls1]) (μ := μ) f_194_266 rfl).trans (g_congr (pi_iff rfl) (fun h1 => (e_nx f_194_269 rfl).trans ((e_nx f_194_270 rfl).trans ((e_gd f_194_271 rfl).trans (g_congr (Iff.rfl) (fun h2 => (e_nx (q := (_, _, .int 1 :: _, _)) f_194_274 rfl).trans ((e_nx f_194_275 rfl).trans ((e_gk (L := [.ref l0, .int x1, .int x2]) (st := [.int ((mF (setF μ ls1 24 xs0) l0 22) + 1), .ref l0]) (μ := setF μ ls1 24 xs0) f_194_276 ((pi_iff rfl).mpr h2) rfl).trans (e_nx f_194_279 rfl)))))))))
theorem q_194_300 (d : Nat) (l0 : Nat) (x1 : Int32) (x2 : Int32) (ls0 : Nat) (μ : aMem) : Rn (d + 1) 194 (300, [.ref l0, .int x1, .int x2], [.ref ls0], μ) = Rn (d + 1) 194 (305, [.ref l0, .int x1, .int x2], [.int 4, .ref ls0], μ) :=
  (e_nx (q := (_, _, .int 4 :: _, _)) f_194_300 rfl).trans (e_nx f_194_301 rfl)
theorem q_194_305 (d : Nat) (l0 : Nat) (x1 : Int32) (x2 : Int32) (xs0 : Int32) (ls1 : Nat) (μ : aMem) : Rn (d + 1) 194 (305, [.ref l0, .int x1, .int x2], [.int xs0, .ref ls1], μ) = if (mS μ ls1).1 = 9 then (Rn (d + 1) 194 (339, [.ref l0, .int x1, .int x2], [], setF μ ls1 23 xs0)) else none :=
  (e_gd (L := [.ref l0, .int x1, .int x2]) (st := [.int xs0, .ref ls1]) (μ := μ) f_194_305 rfl).trans (g_congr (pi_iff rfl) (fun h1 => e_nx f_194_308 rfl))
theorem q_194_339 (d : Nat) (l0 : Nat) (x1 : Int32) (x2 : Int32) (μ : aMem) : Rn (d + 1) 194 (339, [.ref l0, .int x1, .int x2], [], μ) = some (none, μ) :=
  e_rt f_194_339 rfl
theorem pg_195 (pc : Nat) : fe0 195 pc = lk prg_195 pc := rfl
theorem f_195_0 : fe0 195 0 = some (.aload_n 0, 1, 0, 0, 0, 0, 0) := (pg_195 0).trans rfl
theorem f_195_1 : fe0 195 1 = some (.getfield 248, 3, 9, 23, 0, 0, 5047) := (pg_195 1).trans rfl
theorem f_195_4 : fe0 195 4 = some (.iconst 3, 1, 0, 0, 0, 0, 0) := (pg_195 4).trans rfl
theorem f_195_5 : fe0 195 5 = some (.if_icmp .ne 15, 3, 0, 0, 0, 0, 0) := (pg_195 5).trans rfl
theorem f_195_8 : fe0 195 8 = some (.aload_n 0, 1, 0, 0, 0, 0, 0) := (pg_195 8).trans rfl
theorem f_195_9 : fe0 195 9 = some (.getfield 257, 3, 9, 25, 0, 0, 5049) := (pg_195 9).trans rfl
theorem f_195_12 : fe0 195 12 = some (.iload_n 1, 1, 0, 0, 0, 0, 0) := (pg_195 12).trans rfl
theorem f_195_13 : fe0 195 13 = some (.if_icmp .ne 7, 3, 0, 0, 0, 0, 0) := (pg_195 13).trans rfl
theorem f_195_16 : fe0 195 16 = some (.iconst 1, 1, 0, 0, 0, 0, 0) := (pg_195 16).trans rfl
theorem f_195_17 : fe0 195 17 = some (.goto 4, 3, 0, 0, 0, 0, 0) := (pg_195 17).trans rfl
theorem f_195_20 : fe0 195 20 = some (.iconst 0, 1, 0, 0, 0, 0, 0) := (pg_195 20).trans rfl
theorem f_195_21 : fe0 195 21 = some (.ireturn, 1, 1, 0, 0, 0, 0) := (pg_195 21).trans rfl
theorem q_195_0 (d : Nat) (l0 : Nat) (x1 : Int32) (μ : aMem) : Rn d 195 (0, [.ref l0, .int x1], [], μ) = if (mS μ l0).1 = 9 then (if (mF μ l0 23) = 3 then (if (mF μ l0 25) = x1 then (some (some (.int 1), μ)) else (some (some (.int 0), μ))) else (some (some (.int 0), μ))) else none :=
  (e_nx f_195_0 rfl).trans ((e_gd f_195_1 rfl).trans (g_congr (Iff.rfl) (fun h1 => (e_nx (q := (_, _, .int 3 :: _, _)) f_195_4 rfl).trans ((e_ne f_195_5 rfl).trans (b_congr (fun h2 => (e_nx f_195_8 rfl).trans ((e_gk f_195_9 (h1) rfl).trans ((e_nx f_195_12 rfl).trans ((e_ne f_195_13 rfl).trans (b_congr (fun h3 => (e_nx (q := (_, _, .int 1 :: _, _)) f_195_16 rfl).trans ((e_nx f_195_17 rfl).trans (e_rt f_195_21 rfl))) (fun h3 => (e_nx (q := (_, _, .int 0 :: _, _)) f_195_20 rfl).trans (e_rt f_195_21 rfl))))))) (fun h2 => (e_nx (q := (_, _, .int 0 :: _, _)) f_195_20 rfl).trans (e_rt f_195_21 rfl)))))))
theorem pg_196 (pc : Nat) : fe0 196 pc = lk prg_196 pc := rfl
theorem f_196_0 : fe0 196 0 = some (.iload 4, 2, 0, 0, 0, 0, 0) := (pg_196 0).trans rfl
theorem f_196_2 : fe0 196 2 = some (.ifCond .ne 7, 3, 0, 0, 0, 0, 0) := (pg_196 2).trans rfl
theorem f_196_5 : fe0 196 5 = some (.iconst 3, 1, 0, 0, 0, 0, 0) := (pg_196 5).trans rfl
theorem f_196_6 : fe0 196 6 = some (.goto 4, 3, 0, 0, 0, 0, 0) := (pg_196 6).trans rfl
theorem f_196_9 : fe0 196 9 = some (.iconst 4, 1, 0, 0, 0, 0, 0) := (pg_196 9).trans rfl
theorem f_196_10 : fe0 196 10 = some (.istore 5, 2, 0, 0, 0, 0, 0) := (pg_196 10).trans rfl
theorem f_196_12 : fe0 196 12 = some (.aload_n 0, 1, 0, 0, 0, 0, 0) := (pg_196 12).trans rfl
theorem f_196_13 : fe0 196 13 = some (.getfield 248, 3, 9, 23, 0, 0, 5047) := (pg_196 13).trans rfl
theorem f_196_16 : fe0 196 16 = some (.iconst 1, 1, 0, 0, 0, 0, 0) := (pg_196 16).trans rfl
theorem f_196_17 : fe0 196 17 = some (.if_icmp .ne 85, 3, 0, 0, 0, 0, 0) := (pg_196 17).trans rfl
theorem f_196_20 : fe0 196 20 = some (.aload_n 0, 1, 0, 0, 0, 0, 0) := (pg_196 20).trans rfl
theorem f_196_21 : fe0 196 21 = some (.getfield 245, 3, 9, 22, 0, 0, 5046) := (pg_196 21).trans rfl
theorem f_196_24 : fe0 196 24 = some (.aload_n 0, 1, 0, 0, 0, 0, 0) := (pg_196 24).trans rfl
theorem f_196_25 : fe0 196 25 = some (.getfield 251, 3, 9, 21, 0, 0, 5045) := (pg_196 25).trans rfl
theorem f_196_28 : fe0 196 28 = some (.isub, 1, 0, 0, 0, 0, 0) := (pg_196 28).trans rfl
theorem f_196_29 : fe0 196 29 = some (.iload 5, 2, 0, 0, 0, 0, 0) := (pg_196 29).trans rfl
theorem f_196_31 : fe0 196 31 = some (.if_icmp .ne 71, 3, 0, 0, 0, 0, 0) := (pg_196 31).trans rfl
theorem f_196_34 : fe0 196 34 = some (.aload_n 0, 1, 0, 0, 0, 0, 0) := (pg_196 34).trans rfl
theorem f_196_35 : fe0 196 35 = some (.getfield 62, 3, 9, 19, 1, 0, 5043) := (pg_196 35).trans rfl
theorem f_196_38 : fe0 196 38 = some (.aload_n 0, 1, 0, 0, 0, 0, 0) := (pg_196 38).trans rfl
theorem f_196_39 : fe0 196 39 = some (.getfield 251, 3, 9, 21, 0, 0, 5045) := (pg_196 39).trans rfl
theorem f_196_42 : fe0 196 42 = some (.iaload, 1, 0, 0, 0, 0, 0) := (pg_196 42).trans rfl
theorem f_196_43 : fe0 196 43 = some (.iload_n 1, 1, 0, 0, 0, 0, 0) := (pg_196 43).trans rfl
theorem f_196_44 : fe0 196 44 = some (.if_icmp .ne 58, 3, 0, 0, 0, 0, 0) := (pg_196 44).trans rfl
theorem f_196_47 : fe0 196 47 = some (.aload_n 0, 1, 0, 0, 0, 0, 0) := (pg_196 47).trans rfl
theorem f_196_48 : fe0 196 48 = some (.getfield 62, 3, 9, 19, 1, 0, 5043) := (pg_196 48).trans rfl
theorem f_196_51 : fe0 196 51 = some (.aload_n 0, 1, 0, 0, 0, 0, 0) := (pg_196 51).trans rfl
theorem f_196_52 : fe0 196 52 = some (.getfield 251, 3, 9, 21, 0, 0, 5045) := (pg_196 52).trans rfl
theorem f_196_55 : fe0 196 55 = some (.iconst 1, 1, 0, 0, 0, 0, 0) := (pg_196 55).trans rfl
theorem f_196_56 : fe0 196 56 = some (.iadd, 1, 0, 0, 0, 0, 0) := (pg_196 56).trans rfl
theorem f_196_57 : fe0 196 57 = some (.iaload, 1, 0, 0, 0, 0, 0) := (pg_196 57).trans rfl
theorem f_196_58 : fe0 196 58 = some (.iload_n 2, 1, 0, 0, 0, 0, 0) := (pg_196 58).trans rfl
theorem f_196_59 : fe0 196 59 = some (.if_icmp .ne 43, 3, 0, 0, 0, 0, 0) := (pg_196 59).trans rfl
theorem f_196_62 : fe0 196 62 = some (.aload_n 0, 1, 0, 0, 0, 0, 0) := (pg_196 62).trans rfl
theorem f_196_63 : fe0 196 63 = some (.getfield 62, 3, 9, 19, 1, 0, 5043) := (pg_196 63).trans rfl
theorem f_196_66 : fe0 196 66 = some (.aload_n 0, 1, 0, 0, 0, 0, 0) := (pg_196 66).trans rfl
theorem f_196_67 : fe0 196 67 = some (.getfield 251, 3, 9, 21, 0, 0, 5045) := (pg_196 67).trans rfl
theorem f_196_70 : fe0 196 70 = some (.iconst 2, 1, 0, 0, 0, 0, 0) := (pg_196 70).trans rfl
theorem f_196_71 : fe0 196 71 = some (.iadd, 1, 0, 0, 0, 0, 0) := (pg_196 71).trans rfl
theorem f_196_72 : fe0 196 72 = some (.iaload, 1, 0, 0, 0, 0, 0) := (pg_196 72).trans rfl
theorem f_196_73 : fe0 196 73 = some (.iload_n 3, 1, 0, 0, 0, 0, 0) := (pg_196 73).trans rfl
theorem f_196_74 : fe0 196 74 = some (.if_icmp .ne 28, 3, 0, 0, 0, 0, 0) := (pg_196 74).trans rfl
theorem f_196_77 : fe0 196 77 = some (.iload 4, 2, 0, 0, 0, 0, 0) := (pg_196 77).trans rfl
theorem f_196_79 : fe0 196 79 = some (.ifCond .eq 19, 3, 0, 0, 0, 0, 0) := (pg_196 79).trans rfl
theorem f_196_82 : fe0 196 82 = some (.aload_n 0, 1, 0, 0, 0, 0, 0) := (pg_196 82).trans rfl
theorem f_196_83 : fe0 196 83 = some (.getfield 62, 3, 9, 19, 1, 0, 5043) := (pg_196 83).trans rfl
theorem f_196_86 : fe0 196 86 = some (.aload_n 0, 1, 0, 0, 0, 0, 0) := (pg_196 86).trans rfl
theorem f_196_87 : fe0 196 87 = some (.getfield 251, 3, 9, 21, 0, 0, 5045) := (pg_196 87).trans rfl
theorem f_196_90 : fe0 196 90 = some (.iconst 3, 1, 0, 0, 0, 0, 0) := (pg_196 90).trans rfl
theorem f_196_91 : fe0 196 91 = some (.iadd, 1, 0, 0, 0, 0, 0) := (pg_196 91).trans rfl
theorem f_196_92 : fe0 196 92 = some (.iaload, 1, 0, 0, 0, 0, 0) := (pg_196 92).trans rfl
theorem f_196_93 : fe0 196 93 = some (.iload 4, 2, 0, 0, 0, 0, 0) := (pg_196 93).trans rfl
theorem f_196_95 : fe0 196 95 = some (.if_icmp .ne 7, 3, 0, 0, 0, 0, 0) := (pg_196 95).trans rfl
theorem f_196_98 : fe0 196 98 = some (.iconst 1, 1, 0, 0, 0, 0, 0) := (pg_196 98).trans rfl
theorem f_196_99 : fe0 196 99 = some (.goto 4, 3, 0, 0, 0, 0, 0) := (pg_196 99).trans rfl
theorem f_196_102 : fe0 196 102 = some (.iconst 0, 1, 0, 0, 0, 0, 0) := (pg_196 102).trans rfl
theorem f_196_103 : fe0 196 103 = some (.ireturn, 1, 1, 0, 0, 0, 0) := (pg_196 103).trans rfl
theorem q_196_0 (d : Nat) (l0 : Nat) (x1 : Int32) (x2 : Int32) (x3 : Int32) (x4 : Int32) (μ : aMem) : Rn d 196 (0, [.ref l0, .int x1, .int x2, .int x3, .int x4, un], [], μ) = if x4 = 0 then (if (mS μ l0).1 = 9 then (if (mF μ l0 23) = 1 then (if ((mF μ l0 22) - (mF μ l0 21)) = 3 then ((rdI μ (mR μ l0 19) (mF μ l0 21)).bind fun v5 => if v5 = x1 then ((rdI μ (mR μ l0 19) ((mF μ l0 21) + 1)).bind fun v7 => if v7 = x2 then ((rdI μ (mR μ l0 19) ((mF μ l0 21) + 2)).bind fun v9 => if v9 = x3 then (some (some (.int 1), μ)) else (some (some (.int 0), μ))) else (some (some (.int 0), μ))) else (some (some (.int 0), μ))) else (some (some (.int 0), μ))) else (some (some (.int 0), μ))) else none) else (if (mS μ l0).1 = 9 then (if (mF μ l0 23) = 1 then (if ((mF μ l0 22) - (mF μ l0 21)) = 4 then ((rdI μ (mR μ l0 19) (mF μ l0 21)).bind fun v15 => if v15 = x1 then ((rdI μ (mR μ l0 19) ((mF μ l0 21) + 1)).bind fun v17 => if v17 = x2 then ((rdI μ (mR μ l0 19) ((mF μ l0 21) + 2)).bind fun v19 => if v19 = x3 then ((rdI μ (mR μ l0 19) ((mF μ l0 21) + 3)).bind fun v22 => if v22 = x4 then (some (some (.int 1), μ)) else (some (some (.int 0), μ))) else (some (some (.int 0), μ))) else (some (some (.int 0), μ))) else (some (some (.int 0), μ))) else (some (some (.int 0), μ))) else (some (some (.int 0), μ))) else none) :=
  (e_nx f_196_0 rfl).trans ((e_ne f_196_2 rfl).trans (b_congr (fun h1 => (e_nx (q := (_, _, .int 3 :: _, _)) f_196_5 rfl).trans ((e_nx f_196_6 rfl).trans ((e_nx (q := (_, [.ref l0, .int x1, .int x2, .int x3, .int x4, .int 3], _, _)) f_196_10 rfl).trans ((e_nx f_196_12 rfl).trans ((e_gd f_196_13 rfl).trans (g_congr (Iff.rfl) (fun h2 => (e_nx (q := (_, _, .int 1 :: _, _)) f_196_16 rfl).trans ((e_ne f_196_17 rfl).trans (b_congr (fun h3 => (e_nx f_196_20 rfl).trans ((e_gk f_196_21 (h2) rfl).trans ((e_nx f_196_24 rfl).trans ((e_gk f_196_25 (h2) rfl).trans ((e_nx f_196_28 rfl).trans ((e_nx f_196_29 rfl).trans ((e_ne f_196_31 rfl).trans (b_congr (fun h4 => (e_nx f_196_34 rfl).trans ((e_gk f_196_35 (h2) rfl).trans ((e_nx f_196_38 rfl).trans ((e_gk f_196_39 (h2) rfl).trans ((e_ia (L := [.ref l0, .int x1, .int x2, .int x3, .int x4, .int 3]) (r := []) (μ := μ) f_196_42).trans (m_congr fun v5 => (e_nx f_196_43 rfl).trans ((e_ne f_196_44 rfl).trans (b_congr (fun h6 => (e_nx f_196_47 rfl).trans ((e_gk f_196_48 (h2) rfl).trans ((e_nx f_196_51 rfl).trans ((e_gk f_196_52 (h2) rfl).trans ((e_nx (q := (_, _, .int 1 :: _, _)) f_196_55 rfl).trans ((e_nx f_196_56 rfl).trans ((e_ia (L := [.ref l0, .int x1, .int x2, .int x3, .int x4, .int 3]) (r := []) (μ := μ) f_196_57).trans (m_congr fun v7 => (e_nx f_196_58 rfl).trans ((e_ne f_196_59 rfl).trans (b_congr (fun h8 => (e_nx f_196_62 rfl).trans ((e_gk f_196_63 (h2) rfl).trans ((e_nx f_196_66 rfl).trans ((e_gk f_196_67 (h2) rfl).trans ((e_nx (q := (_, _, .int 2 :: _, _)) f_196_70 rfl).trans ((e_nx f_196_71 rfl).trans ((e_ia (L := [.ref l0, .int x1, .int x2, .int x3, .int x4, .int 3]) (r := []) (μ := μ) f_196_72).trans (m_congr fun v9 => (e_nx f_196_73 rfl).trans ((e_ne f_196_74 rfl).trans (b_congr (fun h10 => (e_nx f_196_77 rfl).trans (((e_eq f_196_79 rfl).trans (if_pos h1)).trans ((e_nx (q := (_, _, .int 1 :: _, _)) f_196_98 rfl).trans ((e_nx f_196_99 rfl).trans (e_rt f_196_103 rfl))))) (fun h10 => (e_nx (q := (_, _, .int 0 :: _, _)) f_196_102 rfl).trans (e_rt f_196_103 rfl)))))))))))) (fun h8 => (e_nx (q := (_, _, .int 0 :: _, _)) f_196_102 rfl).trans (e_rt f_196_103 rfl)))))))))))) (fun h6 => (e_nx (q := (_, _, .int 0 :: _, _)) f_196_102 rfl).trans (e_rt f_196_103 rfl)))))))))) (fun h4 => (e_nx (q := (_, _, .int 0 :: _, _)) f_196_102 rfl).trans (e_rt f_196_103 rfl)))))))))) (fun h3 => (e_nx (q := (_, _, .int 0 :: _, _)) f_196_102 rfl).trans (e_rt f_196_103 rfl))))))))))) (fun h1 => (e_nx (q := (_, _, .int 4 :: _, _)) f_196_9 rfl).trans ((e_nx (q := (_, [.ref l0, .int x1, .int x2, .int x3, .int x4, .int 4], _, _)) f_196_10 rfl).trans ((e_nx f_196_12 rfl).trans ((e_gd f_196_13 rfl).trans (g_congr (Iff.rfl) (fun h12 => (e_nx (q := (_, _, .int 1 :: _, _)) f_196_16 rfl).trans ((e_ne f_196_17 rfl).trans (b_congr (fun h13 => (e_nx f_196_20 rfl).trans ((e_gk f_196_21 (h12) rfl).trans ((e_nx f_196_24 rfl).trans ((e_gk f_196_25 (h12) rfl).trans ((e_nx f_196_28 rfl).trans ((e_nx f_196_29 rfl).trans ((e_ne f_196_31 rfl).trans (b_congr (fun h14 => (e_nx f_196_34 rfl).trans ((e_gk f_196_35 (h12) rfl).trans ((e_nx f_196_38 rfl).trans ((e_gk f_196_39 (h12) rfl).trans ((e_ia (L := [.ref l0, .int x1, .int x2, .int x3, .int x4, .int 4]) (r := []) (μ := μ) f_196_42).trans (m_congr fun v15 => (e_nx f_196_43 rfl).trans ((e_ne f_196_44 rfl).trans (b_congr (fun h16 => (e_nx f_196_47 rfl).trans ((e_gk f_196_48 (h12) rfl).trans ((e_nx f_196_51 rfl).trans ((e_gk f_196_52 (h12) rfl).trans ((e_nx (q := (_, _, .int 1 :: _, _)) f_196_55 rfl).trans ((e_nx f_196_56 rfl).trans ((e_ia (L := [.ref l0, .int x1, .int x2, .int x3, .int x4, .int 4]) (r := []) (μ := μ) f_196_57).trans (m_congr fun v17 => (e_nx f_196_58 rfl).trans ((e_ne f_196_59 rfl).trans (b_congr (fun h18 => (e_nx f_196_62 rfl).trans ((e_gk f_196_63 (h12) rfl).trans ((e_nx f_196_66 rfl).trans ((e_gk f_196_67 (h12) rfl).trans ((e_nx (q := (_, _, .int 2 :: _, _)) f_196_70 rfl).trans ((e_nx f_196_71 rfl).trans ((e_ia (L := [.ref l0, .int x1, .int x2, .int x3, .int x4, .int 4]) (r := []) (μ := μ) f_196_72).trans (m_congr fun v19 => (e_nx f_196_73 rfl).trans ((e_ne f_196_74 rfl).trans (b_congr (fun h20 => (e_nx f_196_77 rfl).trans (((e_eq f_196_79 rfl).trans (if_neg h1)).trans ((e_nx f_196_82 rfl).trans ((e_gk f_196_83 (h12) rfl).trans ((e_nx f_196_86 rfl).trans ((e_gk f_196_87 (h12) rfl).trans ((e_nx (q := (_, _, .int 3 :: _, _)) f_196_90 rfl).trans ((e_nx f_196_91 rfl).trans ((e_ia (L := [.ref l0, .int x1, .int x2, .int x3, .int x4, .int 4]) (r := []) (μ := μ) f_196_92).trans (m_congr fun v22 => (e_nx f_196_93 rfl).trans ((e_ne f_196_95 rfl).trans (b_congr (fun h23 => (e_nx (q := (_, _, .int 1 :: _, _)) f_196_98 rfl).trans ((e_nx f_196_99 rfl).trans (e_rt f_196_103 rfl))) (fun h23 => (e_nx (q := (_, _, .int 0 :: _, _)) f_196_102 rfl).trans (e_rt f_196_103 rfl)))))))))))))) (fun h20 => (e_nx (q := (_, _, .int 0 :: _, _)) f_196_102 rfl).trans (e_rt f_196_103 rfl)))))))))))) (fun h18 => (e_nx (q := (_, _, .int 0 :: _, _)) f_196_102 rfl).trans (e_rt f_196_103 rfl)))))))))))) (fun h16 => (e_nx (q := (_, _, .int 0 :: _, _)) f_196_102 rfl).trans (e_rt f_196_103 rfl)))))))))) (fun h14 => (e_nx (q := (_, _, .int 0 :: _, _)) f_196_102 rfl).trans (e_rt f_196_103 rfl)))))))))) (fun h13 => (e_nx (q := (_, _, .int 0 :: _, _)) f_196_102 rfl).trans (e_rt f_196_103 rfl))))))))))))
theorem pg_197 (pc : Nat) : fe0 197 pc = lk prg_197 pc := rfl
theorem f_197_0 : fe0 197 0 = some (.aload_n 0, 1, 0, 0, 0, 0, 0) := (pg_197 0).trans rfl
theorem f_197_1 : fe0 197 1 = some (.bipush 115, 2, 0, 0, 0, 0, 0) := (pg_197 1).trans rfl
theorem f_197_3 : fe0 197 3 = some (.bipush 97, 2, 0, 0, 0, 0, 0) := (pg_197 3).trans rfl
theorem f_197_5 : fe0 197 5 = some (.bipush 121, 2, 0, 0, 0, 0, 0) := (pg_197 5).trans rfl
theorem f_197_7 : fe0 197 7 = some (.iconst 0, 1, 0, 0, 0, 0, 0) := (pg_197 7).trans rfl
theorem f_197_8 : fe0 197 8 = some (.invokevirtual 266, 3, 196, 4, 0, 9, 6175) := (pg_197 8).trans rfl
theorem f_197_11 : fe0 197 11 = some (.ifCond .eq 5, 3, 0, 0, 0, 0, 0) := (pg_197 11).trans rfl
theorem f_197_14 : fe0 197 14 = some (.iconst 0, 1, 0, 0, 0, 0, 0) := (pg_197 14).trans rfl
theorem f_197_15 : fe0 197 15 = some (.ireturn, 1, 0, 0, 0, 0, 0) := (pg_197 15).trans rfl
theorem f_197_16 : fe0 197 16 = some (.aload_n 0, 1, 0, 0, 0, 0, 0) := (pg_197 16).trans rfl
theorem f_197_17 : fe0 197 17 = some (.bipush 119, 2, 0, 0, 0, 0, 0) := (pg_197 17).trans rfl
theorem f_197_19 : fe0 197 19 = some (.bipush 97, 2, 0, 0, 0, 0, 0) := (pg_197 19).trans rfl
theorem f_197_21 : fe0 197 21 = some (.bipush 105, 2, 0, 0, 0, 0, 0) := (pg_197 21).trans rfl
theorem f_197_23 : fe0 197 23 = some (.bipush 116, 2, 0, 0, 0, 0, 0) := (pg_197 23).trans rfl
theorem f_197_25 : fe0 197 25 = some (.invokevirtual 266, 3, 196, 4, 0, 9, 6175) := (pg_197 25).trans rfl
theorem f_197_28 : fe0 197 28 = some (.ifCond .eq 5, 3, 0, 0, 0, 0, 0) := (pg_197 28).trans rfl
theorem f_197_31 : fe0 197 31 = some (.iconst 1, 1, 0, 0, 0, 0, 0) := (pg_197 31).trans rfl
theorem f_197_32 : fe0 197 32 = some (.ireturn, 1, 0, 0, 0, 0, 0) := (pg_197 32).trans rfl
theorem f_197_33 : fe0 197 33 = some (.aload_n 0, 1, 0, 0, 0, 0, 0) := (pg_197 33).trans rfl
theorem f_197_34 : fe0 197 34 = some (.bipush 102, 2, 0, 0, 0, 0, 0) := (pg_197 34).trans rfl
theorem f_197_36 : fe0 197 36 = some (.bipush 105, 2, 0, 0, 0, 0, 0) := (pg_197 36).trans rfl
theorem f_197_38 : fe0 197 38 = some (.bipush 110, 2, 0, 0, 0, 0, 0) := (pg_197 38).trans rfl
theorem f_197_40 : fe0 197 40 = some (.bipush 101, 2, 0, 0, 0, 0, 0) := (pg_197 40).trans rfl
theorem f_197_42 : fe0 197 42 = some (.invokevirtual 266, 3, 196, 4, 0, 9, 6175) := (pg_197 42).trans rfl
theorem f_197_45 : fe0 197 45 = some (.ifCond .eq 7, 3, 0, 0, 0, 0, 0) := (pg_197 45).trans rfl
theorem f_197_48 : fe0 197 48 = some (.iconst 2, 1, 0, 0, 0, 0, 0) := (pg_197 48).trans rfl
theorem f_197_49 : fe0 197 49 = some (.goto 4, 3, 0, 0, 0, 0, 0) := (pg_197 49).trans rfl
theorem f_197_52 : fe0 197 52 = some (.iconst (-1), 1, 0, 0, 0, 0, 0) := (pg_197 52).trans rfl
theorem f_197_53 : fe0 197 53 = some (.ireturn, 1, 0, 0, 0, 0, 0) := (pg_197 53).trans rfl
theorem q_197_0 (d : Nat) (l0 : Nat) (μ : aMem) : Rn (d + 1) 197 (0, [.ref l0], [], μ) = if (mS μ l0).1 = 9 ∧ l0 < 999999 then ((cI d 196 [.ref l0, .int 115, .int 97, .int 121, .int 0] μ).bind fun p1 => if p1.1 = 0 then (if (mS p1.2 l0).1 = 9 ∧ l0 < 999999 then ((cI d 196 [.ref l0, .int 119, .int 97, .int 105, .int 116] p1.2).bind fun p4 => if p4.1 = 0 then (if (mS p4.2 l0).1 = 9 ∧ l0 < 999999 then ((cI d 196 [.ref l0, .int 102, .int 105, .int 110, .int 101] p4.2).bind fun p7 => if p7.1 = 0 then (some (some (.int (-1)), p7.2)) else (some (some (.int 2), p7.2))) else none) else (some (some (.int 1), p4.2))) else none) else (some (some (.int 0), p1.2))) else none :=
  (e_nx f_197_0 rfl).trans ((e_nx (q := (_, _, .int 115 :: _, _)) f_197_1 rfl).trans ((e_nx (q := (_, _, .int 97 :: _, _)) f_197_3 rfl).trans ((e_nx (q := (_, _, .int 121 :: _, _)) f_197_5 rfl).trans ((e_nx (q := (_, _, .int 0 :: _, _)) f_197_7 rfl).trans ((e_gI (L := [.ref l0]) (st := [.int 0, .int 121, .int 97, .int 115, .ref l0]) (μ := μ) (L' := [.ref l0]) (st' := []) f_197_8 rfl rfl).trans (g_congr (v_c2 rfl (Nat.le_of_ble_eq_true rfl)) (fun h2 => m_congr fun p1 => (e_eq f_197_11 rfl).trans (b_congr (fun h3 => (e_nx f_197_16 rfl).trans ((e_nx (q := (_, _, .int 119 :: _, _)) f_197_17 rfl).trans ((e_nx (q := (_, _, .int 97 :: _, _)) f_197_19 rfl).trans ((e_nx (q := (_, _, .int 105 :: _, _)) f_197_21 rfl).trans ((e_nx (q := (_, _, .int 116 :: _, _)) f_197_23 rfl).trans ((e_gI (L := [.ref l0]) (st := [.int 116, .int 105, .int 97, .int 119, .ref l0]) (μ := p1.2) (L' := [.ref l0]) (st' := []) f_197_25 rfl rfl).trans (g_congr (v_c2 rfl (Nat.le_of_ble_eq_true rfl)) (fun h5 => m_congr fun p4 => (e_eq f_197_28 rfl).trans (b_congr (fun h6 => (e_nx f_197_33 rfl).trans ((e_nx (q := (_, _, .int 102 :: _, _)) f_197_34 rfl).trans ((e_nx (q := (_, _, .int 105 :: _, _)) f_197_36 rfl).trans ((e_nx (q := (_, _, .int 110 :: _, _)) f_197_38 rfl).trans ((e_nx (q := (_, _, .int 101 :: _, _)) f_197_40 rfl).trans ((e_gI (L := [.ref l0]) (st := [.int 101, .int 110, .int 105, .int 102, .ref l0]) (μ := p4.2) (L' := [.ref l0]) (st' := []) f_197_42 rfl rfl).trans (g_congr (v_c2 rfl (Nat.le_of_ble_eq_true rfl)) (fun h8 => m_congr fun p7 => (e_eq f_197_45 rfl).trans (b_congr (fun h9 => (e_nx (q := (_, _, .int (-1) :: _, _)) f_197_52 rfl).trans (e_rt f_197_53 rfl)) (fun h9 => (e_nx (q := (_, _, .int 2 :: _, _)) f_197_48 rfl).trans ((e_nx f_197_49 rfl).trans (e_rt f_197_53 rfl)))))))))))) (fun h6 => (e_nx (q := (_, _, .int 1 :: _, _)) f_197_31 rfl).trans (e_rt f_197_32 rfl))))))))))) (fun h3 => (e_nx (q := (_, _, .int 0 :: _, _)) f_197_14 rfl).trans (e_rt f_197_15 rfl))))))))))
theorem pg_198 (pc : Nat) : fe0 198 pc = lk prg_198 pc := rfl
theorem f_198_0 : fe0 198 0 = some (.iload_n 0, 1, 0, 0, 0, 0, 0) := (pg_198 0).trans rfl
theorem f_198_1 : fe0 198 1 = some (.lookupswitch 75 #[(0, 27), (1, 51)], 27, 0, 0, 0, 0, 0) := (pg_198 1).trans rfl
theorem f_198_28 : fe0 198 28 = some (.iload_n 1, 1, 0, 0, 0, 0, 0) := (pg_198 28).trans rfl
theorem f_198_29 : fe0 198 29 = some (.bipush 103, 2, 0, 0, 0, 0, 0) := (pg_198 29).trans rfl
theorem f_198_31 : fe0 198 31 = some (.if_icmp .eq 15, 3, 0, 0, 0, 0, 0) := (pg_198 31).trans rfl
theorem f_198_34 : fe0 198 34 = some (.iload_n 1, 1, 0, 0, 0, 0, 0) := (pg_198 34).trans rfl
theorem f_198_35 : fe0 198 35 = some (.bipush 116, 2, 0, 0, 0, 0, 0) := (pg_198 35).trans rfl
theorem f_198_37 : fe0 198 37 = some (.if_icmp .eq 9, 3, 0, 0, 0, 0, 0) := (pg_198 37).trans rfl
theorem f_198_40 : fe0 198 40 = some (.iload_n 1, 1, 0, 0, 0, 0, 0) := (pg_198 40).trans rfl
theorem f_198_41 : fe0 198 41 = some (.bipush 102, 2, 0, 0, 0, 0, 0) := (pg_198 41).trans rfl
theorem f_198_43 : fe0 198 43 = some (.if_icmp .ne 7, 3, 0, 0, 0, 0, 0) := (pg_198 43).trans rfl
theorem f_198_46 : fe0 198 46 = some (.iconst 1, 1, 0, 0, 0, 0, 0) := (pg_198 46).trans rfl
theorem f_198_47 : fe0 198 47 = some (.goto 4, 3, 0, 0, 0, 0, 0) := (pg_198 47).trans rfl
theorem f_198_50 : fe0 198 50 = some (.iconst 0, 1, 0, 0, 0, 0, 0) := (pg_198 50).trans rfl
theorem f_198_51 : fe0 198 51 = some (.ireturn, 1, 1, 0, 0, 0, 0) := (pg_198 51).trans rfl
theorem f_198_52 : fe0 198 52 = some (.iload_n 1, 1, 0, 0, 0, 0, 0) := (pg_198 52).trans rfl
theorem f_198_53 : fe0 198 53 = some (.bipush 110, 2, 0, 0, 0, 0, 0) := (pg_198 53).trans rfl
theorem f_198_55 : fe0 198 55 = some (.if_icmp .eq 15, 3, 0, 0, 0, 0, 0) := (pg_198 55).trans rfl
theorem f_198_58 : fe0 198 58 = some (.iload_n 1, 1, 0, 0, 0, 0, 0) := (pg_198 58).trans rfl
theorem f_198_59 : fe0 198 59 = some (.bipush 103, 2, 0, 0, 0, 0, 0) := (pg_198 59).trans rfl
theorem f_198_61 : fe0 198 61 = some (.if_icmp .eq 9, 3, 0, 0, 0, 0, 0) := (pg_198 61).trans rfl
theorem f_198_64 : fe0 198 64 = some (.iload_n 1, 1, 0, 0, 0, 0, 0) := (pg_198 64).trans rfl
theorem f_198_65 : fe0 198 65 = some (.bipush 116, 2, 0, 0, 0, 0, 0) := (pg_198 65).trans rfl
theorem f_198_67 : fe0 198 67 = some (.if_icmp .ne 7, 3, 0, 0, 0, 0, 0) := (pg_198 67).trans rfl
theorem f_198_70 : fe0 198 70 = some (.iconst 1, 1, 0, 0, 0, 0, 0) := (pg_198 70).trans rfl
theorem f_198_71 : fe0 198 71 = some (.goto 4, 3, 0, 0, 0, 0, 0) := (pg_198 71).trans rfl
theorem f_198_74 : fe0 198 74 = some (.iconst 0, 1, 0, 0, 0, 0, 0) := (pg_198 74).trans rfl
theorem f_198_75 : fe0 198 75 = some (.ireturn, 1, 1, 0, 0, 0, 0) := (pg_198 75).trans rfl
theorem f_198_76 : fe0 198 76 = some (.iload_n 1, 1, 0, 0, 0, 0, 0) := (pg_198 76).trans rfl
theorem f_198_77 : fe0 198 77 = some (.bipush 101, 2, 0, 0, 0, 0, 0) := (pg_198 77).trans rfl
theorem f_198_79 : fe0 198 79 = some (.if_icmp .eq 9, 3, 0, 0, 0, 0, 0) := (pg_198 79).trans rfl
theorem f_198_82 : fe0 198 82 = some (.iload_n 1, 1, 0, 0, 0, 0, 0) := (pg_198 82).trans rfl
theorem f_198_83 : fe0 198 83 = some (.bipush 100, 2, 0, 0, 0, 0, 0) := (pg_198 83).trans rfl
theorem f_198_85 : fe0 198 85 = some (.if_icmp .ne 7, 3, 0, 0, 0, 0, 0) := (pg_198 85).trans rfl
theorem f_198_88 : fe0 198 88 = some (.iconst 1, 1, 0, 0, 0, 0, 0) := (pg_198 88).trans rfl
theorem f_198_89 : fe0 198 89 = some (.goto 4, 3, 0, 0, 0, 0, 0) := (pg_198 89).trans rfl
theorem f_198_92 : fe0 198 92 = some (.iconst 0, 1, 0, 0, 0, 0, 0) := (pg_198 92).trans rfl
theorem f_198_93 : fe0 198 93 = some (.ireturn, 1, 1, 0, 0, 0, 0) := (pg_198 93).trans rfl
theorem q_198_0 (d : Nat) (x0 : Int32) (x1 : Int32) (μ : aMem) : Rn d 198 (0, [.int x0, .int x1], [], μ) = if x0 = 0 then (if x1 = 103 then (some (some (.int 1), μ)) else (if x1 = 116 then (some (some (.int 1), μ)) else (if x1 = 102 then (some (some (.int 1), μ)) else (some (some (.int 0), μ))))) else (if x0 = 1 then (if x1 = 110 then (some (some (.int 1), μ)) else (if x1 = 103 then (some (some (.int 1), μ)) else (if x1 = 116 then (some (some (.int 1), μ)) else (some (some (.int 0), μ))))) else (if x1 = 101 then (some (some (.int 1), μ)) else (if x1 = 100 then (some (some (.int 1), μ)) else (some (some (.int 0), μ))))) :=
  (e_nx f_198_0 rfl).trans ((e_lks f_198_1 (ts := [(0, 28), (1, 52)]) (df := 76) rfl rfl (by decide)).trans (b_congr (fun _ => (e_nx f_198_28 rfl).trans ((e_nx (q := (_, _, .int 103 :: _, _)) f_198_29 rfl).trans ((e_eq f_198_31 rfl).trans (b_congr (fun h1 => (e_nx (q := (_, _, .int 1 :: _, _)) f_198_46 rfl).trans ((e_nx f_198_47 rfl).trans (e_rt f_198_51 rfl))) (fun h1 => (e_nx f_198_34 rfl).trans ((e_nx (q := (_, _, .int 116 :: _, _)) f_198_35 rfl).trans ((e_eq f_198_37 rfl).trans (b_congr (fun h2 => (e_nx (q := (_, _, .int 1 :: _, _)) f_198_46 rfl).trans ((e_nx f_198_47 rfl).trans (e_rt f_198_51 rfl))) (fun h2 => (e_nx f_198_40 rfl).trans ((e_nx (q := (_, _, .int 102 :: _, _)) f_198_41 rfl).trans ((e_ne f_198_43 rfl).trans (b_congr (fun h3 => (e_nx (q := (_, _, .int 1 :: _, _)) f_198_46 rfl).trans ((e_nx f_198_47 rfl).trans (e_rt f_198_51 rfl))) (fun h3 => (e_nx (q := (_, _, .int 0 :: _, _)) f_198_50 rfl).trans (e_rt f_198_51 rfl)))))))))))))) (fun _ => b_congr (fun _ => (e_nx f_198_52 rfl).trans ((e_nx (q := (_, _, .int 110 :: _, _)) f_198_53 rfl).trans ((e_eq f_198_55 rfl).trans (b_congr (fun h4 => (e_nx (q := (_, _, .int 1 :: _, _)) f_198_70 rfl).trans ((e_nx f_198_71 rfl).trans (e_rt f_198_75 rfl))) (fun h4 => (e_nx f_198_58 rfl).trans ((e_nx (q := (_, _, .int 103 :: _, _)) f_198_59 rfl).trans ((e_eq f_198_61 rfl).trans (b_congr (fun h5 => (e_nx (q := (_, _, .int 1 :: _, _)) f_198_70 rfl).trans ((e_nx f_198_71 rfl).trans (e_rt f_198_75 rfl))) (fun h5 => (e_nx f_198_64 rfl).trans ((e_nx (q := (_, _, .int 116 :: _, _)) f_198_65 rfl).trans ((e_ne f_198_67 rfl).trans (b_congr (fun h6 => (e_nx (q := (_, _, .int 1 :: _, _)) f_198_70 rfl).trans ((e_nx f_198_71 rfl).trans (e_rt f_198_75 rfl))) (fun h6 => (e_nx (q := (_, _, .int 0 :: _, _)) f_198_74 rfl).trans (e_rt f_198_75 rfl)))))))))))))) (fun _ => (e_nx f_198_76 rfl).trans ((e_nx (q := (_, _, .int 101 :: _, _)) f_198_77 rfl).trans ((e_eq f_198_79 rfl).trans (b_congr (fun h7 => (e_nx (q := (_, _, .int 1 :: _, _)) f_198_88 rfl).trans ((e_nx f_198_89 rfl).trans (e_rt f_198_93 rfl))) (fun h7 => (e_nx f_198_82 rfl).trans ((e_nx (q := (_, _, .int 100 :: _, _)) f_198_83 rfl).trans ((e_ne f_198_85 rfl).trans (b_congr (fun h8 => (e_nx (q := (_, _, .int 1 :: _, _)) f_198_88 rfl).trans ((e_nx f_198_89 rfl).trans (e_rt f_198_93 rfl))) (fun h8 => (e_nx (q := (_, _, .int 0 :: _, _)) f_198_92 rfl).trans (e_rt f_198_93 rfl)))))))))))))
theorem pg_199 (pc : Nat) : fe0 199 pc = lk prg_199 pc := rfl
theorem f_199_0 : fe0 199 0 = some (.aload_n 0, 1, 0, 0, 0, 0, 0) := (pg_199 0).trans rfl
theorem f_199_1 : fe0 199 1 = some (.getfield 7, 3, 9, 0, 1, 0, 5024) := (pg_199 1).trans rfl
theorem f_199_4 : fe0 199 4 = some (.aload_n 0, 1, 0, 0, 0, 0, 0) := (pg_199 4).trans rfl
theorem f_199_5 : fe0 199 5 = some (.getfield 270, 3, 9, 29, 0, 0, 5053) := (pg_199 5).trans rfl
theorem f_199_8 : fe0 199 8 = some (.iconst 2, 1, 0, 0, 0, 0, 0) := (pg_199 8).trans rfl
theorem f_199_9 : fe0 199 9 = some (.aload_n 0, 1, 0, 0, 0, 0, 0) := (pg_199 9).trans rfl
theorem f_199_10 : fe0 199 10 = some (.getfield 273, 3, 9, 28, 0, 0, 5052) := (pg_199 10).trans rfl
theorem f_199_13 : fe0 199 13 = some (.imul, 1, 0, 0, 0, 0, 0) := (pg_199 13).trans rfl
theorem f_199_14 : fe0 199 14 = some (.iadd, 1, 0, 0, 0, 0, 0) := (pg_199 14).trans rfl
theorem f_199_15 : fe0 199 15 = some (.iload_n 1, 1, 0, 0, 0, 0, 0) := (pg_199 15).trans rfl
theorem f_199_16 : fe0 199 16 = some (.iastore, 1, 0, 0, 0, 0, 0) := (pg_199 16).trans rfl
theorem f_199_17 : fe0 199 17 = some (.aload_n 0, 1, 0, 0, 0, 0, 0) := (pg_199 17).trans rfl
theorem f_199_18 : fe0 199 18 = some (.getfield 7, 3, 9, 0, 1, 0, 5024) := (pg_199 18).trans rfl
theorem f_199_21 : fe0 199 21 = some (.aload_n 0, 1, 0, 0, 0, 0, 0) := (pg_199 21).trans rfl
theorem f_199_22 : fe0 199 22 = some (.getfield 270, 3, 9, 29, 0, 0, 5053) := (pg_199 22).trans rfl
theorem f_199_25 : fe0 199 25 = some (.iconst 2, 1, 0, 0, 0, 0, 0) := (pg_199 25).trans rfl
theorem f_199_26 : fe0 199 26 = some (.aload_n 0, 1, 0, 0, 0, 0, 0) := (pg_199 26).trans rfl
theorem f_199_27 : fe0 199 27 = some (.getfield 273, 3, 9, 28, 0, 0, 5052) := (pg_199 27).trans rfl
theorem f_199_30 : fe0 199 30 = some (.imul, 1, 0, 0, 0, 0, 0) := (pg_199 30).trans rfl
theorem f_199_31 : fe0 199 31 = some (.iadd, 1, 0, 0, 0, 0, 0) := (pg_199 31).trans rfl
theorem f_199_32 : fe0 199 32 = some (.iconst 1, 1, 0, 0, 0, 0, 0) := (pg_199 32).trans rfl
theorem f_199_33 : fe0 199 33 = some (.iadd, 1, 0, 0, 0, 0, 0) := (pg_199 33).trans rfl
theorem f_199_34 : fe0 199 34 = some (.iload_n 2, 1, 0, 0, 0, 0, 0) := (pg_199 34).trans rfl
theorem f_199_35 : fe0 199 35 = some (.iastore, 1, 0, 0, 0, 0, 0) := (pg_199 35).trans rfl
theorem f_199_36 : fe0 199 36 = some (.aload_n 0, 1, 0, 0, 0, 0, 0) := (pg_199 36).trans rfl
theorem f_199_37 : fe0 199 37 = some (.dup, 1, 0, 0, 0, 0, 0) := (pg_199 37).trans rfl
theorem f_199_38 : fe0 199 38 = some (.getfield 273, 3, 9, 28, 0, 0, 5052) := (pg_199 38).trans rfl
theorem f_199_41 : fe0 199 41 = some (.iconst 1, 1, 0, 0, 0, 0, 0) := (pg_199 41).trans rfl
theorem f_199_42 : fe0 199 42 = some (.iadd, 1, 0, 0, 0, 0, 0) := (pg_199 42).trans rfl
theorem f_199_43 : fe0 199 43 = some (.putfield 273, 3, 9, 28, 0, 0, 5052) := (pg_199 43).trans rfl
theorem f_199_46 : fe0 199 46 = some (.return_, 1, 0, 0, 0, 0, 0) := (pg_199 46).trans rfl
theorem q_199_0 (d : Nat) (l0 : Nat) (x1 : Int32) (x2 : Int32) (μ : aMem) : Rn d 199 (0, [.ref l0, .int x1, .int x2], [], μ) = if (mS μ l0).1 = 9 then (if (mS μ (mR μ l0 0)).1 = 10 ∧ inb ((mF μ l0 29) + (2 * (mF μ l0 28))) (mS μ (mR μ l0 0)).2 then (if (mS μ (mR μ l0 0)).1 = 10 ∧ inb (((mF (setF μ (mR μ l0 0) (ix ((mF μ l0 29) + (2 * (mF μ l0 28)))) x1) l0 29) + (2 * (mF (setF μ (mR μ l0 0) (ix ((mF μ l0 29) + (2 * (mF μ l0 28)))) x1) l0 28))) + 1) (mS μ (mR μ l0 0)).2 then (some (none, setF (setF (setF μ (mR μ l0 0) (ix ((mF μ l0 29) + (2 * (mF μ l0 28)))) x1) (mR μ l0 0) (ix (((mF (setF μ (mR μ l0 0) (ix ((mF μ l0 29) + (2 * (mF μ l0 28)))) x1) l0 29) + (2 * (mF (setF μ (mR μ l0 0) (ix ((mF μ l0 29) + (2 * (mF μ l0 28)))) x1) l0 28))) + 1)) x2) l0 28 ((mF (setF (setF μ (mR μ l0 0) (ix ((mF μ l0 29) + (2 * (mF μ l0 28)))) x1) (mR μ l0 0) (ix (((mF (setF μ (mR μ l0 0) (ix ((mF μ l0 29) + (2 * (mF μ l0 28)))) x1) l0 29) + (2 * (mF (setF μ (mR μ l0 0) (ix ((mF μ l0 29) + (2 * (mF μ l0 28)))) x1) l0 28))) + 1)) x2) l0 28) + 1))) else none) else none) else none :=
  (e_nx f_199_0 rfl).trans ((e_gd f_199_1 rfl).trans (g_congr (Iff.rfl) (fun h1 => (e_nx f_199_4 rfl).trans ((e_gk f_199_5 (h1) rfl).trans ((e_nx (q := (_, _, .int 2 :: _, _)) f_199_8 rfl).trans ((e_nx f_199_9 rfl).trans ((e_gk f_199_10 (h1) rfl).trans ((e_nx f_199_13 rfl).trans ((e_nx f_199_14 rfl).trans ((e_nx f_199_15 rfl).trans ((e_gd f_199_16 rfl).trans (g_congr (Iff.rfl) (fun h2 => (e_nx f_199_17 rfl).trans ((e_gk f_199_18 (h1) rfl).trans ((e_nx f_199_21 rfl).trans ((e_gk f_199_22 (h1) rfl).trans ((e_nx (q := (_, _, .int 2 :: _, _)) f_199_25 rfl).trans ((e_nx f_199_26 rfl).trans ((e_gk f_199_27 (h1) rfl).trans ((e_nx f_199_30 rfl).trans ((e_nx f_199_31 rfl).trans ((e_nx (q := (_, _, .int 1 :: _, _)) f_199_32 rfl).trans ((e_nx f_199_33 rfl).trans ((e_nx f_199_34 rfl).trans ((e_gd f_199_35 rfl).trans (g_congr (Iff.rfl) (fun h3 => (e_nx f_199_36 rfl).trans ((e_nx f_199_37 rfl).trans ((e_gk f_199_38 (h1) rfl).trans ((e_nx (q := (_, _, .int 1 :: _, _)) f_199_41 rfl).trans ((e_nx f_199_42 rfl).trans ((e_gk (L := [.ref l0, .int x1, .int x2]) (st := [.int ((mF (setF (setF μ (mR μ l0 0) (ix ((mF μ l0 29) + (2 * (mF μ l0 28)))) x1) (mR μ l0 0) (ix (((mF (setF μ (mR μ l0 0) (ix ((mF μ l0 29) + (2 * (mF μ l0 28)))) x1) l0 29) + (2 * (mF (setF μ (mR μ l0 0) (ix ((mF μ l0 29) + (2 * (mF μ l0 28)))) x1) l0 28))) + 1)) x2) l0 28) + 1), .ref l0]) (μ := setF (setF μ (mR μ l0 0) (ix ((mF μ l0 29) + (2 * (mF μ l0 28)))) x1) (mR μ l0 0) (ix (((mF (setF μ (mR μ l0 0) (ix ((mF μ l0 29) + (2 * (mF μ l0 28)))) x1) l0 29) + (2 * (mF (setF μ (mR μ l0 0) (ix ((mF μ l0 29) + (2 * (mF μ l0 28)))) x1) l0 28))) + 1)) x2) f_199_43 ((pi_iff rfl).mpr h1) rfl).trans (e_rt f_199_46 rfl)))))))))))))))))))))))))))))))))
theorem pg_200 (pc : Nat) : fe0 200 pc = lk prg_200 pc := rfl
theorem f_200_0 : fe0 200 0 = some (.aload_n 0, 1, 0, 0, 0, 0, 0) := (pg_200 0).trans rfl
theorem f_200_1 : fe0 200 1 = some (.iload_n 1, 1, 0, 0, 0, 0, 0) := (pg_200 1).trans rfl
theorem f_200_2 : fe0 200 2 = some (.invokevirtual 276, 3, 201, 1, 0, 9, 6183) := (pg_200 2).trans rfl
theorem f_200_5 : fe0 200 5 = some (.ifCond .ne 5, 3, 0, 0, 0, 0, 0) := (pg_200 5).trans rfl
theorem f_200_8 : fe0 200 8 = some (.iconst 0, 1, 0, 0, 0, 0, 0) := (pg_200 8).trans rfl
theorem f_200_9 : fe0 200 9 = some (.ireturn, 1, 1, 0, 0, 0, 0) := (pg_200 9).trans rfl
theorem f_200_10 : fe0 200 10 = some (.aload_n 0, 1, 0, 0, 0, 0, 0) := (pg_200 10).trans rfl
theorem f_200_11 : fe0 200 11 = some (.bipush 124, 2, 0, 0, 0, 0, 0) := (pg_200 11).trans rfl
theorem f_200_13 : fe0 200 13 = some (.invokevirtual 279, 3, 195, 1, 0, 9, 6210) := (pg_200 13).trans rfl
theorem f_200_16 : fe0 200 16 = some (.ifCond .eq 27, 3, 0, 0, 0, 0, 0) := (pg_200 16).trans rfl
theorem f_200_19 : fe0 200 19 = some (.aload_n 0, 1, 0, 0, 0, 0, 0) := (pg_200 19).trans rfl
theorem f_200_20 : fe0 200 20 = some (.invokevirtual 282, 3, 194, 0, 0, 9, 6155) := (pg_200 20).trans rfl
theorem f_200_23 : fe0 200 23 = some (.aload_n 0, 1, 0, 0, 0, 0, 0) := (pg_200 23).trans rfl
theorem f_200_24 : fe0 200 24 = some (.iload_n 1, 1, 0, 0, 0, 0, 0) := (pg_200 24).trans rfl
theorem f_200_25 : fe0 200 25 = some (.invokevirtual 276, 3, 201, 1, 0, 9, 6183) := (pg_200 25).trans rfl
theorem f_200_28 : fe0 200 28 = some (.ifCond .ne 5, 3, 0, 0, 0, 0, 0) := (pg_200 28).trans rfl
theorem f_200_31 : fe0 200 31 = some (.iconst 0, 1, 0, 0, 0, 0, 0) := (pg_200 31).trans rfl
theorem f_200_32 : fe0 200 32 = some (.ireturn, 1, 1, 0, 0, 0, 0) := (pg_200 32).trans rfl
theorem f_200_33 : fe0 200 33 = some (.aload_n 0, 1, 0, 0, 0, 0, 0) := (pg_200 33).trans rfl
theorem f_200_34 : fe0 200 34 = some (.iconst 2, 1, 0, 0, 0, 0, 0) := (pg_200 34).trans rfl
theorem f_200_35 : fe0 200 35 = some (.bipush 124, 2, 0, 0, 0, 0, 0) := (pg_200 35).trans rfl
theorem f_200_37 : fe0 200 37 = some (.invokevirtual 285, 3, 199, 2, 0, 9, 6203) := (pg_200 37).trans rfl
theorem f_200_40 : fe0 200 40 = some (.goto (-30), 3, 0, 0, 0, 0, 0) := (pg_200 40).trans rfl
theorem f_200_43 : fe0 200 43 = some (.iconst 1, 1, 0, 0, 0, 0, 0) := (pg_200 43).trans rfl
theorem f_200_44 : fe0 200 44 = some (.ireturn, 1, 1, 0, 0, 0, 0) := (pg_200 44).trans rfl
theorem q_200_0 (d : Nat) (l0 : Nat) (x1 : Int32) (μ : aMem) : Rn (d + 1) 200 (0, [.ref l0, .int x1], [], μ) = if (mS μ l0).1 = 9 ∧ l0 < 999999 then ((cI d 201 [.ref l0, .int x1] μ).bind fun p1 => if p1.1 = 0 then (some (some (.int 0), p1.2)) else (Rn (d + 1) 200 (10, [.ref l0, .int x1], [], p1.2))) else none :=
  (e_nx f_200_0 rfl).trans ((e_nx f_200_1 rfl).trans ((e_gI (L := [.ref l0, .int x1]) (st := [.int x1, .ref l0]) (μ := μ) (L' := [.ref l0, .int x1]) (st' := []) f_200_2 rfl rfl).trans (g_congr (v_c2 rfl (Nat.le_of_ble_eq_true rfl)) (fun h2 => m_congr fun p1 => (e_ne f_200_5 rfl).trans (b_congr (fun h3 => (e_nx (q := (_, _, .int 0 :: _, _)) f_200_8 rfl).trans (e_rt f_200_9 rfl)) (fun h3 => rfl))))))
theorem q_200_10 (d : Nat) (l0 : Nat) (x1 : Int32) (μ : aMem) : Rn (d + 1) 200 (10, [.ref l0, .int x1], [], μ) = if (mS μ l0).1 = 9 ∧ l0 < 999999 then ((cI d 195 [.ref l0, .int 124] μ).bind fun p1 => if p1.1 = 0 then (some (some (.int 1), p1.2)) else (if (mS p1.2 l0).1 = 9 ∧ l0 < 999999 then ((cV d 194 [.ref l0] p1.2).bind fun p4 => if (mS p4 l0).1 = 9 ∧ l0 < 999999 then ((cI d 201 [.ref l0, .int x1] p4).bind fun p6 => if p6.1 = 0 then (some (some (.int 0), p6.2)) else (if (mS p6.2 l0).1 = 9 ∧ l0 < 999999 then ((cV d 199 [.ref l0, .int 2, .int 124] p6.2).bind fun p9 => Rn (d + 1) 200 (10, [.ref l0, .int x1], [], p9)) else none)) else none) else none)) else none :=
  (e_nx f_200_10 rfl).trans ((e_nx (q := (_, _, .int 124 :: _, _)) f_200_11 rfl).trans ((e_gI (L := [.ref l0, .int x1]) (st := [.int 124, .ref l0]) (μ := μ) (L' := [.ref l0, .int x1]) (st' := []) f_200_13 rfl rfl).trans (g_congr (v_c2 rfl (Nat.le_of_ble_eq_true rfl)) (fun h2 => m_congr fun p1 => (e_eq f_200_16 rfl).trans (b_congr (fun h3 => (e_nx (q := (_, _, .int 1 :: _, _)) f_200_43 rfl).trans (e_rt f_200_44 rfl)) (fun h3 => (e_nx f_200_19 rfl).trans ((e_gV (L := [.ref l0, .int x1]) (st := [.ref l0]) (μ := p1.2) (L' := [.ref l0, .int x1]) (st' := []) f_200_20 rfl rfl).trans (g_congr (v_c2 rfl (Nat.le_of_ble_eq_true rfl)) (fun h5 => m_congr fun p4 => (e_nx f_200_23 rfl).trans ((e_nx f_200_24 rfl).trans ((e_gI (L := [.ref l0, .int x1]) (st := [.int x1, .ref l0]) (μ := p4) (L' := [.ref l0, .int x1]) (st' := []) f_200_25 rfl rfl).trans (g_congr (v_c2 rfl (Nat.le_of_ble_eq_true rfl)) (fun h7 => m_congr fun p6 => (e_ne f_200_28 rfl).trans (b_congr (fun h8 => (e_nx (q := (_, _, .int 0 :: _, _)) f_200_31 rfl).trans (e_rt f_200_32 rfl)) (fun h8 => (e_nx f_200_33 rfl).trans ((e_nx (q := (_, _, .int 2 :: _, _)) f_200_34 rfl).trans ((e_nx (q := (_, _, .int 124 :: _, _)) f_200_35 rfl).trans ((e_gV (L := [.ref l0, .int x1]) (st := [.int 124, .int 2, .ref l0]) (μ := p6.2) (L' := [.ref l0, .int x1]) (st' := []) f_200_37 rfl rfl).trans (g_congr (v_c2 rfl (Nat.le_of_ble_eq_true rfl)) (fun h10 => m_congr fun p9 => e_nx f_200_40 rfl))))))))))))))))))))
theorem pg_201 (pc : Nat) : fe0 201 pc = lk prg_201 pc := rfl
theorem f_201_0 : fe0 201 0 = some (.aload_n 0, 1, 0, 0, 0, 0, 0) := (pg_201 0).trans rfl
theorem f_201_1 : fe0 201 1 = some (.iload_n 1, 1, 0, 0, 0, 0, 0) := (pg_201 1).trans rfl
theorem f_201_2 : fe0 201 2 = some (.invokevirtual 289, 3, 202, 1, 0, 9, 6187) := (pg_201 2).trans rfl
theorem f_201_5 : fe0 201 5 = some (.ifCond .ne 5, 3, 0, 0, 0, 0, 0) := (pg_201 5).trans rfl
theorem f_201_8 : fe0 201 8 = some (.iconst 0, 1, 0, 0, 0, 0, 0) := (pg_201 8).trans rfl
theorem f_201_9 : fe0 201 9 = some (.ireturn, 1, 1, 0, 0, 0, 0) := (pg_201 9).trans rfl
theorem f_201_10 : fe0 201 10 = some (.aload_n 0, 1, 0, 0, 0, 0, 0) := (pg_201 10).trans rfl
theorem f_201_11 : fe0 201 11 = some (.bipush 38, 2, 0, 0, 0, 0, 0) := (pg_201 11).trans rfl
theorem f_201_13 : fe0 201 13 = some (.invokevirtual 279, 3, 195, 1, 0, 9, 6210) := (pg_201 13).trans rfl
theorem f_201_16 : fe0 201 16 = some (.ifCond .eq 27, 3, 0, 0, 0, 0, 0) := (pg_201 16).trans rfl
theorem f_201_19 : fe0 201 19 = some (.aload_n 0, 1, 0, 0, 0, 0, 0) := (pg_201 19).trans rfl
theorem f_201_20 : fe0 201 20 = some (.invokevirtual 282, 3, 194, 0, 0, 9, 6155) := (pg_201 20).trans rfl
theorem f_201_23 : fe0 201 23 = some (.aload_n 0, 1, 0, 0, 0, 0, 0) := (pg_201 23).trans rfl
theorem f_201_24 : fe0 201 24 = some (.iload_n 1, 1, 0, 0, 0, 0, 0) := (pg_201 24).trans rfl
theorem f_201_25 : fe0 201 25 = some (.invokevirtual 289, 3, 202, 1, 0, 9, 6187) := (pg_201 25).trans rfl
theorem f_201_28 : fe0 201 28 = some (.ifCond .ne 5, 3, 0, 0, 0, 0, 0) := (pg_201 28).trans rfl
theorem f_201_31 : fe0 201 31 = some (.iconst 0, 1, 0, 0, 0, 0, 0) := (pg_201 31).trans rfl
theorem f_201_32 : fe0 201 32 = some (.ireturn, 1, 1, 0, 0, 0, 0) := (pg_201 32).trans rfl
theorem f_201_33 : fe0 201 33 = some (.aload_n 0, 1, 0, 0, 0, 0, 0) := (pg_201 33).trans rfl
theorem f_201_34 : fe0 201 34 = some (.iconst 2, 1, 0, 0, 0, 0, 0) := (pg_201 34).trans rfl
theorem f_201_35 : fe0 201 35 = some (.bipush 38, 2, 0, 0, 0, 0, 0) := (pg_201 35).trans rfl
theorem f_201_37 : fe0 201 37 = some (.invokevirtual 285, 3, 199, 2, 0, 9, 6203) := (pg_201 37).trans rfl
theorem f_201_40 : fe0 201 40 = some (.goto (-30), 3, 0, 0, 0, 0, 0) := (pg_201 40).trans rfl
theorem f_201_43 : fe0 201 43 = some (.iconst 1, 1, 0, 0, 0, 0, 0) := (pg_201 43).trans rfl
theorem f_201_44 : fe0 201 44 = some (.ireturn, 1, 1, 0, 0, 0, 0) := (pg_201 44).trans rfl
theorem q_201_0 (d : Nat) (l0 : Nat) (x1 : Int32) (μ : aMem) : Rn (d + 1) 201 (0, [.ref l0, .int x1], [], μ) = if (mS μ l0).1 = 9 ∧ l0 < 999999 then ((cI d 202 [.ref l0, .int x1] μ).bind fun p1 => if p1.1 = 0 then (some (some (.int 0), p1.2)) else (Rn (d + 1) 201 (10, [.ref l0, .int x1], [], p1.2))) else none :=
  (e_nx f_201_0 rfl).trans ((e_nx f_201_1 rfl).trans ((e_gI (L := [.ref l0, .int x1]) (st := [.int x1, .ref l0]) (μ := μ) (L' := [.ref l0, .int x1]) (st' := []) f_201_2 rfl rfl).trans (g_congr (v_c2 rfl (Nat.le_of_ble_eq_true rfl)) (fun h2 => m_congr fun p1 => (e_ne f_201_5 rfl).trans (b_congr (fun h3 => (e_nx (q := (_, _, .int 0 :: _, _)) f_201_8 rfl).trans (e_rt f_201_9 rfl)) (fun h3 => rfl))))))
theorem q_201_10 (d : Nat) (l0 : Nat) (x1 : Int32) (μ : aMem) : Rn (d + 1) 201 (10, [.ref l0, .int x1], [], μ) = if (mS μ l0).1 = 9 ∧ l0 < 999999 then ((cI d 195 [.ref l0, .int 38] μ).bind fun p1 => if p1.1 = 0 then (some (some (.int 1), p1.2)) else (if (mS p1.2 l0).1 = 9 ∧ l0 < 999999 then ((cV d 194 [.ref l0] p1.2).bind fun p4 => if (mS p4 l0).1 = 9 ∧ l0 < 999999 then ((cI d 202 [.ref l0, .int x1] p4).bind fun p6 => if p6.1 = 0 then (some (some (.int 0), p6.2)) else (if (mS p6.2 l0).1 = 9 ∧ l0 < 999999 then ((cV d 199 [.ref l0, .int 2, .int 38] p6.2).bind fun p9 => Rn (d + 1) 201 (10, [.ref l0, .int x1], [], p9)) else none)) else none) else none)) else none :=
  (e_nx f_201_10 rfl).trans ((e_nx (q := (_, _, .int 38 :: _, _)) f_201_11 rfl).trans ((e_gI (L := [.ref l0, .int x1]) (st := [.int 38, .ref l0]) (μ := μ) (L' := [.ref l0, .int x1]) (st' := []) f_201_13 rfl rfl).trans (g_congr (v_c2 rfl (Nat.le_of_ble_eq_true rfl)) (fun h2 => m_congr fun p1 => (e_eq f_201_16 rfl).trans (b_congr (fun h3 => (e_nx (q := (_, _, .int 1 :: _, _)) f_201_43 rfl).trans (e_rt f_201_44 rfl)) (fun h3 => (e_nx f_201_19 rfl).trans ((e_gV (L := [.ref l0, .int x1]) (st := [.ref l0]) (μ := p1.2) (L' := [.ref l0, .int x1]) (st' := []) f_201_20 rfl rfl).trans (g_congr (v_c2 rfl (Nat.le_of_ble_eq_true rfl)) (fun h5 => m_congr fun p4 => (e_nx f_201_23 rfl).trans ((e_nx f_201_24 rfl).trans ((e_gI (L := [.ref l0, .int x1]) (st := [.int x1, .ref l0]) (μ := p4) (L' := [.ref l0, .int x1]) (st' := []) f_201_25 rfl rfl).trans (g_congr (v_c2 rfl (Nat.le_of_ble_eq_true rfl)) (fun h7 => m_congr fun p6 => (e_ne f_201_28 rfl).trans (b_congr (fun h8 => (e_nx (q := (_, _, .int 0 :: _, _)) f_201_31 rfl).trans (e_rt f_201_32 rfl)) (fun h8 => (e_nx f_201_33 rfl).trans ((e_nx (q := (_, _, .int 2 :: _, _)) f_201_34 rfl).trans ((e_nx (q := (_, _, .int 38 :: _, _)) f_201_35 rfl).trans ((e_gV (L := [.ref l0, .int x1]) (st := [.int 38, .int 2, .ref l0]) (μ := p6.2) (L' := [.ref l0, .int x1]) (st' := []) f_201_37 rfl rfl).trans (g_congr (v_c2 rfl (Nat.le_of_ble_eq_true rfl)) (fun h10 => m_congr fun p9 => e_nx f_201_40 rfl))))))))))))))))))))
theorem pg_202 (pc : Nat) : fe0 202 pc = lk prg_202 pc := rfl
theorem f_202_0 : fe0 202 0 = some (.aload_n 0, 1, 0, 0, 0, 0, 0) := (pg_202 0).trans rfl
theorem f_202_1 : fe0 202 1 = some (.iload_n 1, 1, 0, 0, 0, 0, 0) := (pg_202 1).trans rfl
theorem f_202_2 : fe0 202 2 = some (.invokevirtual 292, 3, 203, 1, 0, 9, 6191) := (pg_202 2).trans rfl
theorem f_202_5 : fe0 202 5 = some (.ifCond .ne 5, 3, 0, 0, 0, 0, 0) := (pg_202 5).trans rfl
theorem f_202_8 : fe0 202 8 = some (.iconst 0, 1, 0, 0, 0, 0, 0) := (pg_202 8).trans rfl
theorem f_202_9 : fe0 202 9 = some (.ireturn, 1, 1, 0, 0, 0, 0) := (pg_202 9).trans rfl
theorem f_202_10 : fe0 202 10 = some (.aload_n 0, 1, 0, 0, 0, 0, 0) := (pg_202 10).trans rfl
theorem f_202_11 : fe0 202 11 = some (.bipush 60, 2, 0, 0, 0, 0, 0) := (pg_202 11).trans rfl
theorem f_202_13 : fe0 202 13 = some (.invokevirtual 279, 3, 195, 1, 0, 9, 6210) := (pg_202 13).trans rfl
theorem f_202_16 : fe0 202 16 = some (.ifCond .ne 21, 3, 0, 0, 0, 0, 0) := (pg_202 16).trans rfl
theorem f_202_19 : fe0 202 19 = some (.aload_n 0, 1, 0, 0, 0, 0, 0) := (pg_202 19).trans rfl
theorem f_202_20 : fe0 202 20 = some (.bipush 61, 2, 0, 0, 0, 0, 0) := (pg_202 20).trans rfl
theorem f_202_22 : fe0 202 22 = some (.invokevirtual 279, 3, 195, 1, 0, 9, 6210) := (pg_202 22).trans rfl
theorem f_202_25 : fe0 202 25 = some (.ifCond .ne 12, 3, 0, 0, 0, 0, 0) := (pg_202 25).trans rfl
theorem f_202_28 : fe0 202 28 = some (.aload_n 0, 1, 0, 0, 0, 0, 0) := (pg_202 28).trans rfl
theorem f_202_29 : fe0 202 29 = some (.bipush 62, 2, 0, 0, 0, 0, 0) := (pg_202 29).trans rfl
theorem f_202_31 : fe0 202 31 = some (.invokevirtual 279, 3, 195, 1, 0, 9, 6210) := (pg_202 31).trans rfl
theorem f_202_34 : fe0 202 34 = some (.ifCond .eq 28, 3, 0, 0, 0, 0, 0) := (pg_202 34).trans rfl
theorem f_202_37 : fe0 202 37 = some (.aload_n 0, 1, 0, 0, 0, 0, 0) := (pg_202 37).trans rfl
theorem f_202_38 : fe0 202 38 = some (.getfield 257, 3, 9, 25, 0, 0, 5049) := (pg_202 38).trans rfl
theorem f_202_41 : fe0 202 41 = some (.istore_n 2, 1, 0, 0, 0, 0, 0) := (pg_202 41).trans rfl
theorem f_202_42 : fe0 202 42 = some (.aload_n 0, 1, 0, 0, 0, 0, 0) := (pg_202 42).trans rfl
theorem f_202_43 : fe0 202 43 = some (.invokevirtual 282, 3, 194, 0, 0, 9, 6155) := (pg_202 43).trans rfl
theorem f_202_46 : fe0 202 46 = some (.aload_n 0, 1, 0, 0, 0, 0, 0) := (pg_202 46).trans rfl
theorem f_202_47 : fe0 202 47 = some (.iload_n 1, 1, 0, 0, 0, 0, 0) := (pg_202 47).trans rfl
theorem f_202_48 : fe0 202 48 = some (.invokevirtual 292, 3, 203, 1, 0, 9, 6191) := (pg_202 48).trans rfl
theorem f_202_51 : fe0 202 51 = some (.ifCond .ne 5, 3, 0, 0, 0, 0, 0) := (pg_202 51).trans rfl
theorem f_202_54 : fe0 202 54 = some (.iconst 0, 1, 0, 0, 0, 0, 0) := (pg_202 54).trans rfl
theorem f_202_55 : fe0 202 55 = some (.ireturn, 1, 1, 0, 0, 0, 0) := (pg_202 55).trans rfl
theorem f_202_56 : fe0 202 56 = some (.aload_n 0, 1, 0, 0, 0, 0, 0) := (pg_202 56).trans rfl
theorem f_202_57 : fe0 202 57 = some (.iconst 2, 1, 0, 0, 0, 0, 0) := (pg_202 57).trans rfl
theorem f_202_58 : fe0 202 58 = some (.iload_n 2, 1, 0, 0, 0, 0, 0) := (pg_202 58).trans rfl
theorem f_202_59 : fe0 202 59 = some (.invokevirtual 285, 3, 199, 2, 0, 9, 6203) := (pg_202 59).trans rfl
theorem f_202_62 : fe0 202 62 = some (.iconst 1, 1, 0, 0, 0, 0, 0) := (pg_202 62).trans rfl
theorem f_202_63 : fe0 202 63 = some (.ireturn, 1, 1, 0, 0, 0, 0) := (pg_202 63).trans rfl
theorem q_202_0 (d : Nat) (l0 : Nat) (x1 : Int32) (μ : aMem) : Rn (d + 1) 202 (0, [.ref l0, .int x1, un], [], μ) = if (mS μ l0).1 = 9 ∧ l0 < 999999 then ((cI d 203 [.ref l0, .int x1] μ).bind fun p1 => if p1.1 = 0 then (some (some (.int 0), p1.2)) else (if (mS p1.2 l0).1 = 9 ∧ l0 < 999999 then ((cI d 195 [.ref l0, .int 60] p1.2).bind fun p4 => if p4.1 = 0 then (if (mS p4.2 l0).1 = 9 ∧ l0 < 999999 then ((cI d 195 [.ref l0, .int 61] p4.2).bind fun p7 => if p7.1 = 0 then (if (mS p7.2 l0).1 = 9 ∧ l0 < 999999 then ((cI d 195 [.ref l0, .int 62] p7.2).bind fun p10 => if p10.1 = 0 then (some (some (.int 1), p10.2)) else (if (mS p10.2 l0).1 = 9 then (if (mS p10.2 l0).1 = 9 ∧ l0 < 999999 then ((cV d 194 [.ref l0] p10.2).bind fun p14 => if (mS p14 l0).1 = 9 ∧ l0 < 999999 then ((cI d 203 [.ref l0, .int x1] p14).bind fun p16 => if p16.1 = 0 then (some (some (.int 0), p16.2)) else (if (mS p16.2 l0).1 = 9 ∧ l0 < 999999 then ((cV d 199 [.ref l0, .int 2, .int (mF p10.2 l0 25)] p16.2).bind fun p19 => some (some (.int 1), p19)) else none)) else none) else none) else none)) else none) else (if (mS p7.2 l0).1 = 9 then (if (mS p7.2 l0).1 = 9 ∧ l0 < 999999 then ((cV d 194 [.ref l0] p7.2).bind fun p22 => if (mS p22 l0).1 = 9 ∧ l0 < 999999 then ((cI d 203 [.ref l0, .int x1] p22).bind fun p24 => if p24.1 = 0 then (some (some (.int 0), p24.2)) else (if (mS p24.2 l0).1 = 9 ∧ l0 < 999999 then ((cV d 199 [.ref l0, .int 2, .int (mF p7.2 l0 25)] p24.2).bind fun p27 => some (some (.int 1), p27)) else none)) else none) else none) else none)) else none) else (if (mS p4.2 l0).1 = 9 then (if (mS p4.2 l0).1 = 9 ∧ l0 < 999999 then ((cV d 194 [.ref l0] p4.2).bind fun p30 => if (mS p30 l0).1 = 9 ∧ l0 < 999999 then ((cI d 203 [.ref l0, .int x1] p30).bind fun p32 => if p32.1 = 0 then (some (some (.int 0), p32.2)) else (if (mS p32.2 l0).1 = 9 ∧ l0 < 999999 then ((cV d 199 [.ref l0, .int 2, .int (mF p4.2 l0 25)] p32.2).bind fun p35 => some (some (.int 1), p35)) else none)) else none) else none) else none)) else none)) else none :=
  (e_nx f_202_0 rfl).trans ((e_nx f_202_1 rfl).trans ((e_gI (L := [.ref l0, .int x1, un]) (st := [.int x1, .ref l0]) (μ := μ) (L' := [.ref l0, .int x1, un]) (st' := []) f_202_2 rfl rfl).trans (g_congr (v_c2 rfl (Nat.le_of_ble_eq_true rfl)) (fun h2 => m_congr fun p1 => (e_ne f_202_5 rfl).trans (b_congr (fun h3 => (e_nx (q := (_, _, .int 0 :: _, _)) f_202_8 rfl).trans (e_rt f_202_9 rfl)) (fun h3 => (e_nx f_202_10 rfl).trans ((e_nx (q := (_, _, .int 60 :: _, _)) f_202_11 rfl).trans ((e_gI (L := [.ref l0, .int x1, un]) (st := [.int 60, .ref l0]) (μ := p1.2) (L' := [.ref l0, .int x1, un]) (st' := []) f_202_13 rfl rfl).trans (g_congr (v_c2 rfl (Nat.le_of_ble_eq_true rfl)) (fun h5 => m_congr fun p4 => (e_ne f_202_16 rfl).trans (b_congr (fun h6 => (e_nx f_202_19 rfl).trans ((e_nx (q := (_, _, .int 61 :: _, _)) f_202_20 rfl).trans ((e_gI (L := [.ref l0, .int x1, un]) (st := [.int 61, .ref l0]) (μ := p4.2) (L' := [.ref l0, .int x1, un]) (st' := []) f_202_22 rfl rfl).trans (g_congr (v_c2 rfl (Nat.le_of_ble_eq_true rfl)) (fun h8 => m_congr fun p7 => (e_ne f_202_25 rfl).trans (b_congr (fun h9 => (e_nx f_202_28 rfl).trans ((e_nx (q := (_, _, .int 62 :: _, _)) f_202_29 rfl).trans ((e_gI (L := [.ref l0, .int x1, un]) (st := [.int 62, .ref l0]) (μ := p7.2) (L' := [.ref l0, .int x1, un]) (st' := []) f_202_31 rfl rfl).trans (g_congr (v_c2 rfl (Nat.le_of_ble_eq_true rfl)) (fun h11 => m_congr fun p10 => (e_eq f_202_34 rfl).trans (b_congr (fun h12 => (e_nx (q := (_, _, .int 1 :: _, _)) f_202_62 rfl).trans (e_rt f_202_63 rfl)) (fun h12 => (e_nx f_202_37 rfl).trans ((e_gd f_202_38 rfl).trans (g_congr (Iff.rfl) (fun h13 => (e_nx (q := (_, [.ref l0, .int x1, .int (mF p10.2 l0 25)], _, _)) f_202_41 rfl).trans ((e_nx f_202_42 rfl).trans ((e_gV (L := [.ref l0, .int x1, .int (mF p10.2 l0 25)]) (st := [.ref l0]) (μ := p10.2) (L' := [.ref l0, .int x1, .int (mF p10.2 l0 25)]) (st' := []) f_202_43 rfl rfl).trans (g_congr (v_c2 rfl (Nat.le_of_ble_eq_true rfl)) (fun h15 => m_congr fun p14 => (e_nx f_202_46 rfl).trans ((e_nx f_202_47 rfl).trans ((e_gI (L := [.ref l0, .int x1, .int (mF p10.2 l0 25)]) (st := [.int x1, .ref l0]) (μ := p14) (L' := [.ref l0, .int x1, .int (mF p10.2 l0 25)]) (st' := []) f_202_48 rfl rfl).trans (g_congr (v_c2 rfl (Nat.le_of_ble_eq_true rfl)) (fun h17 => m_congr fun p16 => (e_ne f_202_51 rfl).trans (b_congr (fun h18 => (e_nx (q := (_, _, .int 0 :: _, _)) f_202_54 rfl).trans (e_rt f_202_55 rfl)) (fun h18 => (e_nx f_202_56 rfl).trans ((e_nx (q := (_, _, .int 2 :: _, _)) f_202_57 rfl).trans ((e_nx f_202_58 rfl).trans ((e_gV (L := [.ref l0, .int x1, .int (mF p10.2 l0 25)]) (st := [.int (mF p10.2 l0 25), .int 2, .ref l0]) (μ := p16.2) (L' := [.ref l0, .int x1, .int (mF p10.2 l0 25)]) (st' := []) f_202_59 rfl rfl).trans (g_congr (v_c2 rfl (Nat.le_of_ble_eq_true rfl)) (fun h20 => m_congr fun p19 => (e_nx (q := (_, _, .int 1 :: _, _)) f_202_62 rfl).trans (e_rt f_202_63 rfl)))))))))))))))))))))))))) (fun h9 => (e_nx f_202_37 rfl).trans ((e_gd f_202_38 rfl).trans (g_congr (Iff.rfl) (fun h21 => (e_nx (q := (_, [.ref l0, .int x1, .int (mF p7.2 l0 25)], _, _)) f_202_41 rfl).trans ((e_nx f_202_42 rfl).trans ((e_gV (L := [.ref l0, .int x1, .int (mF p7.2 l0 25)]) (st := [.ref l0]) (μ := p7.2) (L' := [.ref l0, .int x1, .int (mF p7.2 l0 25)]) (st' := []) f_202_43 rfl rfl).trans (g_congr (v_c2 rfl (Nat.le_of_ble_eq_true rfl)) (fun h23 => m_congr fun p22 => (e_nx f_202_46 rfl).trans ((e_nx f_202_47 rfl).trans ((e_gI (L := [.ref l0, .int x1, .int (mF p7.2 l0 25)]) (st := [.int x1, .ref l0]) (μ := p22) (L' := [.ref l0, .int x1, .int (mF p7.2 l0 25)]) (st' := []) f_202_48 rfl rfl).trans (g_congr (v_c2 rfl (Nat.le_of_ble_eq_true rfl)) (fun h25 => m_congr fun p24 => (e_ne f_202_51 rfl).trans (b_congr (fun h26 => (e_nx (q := (_, _, .int 0 :: _, _)) f_202_54 rfl).trans (e_rt f_202_55 rfl)) (fun h26 => (e_nx f_202_56 rfl).trans ((e_nx (q := (_, _, .int 2 :: _, _)) f_202_57 rfl).trans ((e_nx f_202_58 rfl).trans ((e_gV (L := [.ref l0, .int x1, .int (mF p7.2 l0 25)]) (st := [.int (mF p7.2 l0 25), .int 2, .ref l0]) (μ := p24.2) (L' := [.ref l0, .int x1, .int (mF p7.2 l0 25)]) (st' := []) f_202_59 rfl rfl).trans (g_congr (v_c2 rfl (Nat.le_of_ble_eq_true rfl)) (fun h28 => m_congr fun p27 => (e_nx (q := (_, _, .int 1 :: _, _)) f_202_62 rfl).trans (e_rt f_202_63 rfl)))))))))))))))))))))))))) (fun h6 => (e_nx f_202_37 rfl).trans ((e_gd f_202_38 rfl).trans (g_congr (Iff.rfl) (fun h29 => (e_nx (q := (_, [.ref l0, .int x1, .int (mF p4.2 l0 25)], _, _)) f_202_41 rfl).trans ((e_nx f_202_42 rfl).trans ((e_gV (L := [.ref l0, .int x1, .int (mF p4.2 l0 25)]) (st := [.ref l0]) (μ := p4.2) (L' := [.ref l0, .int x1, .int (mF p4.2 l0 25)]) (st' := []) f_202_43 rfl rfl).trans (g_congr (v_c2 rfl (Nat.le_of_ble_eq_true rfl)) (fun h31 => m_congr fun p30 => (e_nx f_202_46 rfl).trans ((e_nx f_202_47 rfl).trans ((e_gI (L := [.ref l0, .int x1, .int (mF p4.2 l0 25)]) (st := [.int x1, .ref l0]) (μ := p30) (L' := [.ref l0, .int x1, .int (mF p4.2 l0 25)]) (st' := []) f_202_48 rfl rfl).trans (g_congr (v_c2 rfl (Nat.le_of_ble_eq_true rfl)) (fun h33 => m_congr fun p32 => (e_ne f_202_51 rfl).trans (b_congr (fun h34 => (e_nx (q := (_, _, .int 0 :: _, _)) f_202_54 rfl).trans (e_rt f_202_55 rfl)) (fun h34 => (e_nx f_202_56 rfl).trans ((e_nx (q := (_, _, .int 2 :: _, _)) f_202_57 rfl).trans ((e_nx f_202_58 rfl).trans ((e_gV (L := [.ref l0, .int x1, .int (mF p4.2 l0 25)]) (st := [.int (mF p4.2 l0 25), .int 2, .ref l0]) (μ := p32.2) (L' := [.ref l0, .int x1, .int (mF p4.2 l0 25)]) (st' := []) f_202_59 rfl rfl).trans (g_congr (v_c2 rfl (Nat.le_of_ble_eq_true rfl)) (fun h36 => m_congr fun p35 => (e_nx (q := (_, _, .int 1 :: _, _)) f_202_62 rfl).trans (e_rt f_202_63 rfl)))))))))))))))))))))))))))))))
theorem pg_203 (pc : Nat) : fe0 203 pc = lk prg_203 pc := rfl
theorem f_203_0 : fe0 203 0 = some (.aload_n 0, 1, 0, 0, 0, 0, 0) := (pg_203 0).trans rfl
theorem f_203_1 : fe0 203 1 = some (.iload_n 1, 1, 0, 0, 0, 0, 0) := (pg_203 1).trans rfl
theorem f_203_2 : fe0 203 2 = some (.invokevirtual 295, 3, 204, 1, 0, 9, 6195) := (pg_203 2).trans rfl
theorem f_203_5 : fe0 203 5 = some (.ifCond .ne 5, 3, 0, 0, 0, 0, 0) := (pg_203 5).trans rfl
theorem f_203_8 : fe0 203 8 = some (.iconst 0, 1, 0, 0, 0, 0, 0) := (pg_203 8).trans rfl
theorem f_203_9 : fe0 203 9 = some (.ireturn, 1, 1, 0, 0, 0, 0) := (pg_203 9).trans rfl
theorem f_203_10 : fe0 203 10 = some (.aload_n 0, 1, 0, 0, 0, 0, 0) := (pg_203 10).trans rfl
theorem f_203_11 : fe0 203 11 = some (.bipush 43, 2, 0, 0, 0, 0, 0) := (pg_203 11).trans rfl
theorem f_203_13 : fe0 203 13 = some (.invokevirtual 279, 3, 195, 1, 0, 9, 6210) := (pg_203 13).trans rfl
theorem f_203_16 : fe0 203 16 = some (.ifCond .ne 12, 3, 0, 0, 0, 0, 0) := (pg_203 16).trans rfl
theorem f_203_19 : fe0 203 19 = some (.aload_n 0, 1, 0, 0, 0, 0, 0) := (pg_203 19).trans rfl
theorem f_203_20 : fe0 203 20 = some (.bipush 45, 2, 0, 0, 0, 0, 0) := (pg_203 20).trans rfl
theorem f_203_22 : fe0 203 22 = some (.invokevirtual 279, 3, 195, 1, 0, 9, 6210) := (pg_203 22).trans rfl
theorem f_203_25 : fe0 203 25 = some (.ifCond .eq 31, 3, 0, 0, 0, 0, 0) := (pg_203 25).trans rfl
theorem f_203_28 : fe0 203 28 = some (.aload_n 0, 1, 0, 0, 0, 0, 0) := (pg_203 28).trans rfl
theorem f_203_29 : fe0 203 29 = some (.getfield 257, 3, 9, 25, 0, 0, 5049) := (pg_203 29).trans rfl
theorem f_203_32 : fe0 203 32 = some (.istore_n 2, 1, 0, 0, 0, 0, 0) := (pg_203 32).trans rfl
theorem f_203_33 : fe0 203 33 = some (.aload_n 0, 1, 0, 0, 0, 0, 0) := (pg_203 33).trans rfl
theorem f_203_34 : fe0 203 34 = some (.invokevirtual 282, 3, 194, 0, 0, 9, 6155) := (pg_203 34).trans rfl
theorem f_203_37 : fe0 203 37 = some (.aload_n 0, 1, 0, 0, 0, 0, 0) := (pg_203 37).trans rfl
theorem f_203_38 : fe0 203 38 = some (.iload_n 1, 1, 0, 0, 0, 0, 0) := (pg_203 38).trans rfl
theorem f_203_39 : fe0 203 39 = some (.invokevirtual 295, 3, 204, 1, 0, 9, 6195) := (pg_203 39).trans rfl
theorem f_203_42 : fe0 203 42 = some (.ifCond .ne 5, 3, 0, 0, 0, 0, 0) := (pg_203 42).trans rfl
theorem f_203_45 : fe0 203 45 = some (.iconst 0, 1, 0, 0, 0, 0, 0) := (pg_203 45).trans rfl
theorem f_203_46 : fe0 203 46 = some (.ireturn, 1, 1, 0, 0, 0, 0) := (pg_203 46).trans rfl
theorem f_203_47 : fe0 203 47 = some (.aload_n 0, 1, 0, 0, 0, 0, 0) := (pg_203 47).trans rfl
theorem f_203_48 : fe0 203 48 = some (.iconst 2, 1, 0, 0, 0, 0, 0) := (pg_203 48).trans rfl
theorem f_203_49 : fe0 203 49 = some (.iload_n 2, 1, 0, 0, 0, 0, 0) := (pg_203 49).trans rfl
theorem f_203_50 : fe0 203 50 = some (.invokevirtual 285, 3, 199, 2, 0, 9, 6203) := (pg_203 50).trans rfl
theorem f_203_53 : fe0 203 53 = some (.goto (-43), 3, 0, 0, 0, 0, 0) := (pg_203 53).trans rfl
theorem f_203_56 : fe0 203 56 = some (.iconst 1, 1, 0, 0, 0, 0, 0) := (pg_203 56).trans rfl
theorem f_203_57 : fe0 203 57 = some (.ireturn, 1, 1, 0, 0, 0, 0) := (pg_203 57).trans rfl
theorem q_203_0 (d : Nat) (l0 : Nat) (x1 : Int32) (μ : aMem) : Rn (d + 1) 203 (0, [.ref l0, .int x1, un], [], μ) = if (mS μ l0).1 = 9 ∧ l0 < 999999 then ((cI d 204 [.ref l0, .int x1] μ).bind fun p1 => if p1.1 = 0 then (some (some (.int 0), p1.2)) else (Rn (d + 1) 203 (10, [.ref l0, .int x1, un], [], p1.2))) else none :=
  (e_nx f_203_0 rfl).trans ((e_nx f_203_1 rfl).trans ((e_gI (L := [.ref l0, .int x1, un]) (st := [.int x1, .ref l0]) (μ := μ) (L' := [.ref l0, .int x1, un]) (st' := []) f_203_2 rfl rfl).trans (g_congr (v_c2 rfl (Nat.le_of_ble_eq_true rfl)) (fun h2 => m_congr fun p1 => (e_ne f_203_5 rfl).trans (b_congr (fun h3 => (e_nx (q := (_, _, .int 0 :: _, _)) f_203_8 rfl).trans (e_rt f_203_9 rfl)) (fun h3 => rfl))))))
theorem q_203_10 (d : Nat) (l0 : Nat) (x1 : Int32) (w2 : Value) (μ : aMem) : Rn (d + 1) 203 (10, [.ref l0, .int x1, w2], [], μ) = if (mS μ l0).1 = 9 ∧ l0 < 999999 then ((cI d 195 [.ref l0, .int 43] μ).bind fun p1 => if p1.1 = 0 then (if (mS p1.2 l0).1 = 9 ∧ l0 < 999999 then ((cI d 195 [.ref l0, .int 45] p1.2).bind fun p4 => if p4.1 = 0 then (some (some (.int 1), p4.2)) else (if (mS p4.2 l0).1 = 9 then (if (mS p4.2 l0).1 = 9 ∧ l0 < 999999 then ((cV d 194 [.ref l0] p4.2).bind fun p8 => if (mS p8 l0).1 = 9 ∧ l0 < 999999 then ((cI d 204 [.ref l0, .int x1] p8).bind fun p10 => if p10.1 = 0 then (some (some (.int 0), p10.2)) else (if (mS p10.2 l0).1 = 9 ∧ l0 < 999999 then ((cV d 199 [.ref l0, .int 2, .int (mF p4.2 l0 25)] p10.2).bind fun p13 => Rn (d + 1) 203 (10, [.ref l0, .int x1, .int (mF p4.2 l0 25)], [], p13)) else none)) else none) else none) else none)) else none) else (if (mS p1.2 l0).1 = 9 then (if (mS p1.2 l0).1 = 9 ∧ l0 < 999999 then ((cV d 194 [.ref l0] p1.2).bind fun p16 => if (mS p16 l0).1 = 9 ∧ l0 < 999999 then ((cI d 204 [.ref l0, .int x1] p16).bind fun p18 => if p18.1 = 0 then (some (some (.int 0), p18.2)) else (if (mS p18.2 l0).1 = 9 ∧ l0 < 999999 then ((cV d 199 [.ref l0, .int 2, .int (mF p1.2 l0 25)] p18.2).bind fun p21 => Rn (d + 1) 203 (10, [.ref l0, .int x1, .int (mF p1.2 l0 25)], [], p21)) else none)) else none) else none) else none)) else none :=
  (e_nx f_203_10 rfl).trans ((e_nx (q := (_, _, .int 43 :: _, _)) f_203_11 rfl).trans ((e_gI (L := [.ref l0, .int x1, w2]) (st := [.int 43, .ref l0]) (μ := μ) (L' := [.ref l0, .int x1, w2]) (st' := []) f_203_13 rfl rfl).trans (g_congr (v_c2 rfl (Nat.le_of_ble_eq_true rfl)) (fun h2 => m_congr fun p1 => (e_ne f_203_16 rfl).trans (b_congr (fun h3 => (e_nx f_203_19 rfl).trans ((e_nx (q := (_, _, .int 45 :: _, _)) f_203_20 rfl).trans ((e_gI (L := [.ref l0, .int x1, w2]) (st := [.int 45, .ref l0]) (μ := p1.2) (L' := [.ref l0, .int x1, w2]) (st' := []) f_203_22 rfl rfl).trans (g_congr (v_c2 rfl (Nat.le_of_ble_eq_true rfl)) (fun h5 => m_congr fun p4 => (e_eq f_203_25 rfl).trans (b_congr (fun h6 => (e_nx (q := (_, _, .int 1 :: _, _)) f_203_56 rfl).trans (e_rt f_203_57 rfl)) (fun h6 => (e_nx f_203_28 rfl).trans ((e_gd f_203_29 rfl).trans (g_congr (Iff.rfl) (fun h7 => (e_nx (q := (_, [.ref l0, .int x1, .int (mF p4.2 l0 25)], _, _)) f_203_32 rfl).trans ((e_nx f_203_33 rfl).trans ((e_gV (L := [.ref l0, .int x1, .int (mF p4.2 l0 25)]) (st := [.ref l0]) (μ := p4.2) (L' := [.ref l0, .int x1, .int (mF p4.2 l0 25)]) (st' := []) f_203_34 rfl rfl).trans (g_congr (v_c2 rfl (Nat.le_of_ble_eq_true rfl)) (fun h9 => m_congr fun p8 => (e_nx f_203_37 rfl).trans ((e_nx f_203_38 rfl).trans ((e_gI (L := [.ref l0, .int x1, .int (mF p4.2 l0 25)]) (st := [.int x1, .ref l0]) (μ := p8) (L' := [.ref l0, .int x1, .int (mF p4.2 l0 25)]) (st' := []) f_203_39 rfl rfl).trans (g_congr (v_c2 rfl (Nat.le_of_ble_eq_true rfl)) (fun h11 => m_congr fun p10 => (e_ne f_203_42 rfl).trans (b_congr (fun h12 => (e_nx (q := (_, _, .int 0 :: _, _)) f_203_45 rfl).trans (e_rt f_203_46 rfl)) (fun h12 => (e_nx f_203_47 rfl).trans ((e_nx (q := (_, _, .int 2 :: _, _)) f_203_48 rfl).trans ((e_nx f_203_49 rfl).trans ((e_gV (L := [.ref l0, .int x1, .int (mF p4.2 l0 25)]) (st := [.int (mF p4.2 l0 25), .int 2, .ref l0]) (μ := p10.2) (L' := [.ref l0, .int x1, .int (mF p4.2 l0 25)]) (st' := []) f_203_50 rfl rfl).trans (g_congr (v_c2 rfl (Nat.le_of_ble_eq_true rfl)) (fun h14 => m_congr fun p13 => e_nx f_203_53 rfl))))))))))))))))))))))))) (fun h3 => (e_nx f_203_28 rfl).trans ((e_gd f_203_29 rfl).trans (g_congr (Iff.rfl) (fun h15 => (e_nx (q := (_, [.ref l0, .int x1, .int (mF p1.2 l0 25)], _, _)) f_203_32 rfl).trans ((e_nx f_203_33 rfl).trans ((e_gV (L := [.ref l0, .int x1, .int (mF p1.2 l0 25)]) (st := [.ref l0]) (μ := p1.2) (L' := [.ref l0, .int x1, .int (mF p1.2 l0 25)]) (st' := []) f_203_34 rfl rfl).trans (g_congr (v_c2 rfl (Nat.le_of_ble_eq_true rfl)) (fun h17 => m_congr fun p16 => (e_nx f_203_37 rfl).trans ((e_nx f_203_38 rfl).trans ((e_gI (L := [.ref l0, .int x1, .int (mF p1.2 l0 25)]) (st := [.int x1, .ref l0]) (μ := p16) (L' := [.ref l0, .int x1, .int (mF p1.2 l0 25)]) (st' := []) f_203_39 rfl rfl).trans (g_congr (v_c2 rfl (Nat.le_of_ble_eq_true rfl)) (fun h19 => m_congr fun p18 => (e_ne f_203_42 rfl).trans (b_congr (fun h20 => (e_nx (q := (_, _, .int 0 :: _, _)) f_203_45 rfl).trans (e_rt f_203_46 rfl)) (fun h20 => (e_nx f_203_47 rfl).trans ((e_nx (q := (_, _, .int 2 :: _, _)) f_203_48 rfl).trans ((e_nx f_203_49 rfl).trans ((e_gV (L := [.ref l0, .int x1, .int (mF p1.2 l0 25)]) (st := [.int (mF p1.2 l0 25), .int 2, .ref l0]) (μ := p18.2) (L' := [.ref l0, .int x1, .int (mF p1.2 l0 25)]) (st' := []) f_203_50 rfl rfl).trans (g_congr (v_c2 rfl (Nat.le_of_ble_eq_true rfl)) (fun h22 => m_congr fun p21 => e_nx f_203_53 rfl))))))))))))))))))))))))
theorem pg_204 (pc : Nat) : fe0 204 pc = lk prg_204 pc := rfl
theorem f_204_0 : fe0 204 0 = some (.aload_n 0, 1, 0, 0, 0, 0, 0) := (pg_204 0).trans rfl
theorem f_204_1 : fe0 204 1 = some (.iload_n 1, 1, 0, 0, 0, 0, 0) := (pg_204 1).trans rfl
theorem f_204_2 : fe0 204 2 = some (.invokevirtual 298, 3, 205, 1, 0, 9, 6199) := (pg_204 2).trans rfl
theorem f_204_5 : fe0 204 5 = some (.ifCond .ne 5, 3, 0, 0, 0, 0, 0) := (pg_204 5).trans rfl
theorem f_204_8 : fe0 204 8 = some (.iconst 0, 1, 0, 0, 0, 0, 0) := (pg_204 8).trans rfl
theorem f_204_9 : fe0 204 9 = some (.ireturn, 1, 1, 0, 0, 0, 0) := (pg_204 9).trans rfl
theorem f_204_10 : fe0 204 10 = some (.aload_n 0, 1, 0, 0, 0, 0, 0) := (pg_204 10).trans rfl
theorem f_204_11 : fe0 204 11 = some (.bipush 42, 2, 0, 0, 0, 0, 0) := (pg_204 11).trans rfl
theorem f_204_13 : fe0 204 13 = some (.invokevirtual 279, 3, 195, 1, 0, 9, 6210) := (pg_204 13).trans rfl
theorem f_204_16 : fe0 204 16 = some (.ifCond .ne 12, 3, 0, 0, 0, 0, 0) := (pg_204 16).trans rfl
theorem f_204_19 : fe0 204 19 = some (.aload_n 0, 1, 0, 0, 0, 0, 0) := (pg_204 19).trans rfl
theorem f_204_20 : fe0 204 20 = some (.bipush 47, 2, 0, 0, 0, 0, 0) := (pg_204 20).trans rfl
theorem f_204_22 : fe0 204 22 = some (.invokevirtual 279, 3, 195, 1, 0, 9, 6210) := (pg_204 22).trans rfl
theorem f_204_25 : fe0 204 25 = some (.ifCond .eq 31, 3, 0, 0, 0, 0, 0) := (pg_204 25).trans rfl
theorem f_204_28 : fe0 204 28 = some (.aload_n 0, 1, 0, 0, 0, 0, 0) := (pg_204 28).trans rfl
theorem f_204_29 : fe0 204 29 = some (.getfield 257, 3, 9, 25, 0, 0, 5049) := (pg_204 29).trans rfl
theorem f_204_32 : fe0 204 32 = some (.istore_n 2, 1, 0, 0, 0, 0, 0) := (pg_204 32).trans rfl
theorem f_204_33 : fe0 204 33 = some (.aload_n 0, 1, 0, 0, 0, 0, 0) := (pg_204 33).trans rfl
theorem f_204_34 : fe0 204 34 = some (.invokevirtual 282, 3, 194, 0, 0, 9, 6155) := (pg_204 34).trans rfl
theorem f_204_37 : fe0 204 37 = some (.aload_n 0, 1, 0, 0, 0, 0, 0) := (pg_204 37).trans rfl
theorem f_204_38 : fe0 204 38 = some (.iload_n 1, 1, 0, 0, 0, 0, 0) := (pg_204 38).trans rfl
theorem f_204_39 : fe0 204 39 = some (.invokevirtual 298, 3, 205, 1, 0, 9, 6199) := (pg_204 39).trans rfl
theorem f_204_42 : fe0 204 42 = some (.ifCond .ne 5, 3, 0, 0, 0, 0, 0) := (pg_204 42).trans rfl
theorem f_204_45 : fe0 204 45 = some (.iconst 0, 1, 0, 0, 0, 0, 0) := (pg_204 45).trans rfl
theorem f_204_46 : fe0 204 46 = some (.ireturn, 1, 1, 0, 0, 0, 0) := (pg_204 46).trans rfl
theorem f_204_47 : fe0 204 47 = some (.aload_n 0, 1, 0, 0, 0, 0, 0) := (pg_204 47).trans rfl
theorem f_204_48 : fe0 204 48 = some (.iconst 2, 1, 0, 0, 0, 0, 0) := (pg_204 48).trans rfl
theorem f_204_49 : fe0 204 49 = some (.iload_n 2, 1, 0, 0, 0, 0, 0) := (pg_204 49).trans rfl
theorem f_204_50 : fe0 204 50 = some (.invokevirtual 285, 3, 199, 2, 0, 9, 6203) := (pg_204 50).trans rfl
theorem f_204_53 : fe0 204 53 = some (.goto (-43), 3, 0, 0, 0, 0, 0) := (pg_204 53).trans rfl
theorem f_204_56 : fe0 204 56 = some (.iconst 1, 1, 0, 0, 0, 0, 0) := (pg_204 56).trans rfl
theorem f_204_57 : fe0 204 57 = some (.ireturn, 1, 1, 0, 0, 0, 0) := (pg_204 57).trans rfl
theorem q_204_0 (d : Nat) (l0 : Nat) (x1 : Int32) (μ : aMem) : Rn (d + 1) 204 (0, [.ref l0, .int x1, un], [], μ) = if (mS μ l0).1 = 9 ∧ l0 < 999999 then ((cI d 205 [.ref l0, .int x1] μ).bind fun p1 => if p1.1 = 0 then (some (some (.int 0), p1.2)) else (Rn (d + 1) 204 (10, [.ref l0, .int x1, un], [], p1.2))) else none :=
  (e_nx f_204_0 rfl).trans ((e_nx f_204_1 rfl).trans ((e_gI (L := [.ref l0, .int x1, un]) (st := [.int x1, .ref l0]) (μ := μ) (L' := [.ref l0, .int x1, un]) (st' := []) f_204_2 rfl rfl).trans (g_congr (v_c2 rfl (Nat.le_of_ble_eq_true rfl)) (fun h2 => m_congr fun p1 => (e_ne f_204_5 rfl).trans (b_congr (fun h3 => (e_nx (q := (_, _, .int 0 :: _, _)) f_204_8 rfl).trans (e_rt f_204_9 rfl)) (fun h3 => rfl))))))
theorem q_204_10 (d : Nat) (l0 : Nat) (x1 : Int32) (w2 : Value) (μ : aMem) : Rn (d + 1) 204 (10, [.ref l0, .int x1, w2], [], μ) = if (mS μ l0).1 = 9 ∧ l0 < 999999 then ((cI d 195 [.ref l0, .int 42] μ).bind fun p1 => if p1.1 = 0 then (if (mS p1.2 l0).1 = 9 ∧ l0 < 999999 then ((cI d 195 [.ref l0, .int 47] p1.2).bind fun p4 => if p4.1 = 0 then (some (some (.int 1), p4.2)) else (if (mS p4.2 l0).1 = 9 then (if (mS p4.2 l0).1 = 9 ∧ l0 < 999999 then ((cV d 194 [.ref l0] p4.2).bind fun p8 => if (mS p8 l0).1 = 9 ∧ l0 < 999999 then ((cI d 205 [.ref l0, .int x1] p8).bind fun p10 => if p10.1 = 0 then (some (some (.int 0), p10.2)) else (if (mS p10.2 l0).1 = 9 ∧ l0 < 999999 then ((cV d 199 [.ref l0, .int 2, .int (mF p4.2 l0 25)] p10.2).bind fun p13 => Rn (d + 1) 204 (10, [.ref l0, .int x1, .int (mF p4.2 l0 25)], [], p13)) else none)) else none) else none) else none)) else none) else (if (mS p1.2 l0).1 = 9 then (if (mS p1.2 l0).1 = 9 ∧ l0 < 999999 then ((cV d 194 [.ref l0] p1.2).bind fun p16 => if (mS p16 l0).1 = 9 ∧ l0 < 999999 then ((cI d 205 [.ref l0, .int x1] p16).bind fun p18 => if p18.1 = 0 then (some (some (.int 0), p18.2)) else (if (mS p18.2 l0).1 = 9 ∧ l0 < 999999 then ((cV d 199 [.ref l0, .int 2, .int (mF p1.2 l0 25)] p18.2).bind fun p21 => Rn (d + 1) 204 (10, [.ref l0, .int x1, .int (mF p1.2 l0 25)], [], p21)) else none)) else none) else none) else none)) else none :=
  (e_nx f_204_10 rfl).trans ((e_nx (q := (_, _, .int 42 :: _, _)) f_204_11 rfl).trans ((e_gI (L := [.ref l0, .int x1, w2]) (st := [.int 42, .ref l0]) (μ := μ) (L' := [.ref l0, .int x1, w2]) (st' := []) f_204_13 rfl rfl).trans (g_congr (v_c2 rfl (Nat.le_of_ble_eq_true rfl)) (fun h2 => m_congr fun p1 => (e_ne f_204_16 rfl).trans (b_congr (fun h3 => (e_nx f_204_19 rfl).trans ((e_nx (q := (_, _, .int 47 :: _, _)) f_204_20 rfl).trans ((e_gI (L := [.ref l0, .int x1, w2]) (st := [.int 47, .ref l0]) (μ := p1.2) (L' := [.ref l0, .int x1, w2]) (st' := []) f_204_22 rfl rfl).trans (g_congr (v_c2 rfl (Nat.le_of_ble_eq_true rfl)) (fun h5 => m_congr fun p4 => (e_eq f_204_25 rfl).trans (b_congr (fun h6 => (e_nx (q := (_, _, .int 1 :: _, _)) f_204_56 rfl).trans (e_rt f_204_57 rfl)) (fun h6 => (e_nx f_204_28 rfl).trans ((e_gd f_204_29 rfl).trans (g_congr (Iff.rfl) (fun h7 => (e_nx (q := (_, [.ref l0, .int x1, .int (mF p4.2 l0 25)], _, _)) f_204_32 rfl).trans ((e_nx f_204_33 rfl).trans ((e_gV (L := [.ref l0, .int x1, .int (mF p4.2 l0 25)]) (st := [.ref l0]) (μ := p4.2) (L' := [.ref l0, .int x1, .int (mF p4.2 l0 25)]) (st' := []) f_204_34 rfl rfl).trans (g_congr (v_c2 rfl (Nat.le_of_ble_eq_true rfl)) (fun h9 => m_congr fun p8 => (e_nx f_204_37 rfl).trans ((e_nx f_204_38 rfl).trans ((e_gI (L := [.ref l0, .int x1, .int (mF p4.2 l0 25)]) (st := [.int x1, .ref l0]) (μ := p8) (L' := [.ref l0, .int x1, .int (mF p4.2 l0 25)]) (st' := []) f_204_39 rfl rfl).trans (g_congr (v_c2 rfl (Nat.le_of_ble_eq_true rfl)) (fun h11 => m_congr fun p10 => (e_ne f_204_42 rfl).trans (b_congr (fun h12 => (e_nx (q := (_, _, .int 0 :: _, _)) f_204_45 rfl).trans (e_rt f_204_46 rfl)) (fun h12 => (e_nx f_204_47 rfl).trans ((e_nx (q := (_, _, .int 2 :: _, _)) f_204_48 rfl).trans ((e_nx f_204_49 rfl).trans ((e_gV (L := [.ref l0, .int x1, .int (mF p4.2 l0 25)]) (st := [.int (mF p4.2 l0 25), .int 2, .ref l0]) (μ := p10.2) (L' := [.ref l0, .int x1, .int (mF p4.2 l0 25)]) (st' := []) f_204_50 rfl rfl).trans (g_congr (v_c2 rfl (Nat.le_of_ble_eq_true rfl)) (fun h14 => m_congr fun p13 => e_nx f_204_53 rfl))))))))))))))))))))))))) (fun h3 => (e_nx f_204_28 rfl).trans ((e_gd f_204_29 rfl).trans (g_congr (Iff.rfl) (fun h15 => (e_nx (q := (_, [.ref l0, .int x1, .int (mF p1.2 l0 25)], _, _)) f_204_32 rfl).trans ((e_nx f_204_33 rfl).trans ((e_gV (L := [.ref l0, .int x1, .int (mF p1.2 l0 25)]) (st := [.ref l0]) (μ := p1.2) (L' := [.ref l0, .int x1, .int (mF p1.2 l0 25)]) (st' := []) f_204_34 rfl rfl).trans (g_congr (v_c2 rfl (Nat.le_of_ble_eq_true rfl)) (fun h17 => m_congr fun p16 => (e_nx f_204_37 rfl).trans ((e_nx f_204_38 rfl).trans ((e_gI (L := [.ref l0, .int x1, .int (mF p1.2 l0 25)]) (st := [.int x1, .ref l0]) (μ := p16) (L' := [.ref l0, .int x1, .int (mF p1.2 l0 25)]) (st' := []) f_204_39 rfl rfl).trans (g_congr (v_c2 rfl (Nat.le_of_ble_eq_true rfl)) (fun h19 => m_congr fun p18 => (e_ne f_204_42 rfl).trans (b_congr (fun h20 => (e_nx (q := (_, _, .int 0 :: _, _)) f_204_45 rfl).trans (e_rt f_204_46 rfl)) (fun h20 => (e_nx f_204_47 rfl).trans ((e_nx (q := (_, _, .int 2 :: _, _)) f_204_48 rfl).trans ((e_nx f_204_49 rfl).trans ((e_gV (L := [.ref l0, .int x1, .int (mF p1.2 l0 25)]) (st := [.int (mF p1.2 l0 25), .int 2, .ref l0]) (μ := p18.2) (L' := [.ref l0, .int x1, .int (mF p1.2 l0 25)]) (st' := []) f_204_50 rfl rfl).trans (g_congr (v_c2 rfl (Nat.le_of_ble_eq_true rfl)) (fun h22 => m_congr fun p21 => e_nx f_204_53 rfl))))))))))))))))))))))))
theorem pg_205 (pc : Nat) : fe0 205 pc = lk prg_205 pc := rfl
theorem f_205_0 : fe0 205 0 = some (.aload_n 0, 1, 0, 0, 0, 0, 0) := (pg_205 0).trans rfl
theorem f_205_1 : fe0 205 1 = some (.getfield 248, 3, 9, 23, 0, 0, 5047) := (pg_205 1).trans rfl
theorem f_205_4 : fe0 205 4 = some (.iconst 2, 1, 0, 0, 0, 0, 0) := (pg_205 4).trans rfl
theorem f_205_5 : fe0 205 5 = some (.if_icmp .ne 28, 3, 0, 0, 0, 0, 0) := (pg_205 5).trans rfl
theorem f_205_8 : fe0 205 8 = some (.aload_n 0, 1, 0, 0, 0, 0, 0) := (pg_205 8).trans rfl
theorem f_205_9 : fe0 205 9 = some (.iconst 0, 1, 0, 0, 0, 0, 0) := (pg_205 9).trans rfl
theorem f_205_10 : fe0 205 10 = some (.aload_n 0, 1, 0, 0, 0, 0, 0) := (pg_205 10).trans rfl
theorem f_205_11 : fe0 205 11 = some (.getfield 263, 3, 9, 24, 0, 0, 5048) := (pg_205 11).trans rfl
theorem f_205_14 : fe0 205 14 = some (.invokevirtual 285, 3, 199, 2, 0, 9, 6203) := (pg_205 14).trans rfl
theorem f_205_17 : fe0 205 17 = some (.aload_n 0, 1, 0, 0, 0, 0, 0) := (pg_205 17).trans rfl
theorem f_205_18 : fe0 205 18 = some (.dup, 1, 0, 0, 0, 0, 0) := (pg_205 18).trans rfl
theorem f_205_19 : fe0 205 19 = some (.getfield 301, 3, 9, 30, 0, 0, 5054) := (pg_205 19).trans rfl
theorem f_205_22 : fe0 205 22 = some (.iconst 1, 1, 0, 0, 0, 0, 0) := (pg_205 22).trans rfl
theorem f_205_23 : fe0 205 23 = some (.iadd, 1, 0, 0, 0, 0, 0) := (pg_205 23).trans rfl
theorem f_205_24 : fe0 205 24 = some (.putfield 301, 3, 9, 30, 0, 0, 5054) := (pg_205 24).trans rfl
theorem f_205_27 : fe0 205 27 = some (.aload_n 0, 1, 0, 0, 0, 0, 0) := (pg_205 27).trans rfl
theorem f_205_28 : fe0 205 28 = some (.invokevirtual 282, 3, 194, 0, 0, 9, 6155) := (pg_205 28).trans rfl
theorem f_205_31 : fe0 205 31 = some (.iconst 1, 1, 0, 0, 0, 0, 0) := (pg_205 31).trans rfl
theorem f_205_32 : fe0 205 32 = some (.ireturn, 1, 1, 0, 0, 0, 0) := (pg_205 32).trans rfl
theorem f_205_33 : fe0 205 33 = some (.aload_n 0, 1, 0, 0, 0, 0, 0) := (pg_205 33).trans rfl
theorem f_205_34 : fe0 205 34 = some (.getfield 248, 3, 9, 23, 0, 0, 5047) := (pg_205 34).trans rfl
theorem f_205_37 : fe0 205 37 = some (.iconst 1, 1, 0, 0, 0, 0, 0) := (pg_205 37).trans rfl
theorem f_205_38 : fe0 205 38 = some (.if_icmp .ne 46, 3, 0, 0, 0, 0, 0) := (pg_205 38).trans rfl
theorem f_205_41 : fe0 205 41 = some (.aload_n 0, 1, 0, 0, 0, 0, 0) := (pg_205 41).trans rfl
theorem f_205_42 : fe0 205 42 = some (.getfield 257, 3, 9, 25, 0, 0, 5049) := (pg_205 42).trans rfl
theorem f_205_45 : fe0 205 45 = some (.ifCond .eq 39, 3, 0, 0, 0, 0, 0) := (pg_205 45).trans rfl
theorem f_205_48 : fe0 205 48 = some (.iload_n 1, 1, 0, 0, 0, 0, 0) := (pg_205 48).trans rfl
theorem f_205_49 : fe0 205 49 = some (.aload_n 0, 1, 0, 0, 0, 0, 0) := (pg_205 49).trans rfl
theorem f_205_50 : fe0 205 50 = some (.getfield 257, 3, 9, 25, 0, 0, 5049) := (pg_205 50).trans rfl
theorem f_205_53 : fe0 205 53 = some (.invokestatic 304, 3, 198, 2, 2, 0, 6207) := (pg_205 53).trans rfl
theorem f_205_56 : fe0 205 56 = some (.ifCond .eq 28, 3, 0, 0, 0, 0, 0) := (pg_205 56).trans rfl
theorem f_205_59 : fe0 205 59 = some (.aload_n 0, 1, 0, 0, 0, 0, 0) := (pg_205 59).trans rfl
theorem f_205_60 : fe0 205 60 = some (.iconst 1, 1, 0, 0, 0, 0, 0) := (pg_205 60).trans rfl
theorem f_205_61 : fe0 205 61 = some (.aload_n 0, 1, 0, 0, 0, 0, 0) := (pg_205 61).trans rfl
theorem f_205_62 : fe0 205 62 = some (.getfield 257, 3, 9, 25, 0, 0, 5049) := (pg_205 62).trans rfl
theorem f_205_65 : fe0 205 65 = some (.invokevirtual 285, 3, 199, 2, 0, 9, 6203) := (pg_205 65).trans rfl
theorem f_205_68 : fe0 205 68 = some (.aload_n 0, 1, 0, 0, 0, 0, 0) := (pg_205 68).trans rfl
theorem f_205_69 : fe0 205 69 = some (.dup, 1, 0, 0, 0, 0, 0) := (pg_205 69).trans rfl
theorem f_205_70 : fe0 205 70 = some (.getfield 301, 3, 9, 30, 0, 0, 5054) := (pg_205 70).trans rfl
theorem f_205_73 : fe0 205 73 = some (.iconst 1, 1, 0, 0, 0, 0, 0) := (pg_205 73).trans rfl
theorem f_205_74 : fe0 205 74 = some (.iadd, 1, 0, 0, 0, 0, 0) := (pg_205 74).trans rfl
theorem f_205_75 : fe0 205 75 = some (.putfield 301, 3, 9, 30, 0, 0, 5054) := (pg_205 75).trans rfl
theorem f_205_78 : fe0 205 78 = some (.aload_n 0, 1, 0, 0, 0, 0, 0) := (pg_205 78).trans rfl
theorem f_205_79 : fe0 205 79 = some (.invokevirtual 282, 3, 194, 0, 0, 9, 6155) := (pg_205 79).trans rfl
theorem f_205_82 : fe0 205 82 = some (.iconst 1, 1, 0, 0, 0, 0, 0) := (pg_205 82).trans rfl
theorem f_205_83 : fe0 205 83 = some (.ireturn, 1, 1, 0, 0, 0, 0) := (pg_205 83).trans rfl
theorem f_205_84 : fe0 205 84 = some (.aload_n 0, 1, 0, 0, 0, 0, 0) := (pg_205 84).trans rfl
theorem f_205_85 : fe0 205 85 = some (.bipush 33, 2, 0, 0, 0, 0, 0) := (pg_205 85).trans rfl
theorem f_205_87 : fe0 205 87 = some (.invokevirtual 279, 3, 195, 1, 0, 9, 6210) := (pg_205 87).trans rfl
theorem f_205_90 : fe0 205 90 = some (.ifCond .eq 55, 3, 0, 0, 0, 0, 0) := (pg_205 90).trans rfl
theorem f_205_93 : fe0 205 93 = some (.aload_n 0, 1, 0, 0, 0, 0, 0) := (pg_205 93).trans rfl
theorem f_205_94 : fe0 205 94 = some (.getfield 307, 3, 9, 27, 0, 0, 5051) := (pg_205 94).trans rfl
theorem f_205_97 : fe0 205 97 = some (.bipush 8, 2, 0, 0, 0, 0, 0) := (pg_205 97).trans rfl
theorem f_205_99 : fe0 205 99 = some (.if_icmp .ge 46, 3, 0, 0, 0, 0, 0) := (pg_205 99).trans rfl
theorem f_205_102 : fe0 205 102 = some (.aload_n 0, 1, 0, 0, 0, 0, 0) := (pg_205 102).trans rfl
theorem f_205_103 : fe0 205 103 = some (.dup, 1, 0, 0, 0, 0, 0) := (pg_205 103).trans rfl
theorem f_205_104 : fe0 205 104 = some (.getfield 307, 3, 9, 27, 0, 0, 5051) := (pg_205 104).trans rfl
theorem f_205_107 : fe0 205 107 = some (.iconst 1, 1, 0, 0, 0, 0, 0) := (pg_205 107).trans rfl
theorem f_205_108 : fe0 205 108 = some (.iadd, 1, 0, 0, 0, 0, 0) := (pg_205 108).trans rfl
theorem f_205_109 : fe0 205 109 = some (.putfield 307, 3, 9, 27, 0, 0, 5051) := (pg_205 109).trans rfl
theorem f_205_112 : fe0 205 112 = some (.aload_n 0, 1, 0, 0, 0, 0, 0) := (pg_205 112).trans rfl
theorem f_205_113 : fe0 205 113 = some (.invokevirtual 282, 3, 194, 0, 0, 9, 6155) := (pg_205 113).trans rfl
theorem f_205_116 : fe0 205 116 = some (.aload_n 0, 1, 0, 0, 0, 0, 0) := (pg_205 116).trans rfl
theorem f_205_117 : fe0 205 117 = some (.iload_n 1, 1, 0, 0, 0, 0, 0) := (pg_205 117).trans rfl
theorem f_205_118 : fe0 205 118 = some (.invokevirtual 298, 3, 205, 1, 0, 9, 6199) := (pg_205 118).trans rfl
theorem f_205_121 : fe0 205 121 = some (.ifCond .ne 5, 3, 0, 0, 0, 0, 0) := (pg_205 121).trans rfl
theorem f_205_124 : fe0 205 124 = some (.iconst 0, 1, 0, 0, 0, 0, 0) := (pg_205 124).trans rfl
theorem f_205_125 : fe0 205 125 = some (.ireturn, 1, 1, 0, 0, 0, 0) := (pg_205 125).trans rfl
theorem f_205_126 : fe0 205 126 = some (.aload_n 0, 1, 0, 0, 0, 0, 0) := (pg_205 126).trans rfl
theorem f_205_127 : fe0 205 127 = some (.dup, 1, 0, 0, 0, 0, 0) := (pg_205 127).trans rfl
theorem f_205_128 : fe0 205 128 = some (.getfield 307, 3, 9, 27, 0, 0, 5051) := (pg_205 128).trans rfl
theorem f_205_131 : fe0 205 131 = some (.iconst 1, 1, 0, 0, 0, 0, 0) := (pg_205 131).trans rfl
theorem f_205_132 : fe0 205 132 = some (.isub, 1, 0, 0, 0, 0, 0) := (pg_205 132).trans rfl
theorem f_205_133 : fe0 205 133 = some (.putfield 307, 3, 9, 27, 0, 0, 5051) := (pg_205 133).trans rfl
theorem f_205_136 : fe0 205 136 = some (.aload_n 0, 1, 0, 0, 0, 0, 0) := (pg_205 136).trans rfl
theorem f_205_137 : fe0 205 137 = some (.iconst 2, 1, 0, 0, 0, 0, 0) := (pg_205 137).trans rfl
theorem f_205_138 : fe0 205 138 = some (.bipush 33, 2, 0, 0, 0, 0, 0) := (pg_205 138).trans rfl
theorem f_205_140 : fe0 205 140 = some (.invokevirtual 285, 3, 199, 2, 0, 9, 6203) := (pg_205 140).trans rfl
theorem f_205_143 : fe0 205 143 = some (.iconst 1, 1, 0, 0, 0, 0, 0) := (pg_205 143).trans rfl
theorem f_205_144 : fe0 205 144 = some (.ireturn, 1, 1, 0, 0, 0, 0) := (pg_205 144).trans rfl
theorem f_205_145 : fe0 205 145 = some (.aload_n 0, 1, 0, 0, 0, 0, 0) := (pg_205 145).trans rfl
theorem f_205_146 : fe0 205 146 = some (.bipush 40, 2, 0, 0, 0, 0, 0) := (pg_205 146).trans rfl
theorem f_205_148 : fe0 205 148 = some (.invokevirtual 279, 3, 195, 1, 0, 9, 6210) := (pg_205 148).trans rfl
theorem f_205_151 : fe0 205 151 = some (.ifCond .eq 12, 3, 0, 0, 0, 0, 0) := (pg_205 151).trans rfl
theorem f_205_154 : fe0 205 154 = some (.aload_n 0, 1, 0, 0, 0, 0, 0) := (pg_205 154).trans rfl
theorem f_205_155 : fe0 205 155 = some (.getfield 310, 3, 9, 26, 0, 0, 5050) := (pg_205 155).trans rfl
theorem f_205_158 : fe0 205 158 = some (.bipush 8, 2, 0, 0, 0, 0, 0) := (pg_205 158).trans rfl
theorem f_205_160 : fe0 205 160 = some (.if_icmp .ne 5, 3, 0, 0, 0, 0, 0) := (pg_205 160).trans rfl
theorem f_205_163 : fe0 205 163 = some (.iconst 0, 1, 0, 0, 0, 0, 0) := (pg_205 163).trans rfl
theorem f_205_164 : fe0 205 164 = some (.ireturn, 1, 1, 0, 0, 0, 0) := (pg_205 164).trans rfl
theorem f_205_165 : fe0 205 165 = some (.aload_n 0, 1, 0, 0, 0, 0, 0) := (pg_205 165).trans rfl
theorem f_205_166 : fe0 205 166 = some (.dup, 1, 0, 0, 0, 0, 0) := (pg_205 166).trans rfl
theorem f_205_167 : fe0 205 167 = some (.getfield 310, 3, 9, 26, 0, 0, 5050) := (pg_205 167).trans rfl
theorem f_205_170 : fe0 205 170 = some (.iconst 1, 1, 0, 0, 0, 0, 0) := (pg_205 170).trans rfl
theorem f_205_171 : fe0 205 171 = some (.iadd, 1, 0, 0, 0, 0, 0) := (pg_205 171).trans rfl
theorem f_205_172 : fe0 205 172 = some (.putfield 310, 3, 9, 26, 0, 0, 5050) := (pg_205 172).trans rfl
theorem f_205_175 : fe0 205 175 = some (.aload_n 0, 1, 0, 0, 0, 0, 0) := (pg_205 175).trans rfl
theorem f_205_176 : fe0 205 176 = some (.invokevirtual 282, 3, 194, 0, 0, 9, 6155) := (pg_205 176).trans rfl
theorem f_205_179 : fe0 205 179 = some (.aload_n 0, 1, 0, 0, 0, 0, 0) := (pg_205 179).trans rfl
theorem f_205_180 : fe0 205 180 = some (.iload_n 1, 1, 0, 0, 0, 0, 0) := (pg_205 180).trans rfl
theorem f_205_181 : fe0 205 181 = some (.invokevirtual 313, 3, 200, 1, 0, 9, 6179) := (pg_205 181).trans rfl
theorem f_205_184 : fe0 205 184 = some (.ifCond .eq 12, 3, 0, 0, 0, 0, 0) := (pg_205 184).trans rfl
theorem f_205_187 : fe0 205 187 = some (.aload_n 0, 1, 0, 0, 0, 0, 0) := (pg_205 187).trans rfl
theorem f_205_188 : fe0 205 188 = some (.bipush 41, 2, 0, 0, 0, 0, 0) := (pg_205 188).trans rfl
theorem f_205_190 : fe0 205 190 = some (.invokevirtual 279, 3, 195, 1, 0, 9, 6210) := (pg_205 190).trans rfl
theorem f_205_193 : fe0 205 193 = some (.ifCond .ne 5, 3, 0, 0, 0, 0, 0) := (pg_205 193).trans rfl
theorem f_205_196 : fe0 205 196 = some (.iconst 0, 1, 0, 0, 0, 0, 0) := (pg_205 196).trans rfl
theorem f_205_197 : fe0 205 197 = some (.ireturn, 1, 1, 0, 0, 0, 0) := (pg_205 197).trans rfl
theorem f_205_198 : fe0 205 198 = some (.aload_n 0, 1, 0, 0, 0, 0, 0) := (pg_205 198).trans rfl
theorem f_205_199 : fe0 205 199 = some (.dup, 1, 0, 0, 0, 0, 0) := (pg_205 199).trans rfl
theorem f_205_200 : fe0 205 200 = some (.getfield 310, 3, 9, 26, 0, 0, 5050) := (pg_205 200).trans rfl
theorem f_205_203 : fe0 205 203 = some (.iconst 1, 1, 0, 0, 0, 0, 0) := (pg_205 203).trans rfl
theorem f_205_204 : fe0 205 204 = some (.isub, 1, 0, 0, 0, 0, 0) := (pg_205 204).trans rfl
theorem f_205_205 : fe0 205 205 = some (.putfield 310, 3, 9, 26, 0, 0, 5050) := (pg_205 205).trans rfl
theorem f_205_208 : fe0 205 208 = some (.aload_n 0, 1, 0, 0, 0, 0, 0) := (pg_205 208).trans rfl
theorem f_205_209 : fe0 205 209 = some (.invokevirtual 282, 3, 194, 0, 0, 9, 6155) := (pg_205 209).trans rfl
theorem f_205_212 : fe0 205 212 = some (.iconst 1, 1, 0, 0, 0, 0, 0) := (pg_205 212).trans rfl
theorem f_205_213 : fe0 205 213 = some (.ireturn, 1, 1, 0, 0, 0, 0) := (pg_205 213).trans rfl
theorem q_205_0 (d : Nat) (l0 : Nat) (x1 : Int32) (μ : aMem) : Rn (d + 1) 205 (0, [.ref l0, .int x1], [], μ) = if (mS μ l0).1 = 9 then (if (mF μ l0 23) = 2 then (if (mS μ l0).1 = 9 ∧ l0 < 999999 then ((cV d 199 [.ref l0, .int 0, .int (mF μ l0 24)] μ).bind fun p3 => if (mS p3 l0).1 = 9 then (if (mS p3 l0).1 = 9 ∧ l0 < 999999 then ((cV d 194 [.ref l0] (setF p3 l0 30 ((mF p3 l0 30) + 1))).bind fun p6 => some (some (.int 1), p6)) else none) else none) else none) else (if (mF μ l0 23) = 1 then (if (mF μ l0 25) = 0 then (Rn (d + 1) 205 (84, [.ref l0, .int x1], [], μ)) else ((cI d 198 [.int x1, .int (mF μ l0 25)] μ).bind fun p10 => if p10.1 = 0 then (Rn (d + 1) 205 (84, [.ref l0, .int x1], [], p10.2)) else (if (mS p10.2 l0).1 = 9 then (if (mS p10.2 l0).1 = 9 ∧ l0 < 999999 then ((cV d 199 [.ref l0, .int 1, .int (mF p10.2 l0 25)] p10.2).bind fun p13 => if (mS p13 l0).1 = 9 then (if (mS p13 l0).1 = 9 ∧ l0 < 999999 then ((cV d 194 [.ref l0] (setF p13 l0 30 ((mF p13 l0 30) + 1))).bind fun p16 => some (some (.int 1), p16)) else none) else none) else none) else none))) else (Rn (d + 1) 205 (84, [.ref l0, .int x1], [], μ)))) else none :=
  (e_nx f_205_0 rfl).trans ((e_gd f_205_1 rfl).trans (g_congr (Iff.rfl) (fun h1 => (e_nx (q := (_, _, .int 2 :: _, _)) f_205_4 rfl).trans ((e_ne f_205_5 rfl).trans (b_congr (fun h2 => (e_nx f_205_8 rfl).trans ((e_nx (q := (_, _, .int 0 :: _, _)) f_205_9 rfl).trans ((e_nx f_205_10 rfl).trans ((e_gk f_205_11 (h1) rfl).trans ((e_gV (L := [.ref l0, .int x1]) (st := [.int (mF μ l0 24), .int 0, .ref l0]) (μ := μ) (L' := [.ref l0, .int x1]) (st' := []) f_205_14 rfl rfl).trans (g_congr (v_c2 rfl (Nat.le_of_ble_eq_true rfl)) (fun h4 => m_congr fun p3 => (e_nx f_205_17 rfl).trans ((e_nx f_205_18 rfl).trans ((e_gd f_205_19 rfl).trans (g_congr (Iff.rfl) (fun h5 => (e_nx (q := (_, _, .int 1 :: _, _)) f_205_22 rfl).trans ((e_nx f_205_23 rfl).trans ((e_gk (L := [.ref l0, .int x1]) (st := [.int ((mF p3 l0 30) + 1), .ref l0]) (μ := p3) f_205_24 ((pi_iff rfl).mpr h5) rfl).trans ((e_nx f_205_27 rfl).trans ((e_gV (L := [.ref l0, .int x1]) (st := [.ref l0]) (μ := setF p3 l0 30 ((mF p3 l0 30) + 1)) (L' := [.ref l0, .int x1]) (st' := []) f_205_28 rfl rfl).trans (g_congr (v_c2 rfl (Nat.le_of_ble_eq_true rfl)) (fun h7 => m_congr fun p6 => (e_nx (q := (_, _, .int 1 :: _, _)) f_205_31 rfl).trans (e_rt f_205_32 rfl)))))))))))))))))) (fun h2 => (e_nx f_205_33 rfl).trans ((e_gk f_205_34 (h1) rfl).trans ((e_nx (q := (_, _, .int 1 :: _, _)) f_205_37 rfl).trans ((e_ne f_205_38 rfl).trans (b_congr (fun h8 => (e_nx f_205_41 rfl).trans ((e_gk f_205_42 (h1) rfl).trans ((e_eq f_205_45 rfl).trans (b_congr (fun h9 => rfl) (fun h9 => (e_nx f_205_48 rfl).trans ((e_nx f_205_49 rfl).trans ((e_gk f_205_50 (h1) rfl).trans ((e_cI (L := [.ref l0, .int x1]) (st := [.int (mF μ l0 25), .int x1]) (μ := μ) (L' := [.ref l0, .int x1]) (st' := []) f_205_53 rfl rfl).trans (m_congr fun p10 => (e_eq f_205_56 rfl).trans (b_congr (fun h11 => rfl) (fun h11 => (e_nx f_205_59 rfl).trans ((e_nx (q := (_, _, .int 1 :: _, _)) f_205_60 rfl).trans ((e_nx f_205_61 rfl).trans ((e_gd f_205_62 rfl).trans (g_congr (Iff.rfl) (fun h12 => (e_gV (L := [.ref l0, .int x1]) (st := [.int (mF p10.2 l0 25), .int 1, .ref l0]) (μ := p10.2) (L' := [.ref l0, .int x1]) (st' := []) f_205_65 rfl rfl).trans (g_congr (v_c2 rfl (Nat.le_of_ble_eq_true rfl)) (fun h14 => m_congr fun p13 => (e_nx f_205_68 rfl).trans ((e_nx f_205_69 rfl).trans ((e_gd f_205_70 rfl).trans (g_congr (Iff.rfl) (fun h15 => (e_nx (q := (_, _, .int 1 :: _, _)) f_205_73 rfl).trans ((e_nx f_205_74 rfl).trans ((e_gk (L := [.ref l0, .int x1]) (st := [.int ((mF p13 l0 30) + 1), .ref l0]) (μ := p13) f_205_75 ((pi_iff rfl).mpr h15) rfl).trans ((e_nx f_205_78 rfl).trans ((e_gV (L := [.ref l0, .int x1]) (st := [.ref l0]) (μ := setF p13 l0 30 ((mF p13 l0 30) + 1)) (L' := [.ref l0, .int x1]) (st' := []) f_205_79 rfl rfl).trans (g_congr (v_c2 rfl (Nat.le_of_ble_eq_true rfl)) (fun h17 => m_congr fun p16 => (e_nx (q := (_, _, .int 1 :: _, _)) f_205_82 rfl).trans (e_rt f_205_83 rfl))))))))))))))))))))))))))))) (fun h8 => rfl)))))))))))
theorem q_205_84 (d : Nat) (l0 : Nat) (x1 : Int32) (μ : aMem) : Rn (d + 1) 205 (84, [.ref l0, .int x1], [], μ) = if (mS μ l0).1 = 9 ∧ l0 < 999999 then ((cI d 195 [.ref l0, .int 33] μ).bind fun p1 => if p1.1 = 0 then (Rn (d + 1) 205 (145, [.ref l0, .int x1], [], p1.2)) else (if (mS p1.2 l0).1 = 9 then (if 8 ≤ (mF p1.2 l0 27) then (Rn (d + 1) 205 (145, [.ref l0, .int x1], [], p1.2)) else (if (mS p1.2 l0).1 = 9 ∧ l0 < 999999 then ((cV d 194 [.ref l0] (setF p1.2 l0 27 ((mF p1.2 l0 27) + 1))).bind fun p6 => if (mS p6 l0).1 = 9 ∧ l0 < 999999 then ((cI d 205 [.ref l0, .int x1] p6).bind fun p8 => if p8.1 = 0 then (some (some (.int 0), p8.2)) else (if (mS p8.2 l0).1 = 9 then (if (mS p8.2 l0).1 = 9 ∧ l0 < 999999 then ((cV d 199 [.ref l0, .int 2, .int 33] (setF p8.2 l0 27 ((mF p8.2 l0 27) - 1))).bind fun p12 => some (some (.int 1), p12)) else none) else none)) else none) else none)) else none)) else none :=
  (e_nx f_205_84 rfl).trans ((e_nx (q := (_, _, .int 33 :: _, _)) f_205_85 rfl).trans ((e_gI (L := [.ref l0, .int x1]) (st := [.int 33, .ref l0]) (μ := μ) (L' := [.ref l0, .int x1]) (st' := []) f_205_87 rfl rfl).trans (g_congr (v_c2 rfl (Nat.le_of_ble_eq_true rfl)) (fun h2 => m_congr fun p1 => (e_eq f_205_90 rfl).trans (b_congr (fun h3 => rfl) (fun h3 => (e_nx f_205_93 rfl).trans ((e_gd f_205_94 rfl).trans (g_congr (Iff.rfl) (fun h4 => (e_nx (q := (_, _, .int 8 :: _, _)) f_205_97 rfl).trans ((e_ge f_205_99 rfl).trans (b_congr (fun h5 => rfl) (fun h5 => (e_nx f_205_102 rfl).trans ((e_nx f_205_103 rfl).trans ((e_gk f_205_104 (h4) rfl).trans ((e_nx (q := (_, _, .int 1 :: _, _)) f_205_107 rfl).trans ((e_nx f_205_108 rfl).trans ((e_gk (L := [.ref l0, .int x1]) (st := [.int ((mF p1.2 l0 27) + 1), .ref l0]) (μ := p1.2) f_205_109 ((pi_iff rfl).mpr h4) rfl).trans ((e_nx f_205_112 rfl).trans ((e_gV (L := [.ref l0, .int x1]) (st := [.ref l0]) (μ := setF p1.2 l0 27 ((mF p1.2 l0 27) + 1)) (L' := [.ref l0, .int x1]) (st' := []) f_205_113 rfl rfl).trans (g_congr (v_c2 rfl (Nat.le_of_ble_eq_true rfl)) (fun h7 => m_congr fun p6 => (e_nx f_205_116 rfl).trans ((e_nx f_205_117 rfl).trans ((e_gI (L := [.ref l0, .int x1]) (st := [.int x1, .ref l0]) (μ := p6) (L' := [.ref l0, .int x1]) (st' := []) f_205_118 rfl rfl).trans (g_congr (v_c2 rfl (Nat.le_of_ble_eq_true rfl)) (fun h9 => m_congr fun p8 => (e_ne f_205_121 rfl).trans (b_congr (fun h10 => (e_nx (q := (_, _, .int 0 :: _, _)) f_205_124 rfl).trans (e_rt f_205_125 rfl)) (fun h10 => (e_nx f_205_126 rfl).trans ((e_nx f_205_127 rfl).trans ((e_gd f_205_128 rfl).trans (g_congr (Iff.rfl) (fun h11 => (e_nx (q := (_, _, .int 1 :: _, _)) f_205_131 rfl).trans ((e_nx f_205_132 rfl).trans ((e_gk (L := [.ref l0, .int x1]) (st := [.int ((mF p8.2 l0 27) - 1), .ref l0]) (μ := p8.2) f_205_133 ((pi_iff rfl).mpr h11) rfl).trans ((e_nx f_205_136 rfl).trans ((e_nx (q := (_, _, .int 2 :: _, _)) f_205_137 rfl).trans ((e_nx (q := (_, _, .int 33 :: _, _)) f_205_138 rfl).trans ((e_gV (L := [.ref l0, .int x1]) (st := [.int 33, .int 2, .ref l0]) (μ := setF p8.2 l0 27 ((mF p8.2 l0 27) - 1)) (L' := [.ref l0, .int x1]) (st' := []) f_205_140 rfl rfl).trans (g_congr (v_c2 rfl (Nat.le_of_ble_eq_true rfl)) (fun h13 => m_congr fun p12 => (e_nx (q := (_, _, .int 1 :: _, _)) f_205_143 rfl).trans (e_rt f_205_144 rfl))))))))))))))))))))))))))))))))))))))))
theorem q_205_145 (d : Nat) (l0 : Nat) (x1 : Int32) (μ : aMem) : Rn (d + 1) 205 (145, [.ref l0, .int x1], [], μ) = if (mS μ l0).1 = 9 ∧ l0 < 999999 then ((cI d 195 [.ref l0, .int 40] μ).bind fun p1 => if p1.1 = 0 then (Rn (d + 1) 205 (163, [.ref l0, .int x1], [], p1.2)) else (if (mS p1.2 l0).1 = 9 then (if (mF p1.2 l0 26) = 8 then (Rn (d + 1) 205 (163, [.ref l0, .int x1], [], p1.2)) else (if (mS p1.2 l0).1 = 9 ∧ l0 < 999999 then ((cV d 194 [.ref l0] (setF p1.2 l0 26 ((mF p1.2 l0 26) + 1))).bind fun p6 => if (mS p6 l0).1 = 9 ∧ l0 < 999999 then ((cI d 200 [.ref l0, .int x1] p6).bind fun p8 => if p8.1 = 0 then (Rn (d + 1) 205 (196, [.ref l0, .int x1], [], p8.2)) else (if (mS p8.2 l0).1 = 9 ∧ l0 < 999999 then ((cI d 195 [.ref l0, .int 41] p8.2).bind fun p11 => if p11.1 = 0 then (Rn (d + 1) 205 (196, [.ref l0, .int x1], [], p11.2)) else (if (mS p11.2 l0).1 = 9 then (if (mS p11.2 l0).1 = 9 ∧ l0 < 999999 then ((cV d 194 [.ref l0] (setF p11.2 l0 26 ((mF p11.2 l0 26) - 1))).bind fun p15 => some (some (.int 1), p15)) else none) else none)) else none)) else none) else none)) else none)) else none :=
  (e_nx f_205_145 rfl).trans ((e_nx (q := (_, _, .int 40 :: _, _)) f_205_146 rfl).trans ((e_gI (L := [.ref l0, .int x1]) (st := [.int 40, .ref l0]) (μ := μ) (L' := [.ref l0, .int x1]) (st' := []) f_205_148 rfl rfl).trans (g_congr (v_c2 rfl (Nat.le_of_ble_eq_true rfl)) (fun h2 => m_congr fun p1 => (e_eq f_205_151 rfl).trans (b_congr (fun h3 => rfl) (fun h3 => (e_nx f_205_154 rfl).trans ((e_gd f_205_155 rfl).trans (g_congr (Iff.rfl) (fun h4 => (e_nx (q := (_, _, .int 8 :: _, _)) f_205_158 rfl).trans ((e_ne f_205_160 rfl).trans (b_congr (fun h5 => rfl) (fun h5 => (e_nx f_205_165 rfl).trans ((e_nx f_205_166 rfl).trans ((e_gk f_205_167 (h4) rfl).trans ((e_nx (q := (_, _, .int 1 :: _, _)) f_205_170 rfl).trans ((e_nx f_205_171 rfl).trans ((e_gk (L := [.ref l0, .int x1]) (st := [.int ((mF p1.2 l0 26) + 1), .ref l0]) (μ := p1.2) f_205_172 ((pi_iff rfl).mpr h4) rfl).trans ((e_nx f_205_175 rfl).trans ((e_gV (L := [.ref l0, .int x1]) (st := [.ref l0]) (μ := setF p1.2 l0 26 ((mF p1.2 l0 26) + 1)) (L' := [.ref l0, .int x1]) (st' := []) f_205_176 rfl rfl).trans (g_congr (v_c2 rfl (Nat.le_of_ble_eq_true rfl)) (fun h7 => m_congr fun p6 => (e_nx f_205_179 rfl).trans ((e_nx f_205_180 rfl).trans ((e_gI (L := [.ref l0, .int x1]) (st := [.int x1, .ref l0]) (μ := p6) (L' := [.ref l0, .int x1]) (st' := []) f_205_181 rfl rfl).trans (g_congr (v_c2 rfl (Nat.le_of_ble_eq_true rfl)) (fun h9 => m_congr fun p8 => (e_eq f_205_184 rfl).trans (b_congr (fun h10 => rfl) (fun h10 => (e_nx f_205_187 rfl).trans ((e_nx (q := (_, _, .int 41 :: _, _)) f_205_188 rfl).trans ((e_gI (L := [.ref l0, .int x1]) (st := [.int 41, .ref l0]) (μ := p8.2) (L' := [.ref l0, .int x1]) (st' := []) f_205_190 rfl rfl).trans (g_congr (v_c2 rfl (Nat.le_of_ble_eq_true rfl)) (fun h12 => m_congr fun p11 => (e_ne f_205_193 rfl).trans (b_congr (fun h13 => rfl) (fun h13 => (e_nx f_205_198 rfl).trans ((e_nx f_205_199 rfl).trans ((e_gd f_205_200 rfl).trans (g_congr (Iff.rfl) (fun h14 => (e_nx (q := (_, _, .int 1 :: _, _)) f_205_203 rfl).trans ((e_nx f_205_204 rfl).trans ((e_gk (L := [.ref l0, .int x1]) (st := [.int ((mF p11.2 l0 26) - 1), .ref l0]) (μ := p11.2) f_205_205 ((pi_iff rfl).mpr h14) rfl).trans ((e_nx f_205_208 rfl).trans ((e_gV (L := [.ref l0, .int x1]) (st := [.ref l0]) (μ := setF p11.2 l0 26 ((mF p11.2 l0 26) - 1)) (L' := [.ref l0, .int x1]) (st' := []) f_205_209 rfl rfl).trans (g_congr (v_c2 rfl (Nat.le_of_ble_eq_true rfl)) (fun h16 => m_congr fun p15 => (e_nx (q := (_, _, .int 1 :: _, _)) f_205_212 rfl).trans (e_rt f_205_213 rfl))))))))))))))))))))))))))))))))))))))))))))
theorem q_205_163 (d : Nat) (l0 : Nat) (x1 : Int32) (μ : aMem) : Rn (d + 1) 205 (163, [.ref l0, .int x1], [], μ) = some (some (.int 0), μ) :=
  (e_nx (q := (_, _, .int 0 :: _, _)) f_205_163 rfl).trans (e_rt f_205_164 rfl)
theorem q_205_196 (d : Nat) (l0 : Nat) (x1 : Int32) (μ : aMem) : Rn (d + 1) 205 (196, [.ref l0, .int x1], [], μ) = some (some (.int 0), μ) :=
  (e_nx (q := (_, _, .int 0 :: _, _)) f_205_196 rfl).trans (e_rt f_205_197 rfl)
theorem pg_206 (pc : Nat) : fe0 206 pc = lk prg_206 pc := rfl
theorem f_206_0 : fe0 206 0 = some (.aload_n 0, 1, 0, 0, 0, 0, 0) := (pg_206 0).trans rfl
theorem f_206_1 : fe0 206 1 = some (.iconst 0, 1, 0, 0, 0, 0, 0) := (pg_206 1).trans rfl
theorem f_206_2 : fe0 206 2 = some (.putfield 245, 3, 9, 22, 0, 0, 5046) := (pg_206 2).trans rfl
theorem f_206_5 : fe0 206 5 = some (.aload_n 0, 1, 0, 0, 0, 0, 0) := (pg_206 5).trans rfl
theorem f_206_6 : fe0 206 6 = some (.iconst 3, 1, 0, 0, 0, 0, 0) := (pg_206 6).trans rfl
theorem f_206_7 : fe0 206 7 = some (.putfield 248, 3, 9, 23, 0, 0, 5047) := (pg_206 7).trans rfl
theorem f_206_10 : fe0 206 10 = some (.aload_n 0, 1, 0, 0, 0, 0, 0) := (pg_206 10).trans rfl
theorem f_206_11 : fe0 206 11 = some (.iconst 0, 1, 0, 0, 0, 0, 0) := (pg_206 11).trans rfl
theorem f_206_12 : fe0 206 12 = some (.putfield 310, 3, 9, 26, 0, 0, 5050) := (pg_206 12).trans rfl
theorem f_206_15 : fe0 206 15 = some (.aload_n 0, 1, 0, 0, 0, 0, 0) := (pg_206 15).trans rfl
theorem f_206_16 : fe0 206 16 = some (.iconst 0, 1, 0, 0, 0, 0, 0) := (pg_206 16).trans rfl
theorem f_206_17 : fe0 206 17 = some (.putfield 307, 3, 9, 27, 0, 0, 5051) := (pg_206 17).trans rfl
theorem f_206_20 : fe0 206 20 = some (.aload_n 0, 1, 0, 0, 0, 0, 0) := (pg_206 20).trans rfl
theorem f_206_21 : fe0 206 21 = some (.iconst 0, 1, 0, 0, 0, 0, 0) := (pg_206 21).trans rfl
theorem f_206_22 : fe0 206 22 = some (.putfield 273, 3, 9, 28, 0, 0, 5052) := (pg_206 22).trans rfl
theorem f_206_25 : fe0 206 25 = some (.aload_n 0, 1, 0, 0, 0, 0, 0) := (pg_206 25).trans rfl
theorem f_206_26 : fe0 206 26 = some (.iconst 0, 1, 0, 0, 0, 0, 0) := (pg_206 26).trans rfl
theorem f_206_27 : fe0 206 27 = some (.putfield 301, 3, 9, 30, 0, 0, 5054) := (pg_206 27).trans rfl
theorem f_206_30 : fe0 206 30 = some (.aload_n 0, 1, 0, 0, 0, 0, 0) := (pg_206 30).trans rfl
theorem f_206_31 : fe0 206 31 = some (.aload_n 0, 1, 0, 0, 0, 0, 0) := (pg_206 31).trans rfl
theorem f_206_32 : fe0 206 32 = some (.getfield 7, 3, 9, 0, 1, 0, 5024) := (pg_206 32).trans rfl
theorem f_206_35 : fe0 206 35 = some (.iconst 2, 1, 0, 0, 0, 0, 0) := (pg_206 35).trans rfl
theorem f_206_36 : fe0 206 36 = some (.iaload, 1, 0, 0, 0, 0, 0) := (pg_206 36).trans rfl
theorem f_206_37 : fe0 206 37 = some (.bipush 14, 2, 0, 0, 0, 0, 0) := (pg_206 37).trans rfl
theorem f_206_39 : fe0 206 39 = some (.if_icmp .ge 18, 3, 0, 0, 0, 0, 0) := (pg_206 39).trans rfl
theorem f_206_42 : fe0 206 42 = some (.aload_n 0, 1, 0, 0, 0, 0, 0) := (pg_206 42).trans rfl
theorem f_206_43 : fe0 206 43 = some (.aload_n 0, 1, 0, 0, 0, 0, 0) := (pg_206 43).trans rfl
theorem f_206_44 : fe0 206 44 = some (.getfield 7, 3, 9, 0, 1, 0, 5024) := (pg_206 44).trans rfl
theorem f_206_47 : fe0 206 47 = some (.iconst 2, 1, 0, 0, 0, 0, 0) := (pg_206 47).trans rfl
theorem f_206_48 : fe0 206 48 = some (.iaload, 1, 0, 0, 0, 0, 0) := (pg_206 48).trans rfl
theorem f_206_49 : fe0 206 49 = some (.invokevirtual 316, 3, 138, 1, 0, 9, 5178) := (pg_206 49).trans rfl
theorem f_206_52 : fe0 206 52 = some (.iconst 4, 1, 0, 0, 0, 0, 0) := (pg_206 52).trans rfl
theorem f_206_53 : fe0 206 53 = some (.iadd, 1, 0, 0, 0, 0, 0) := (pg_206 53).trans rfl
theorem f_206_54 : fe0 206 54 = some (.goto 6, 3, 0, 0, 0, 0, 0) := (pg_206 54).trans rfl
theorem f_206_57 : fe0 206 57 = some (.sipush 2914, 3, 0, 0, 0, 0, 0) := (pg_206 57).trans rfl
theorem f_206_60 : fe0 206 60 = some (.putfield 270, 3, 9, 29, 0, 0, 5053) := (pg_206 60).trans rfl
theorem f_206_63 : fe0 206 63 = some (.aload_n 0, 1, 0, 0, 0, 0, 0) := (pg_206 63).trans rfl
theorem f_206_64 : fe0 206 64 = some (.invokevirtual 282, 3, 194, 0, 0, 9, 6155) := (pg_206 64).trans rfl
theorem f_206_67 : fe0 206 67 = some (.aload_n 0, 1, 0, 0, 0, 0, 0) := (pg_206 67).trans rfl
theorem f_206_68 : fe0 206 68 = some (.invokevirtual 319, 3, 197, 0, 0, 9, 6171) := (pg_206 68).trans rfl
theorem f_206_71 : fe0 206 71 = some (.istore_n 1, 1, 0, 0, 0, 0, 0) := (pg_206 71).trans rfl
theorem f_206_72 : fe0 206 72 = some (.iload_n 1, 1, 0, 0, 0, 0, 0) := (pg_206 72).trans rfl
theorem f_206_73 : fe0 206 73 = some (.ifCond .lt 7, 3, 0, 0, 0, 0, 0) := (pg_206 73).trans rfl
theorem f_206_76 : fe0 206 76 = some (.iconst 1, 1, 0, 0, 0, 0, 0) := (pg_206 76).trans rfl
theorem f_206_77 : fe0 206 77 = some (.goto 4, 3, 0, 0, 0, 0, 0) := (pg_206 77).trans rfl
theorem f_206_80 : fe0 206 80 = some (.iconst 0, 1, 0, 0, 0, 0, 0) := (pg_206 80).trans rfl
theorem f_206_81 : fe0 206 81 = some (.istore_n 2, 1, 0, 0, 0, 0, 0) := (pg_206 81).trans rfl
theorem f_206_82 : fe0 206 82 = some (.iload_n 2, 1, 0, 0, 0, 0, 0) := (pg_206 82).trans rfl
theorem f_206_83 : fe0 206 83 = some (.ifCond .eq 28, 3, 0, 0, 0, 0, 0) := (pg_206 83).trans rfl
theorem f_206_86 : fe0 206 86 = some (.aload_n 0, 1, 0, 0, 0, 0, 0) := (pg_206 86).trans rfl
theorem f_206_87 : fe0 206 87 = some (.invokevirtual 282, 3, 194, 0, 0, 9, 6155) := (pg_206 87).trans rfl
theorem f_206_90 : fe0 206 90 = some (.aload_n 0, 1, 0, 0, 0, 0, 0) := (pg_206 90).trans rfl
theorem f_206_91 : fe0 206 91 = some (.iload_n 1, 1, 0, 0, 0, 0, 0) := (pg_206 91).trans rfl
theorem f_206_92 : fe0 206 92 = some (.invokevirtual 313, 3, 200, 1, 0, 9, 6179) := (pg_206 92).trans rfl
theorem f_206_95 : fe0 206 95 = some (.ifCond .eq 14, 3, 0, 0, 0, 0, 0) := (pg_206 95).trans rfl
theorem f_206_98 : fe0 206 98 = some (.aload_n 0, 1, 0, 0, 0, 0, 0) := (pg_206 98).trans rfl
theorem f_206_99 : fe0 206 99 = some (.getfield 248, 3, 9, 23, 0, 0, 5047) := (pg_206 99).trans rfl
theorem f_206_102 : fe0 206 102 = some (.ifCond .ne 7, 3, 0, 0, 0, 0, 0) := (pg_206 102).trans rfl
theorem f_206_105 : fe0 206 105 = some (.iconst 1, 1, 0, 0, 0, 0, 0) := (pg_206 105).trans rfl
theorem f_206_106 : fe0 206 106 = some (.goto 4, 3, 0, 0, 0, 0, 0) := (pg_206 106).trans rfl
theorem f_206_109 : fe0 206 109 = some (.iconst 0, 1, 0, 0, 0, 0, 0) := (pg_206 109).trans rfl
theorem f_206_110 : fe0 206 110 = some (.istore_n 2, 1, 0, 0, 0, 0, 0) := (pg_206 110).trans rfl
theorem f_206_111 : fe0 206 111 = some (.aload_n 0, 1, 0, 0, 0, 0, 0) := (pg_206 111).trans rfl
theorem f_206_112 : fe0 206 112 = some (.iconst 0, 1, 0, 0, 0, 0, 0) := (pg_206 112).trans rfl
theorem f_206_113 : fe0 206 113 = some (.putfield 234, 3, 9, 20, 0, 0, 5044) := (pg_206 113).trans rfl
theorem f_206_116 : fe0 206 116 = some (.iload_n 2, 1, 0, 0, 0, 0, 0) := (pg_206 116).trans rfl
theorem f_206_117 : fe0 206 117 = some (.ifCond .eq 7, 3, 0, 0, 0, 0, 0) := (pg_206 117).trans rfl
theorem f_206_120 : fe0 206 120 = some (.iload_n 1, 1, 0, 0, 0, 0, 0) := (pg_206 120).trans rfl
theorem f_206_121 : fe0 206 121 = some (.goto 4, 3, 0, 0, 0, 0, 0) := (pg_206 121).trans rfl
theorem f_206_124 : fe0 206 124 = some (.iconst (-1), 1, 0, 0, 0, 0, 0) := (pg_206 124).trans rfl
theorem f_206_125 : fe0 206 125 = some (.ireturn, 1, 0, 0, 0, 0, 0) := (pg_206 125).trans rfl
theorem q_206_0 (d : Nat) (l0 : Nat) (μ : aMem) : Rn (d + 1) 206 (0, [.ref l0, un, un], [], μ) = if (mS μ l0).1 = 9 then ((rdI (setF (setF (setF (setF (setF (setF μ l0 22 0) l0 23 3) l0 26 0) l0 27 0) l0 28 0) l0 30 0) (mR μ l0 0) 2).bind fun v2 => if 14 ≤ v2 then (if (mS μ l0).1 = 9 ∧ l0 < 999999 then ((cV d 194 [.ref l0] (setF (setF (setF (setF (setF (setF (setF μ l0 22 0) l0 23 3) l0 26 0) l0 27 0) l0 28 0) l0 30 0) l0 29 2914)).bind fun p4 => if (mS p4 l0).1 = 9 ∧ l0 < 999999 then ((cI d 197 [.ref l0] p4).bind fun p6 => if p6.1 < 0 then (if (0 : Int32) = 0 then (if (mS p6.2 l0).1 = 9 then (some (some (.int (-1)), setF p6.2 l0 20 0)) else none) else (if (mS p6.2 l0).1 = 9 ∧ l0 < 999999 then ((cV d 194 [.ref l0] p6.2).bind fun p12 => if (mS p12 l0).1 = 9 ∧ l0 < 999999 then ((cI d 200 [.ref l0, .int p6.1] p12).bind fun p14 => if p14.1 = 0 then (if (mS p14.2 l0).1 = 9 then (some (some (.int p6.1), setF p14.2 l0 20 0)) else none) else (if (mS p14.2 l0).1 = 9 then (if (mF p14.2 l0 23) = 0 then (if (1 : Int32) = 0 then (some (some (.int (-1)), setF p14.2 l0 20 0)) else (some (some (.int p6.1), setF p14.2 l0 20 0))) else (some (some (.int p6.1), setF p14.2 l0 20 0))) else none)) else none) else none)) else (if (1 : Int32) = 0 then (if (mS p6.2 l0).1 = 9 then (some (some (.int (-1)), setF p6.2 l0 20 0)) else none) else (if (mS p6.2 l0).1 = 9 ∧ l0 < 999999 then ((cV d 194 [.ref l0] p6.2).bind fun p26 => if (mS p26 l0).1 = 9 ∧ l0 < 999999 then ((cI d 200 [.ref l0, .int p6.1] p26).bind fun p28 => if p28.1 = 0 then (if (mS p28.2 l0).1 = 9 then (if (0 : Int32) = 0 then (some (some (.int (-1)), setF p28.2 l0 20 0)) else (some (some (.int p6.1), setF p28.2 l0 20 0))) else none) else (if (mS p28.2 l0).1 = 9 then (if (mF p28.2 l0 23) = 0 then (some (some (.int p6.1), setF p28.2 l0 20 0)) else (if (0 : Int32) = 0 then (some (some (.int (-1)), setF p28.2 l0 20 0)) else (some (some (.int p6.1), setF p28.2 l0 20 0)))) else none)) else none) else none))) else none) else none) else ((rdI (setF (setF (setF (setF (setF (setF μ l0 22 0) l0 23 3) l0 26 0) l0 27 0) l0 28 0) l0 30 0) (mR μ l0 0) 2).bind fun v37 => if (mS μ l0).1 = 9 ∧ l0 < 999999 then ((cI d 138 [.ref l0, .int v37] (setF (setF (setF (setF (setF (setF μ l0 22 0) l0 23 3) l0 26 0) l0 27 0) l0 28 0) l0 30 0)).bind fun p38 => if (mS p38.2 l0).1 = 9 then (if (mS p38.2 l0).1 = 9 ∧ l0 < 999999 then ((cV d 194 [.ref l0] (setF p38.2 l0 29 (p38.1 + 4))).bind fun p41 => if (mS p41 l0).1 = 9 ∧ l0 < 999999 then ((cI d 197 [.ref l0] p41).bind fun p43 => if p43.1 < 0 then (if (0 : Int32) = 0 then (if (mS p43.2 l0).1 = 9 then (some (some (.int (-1)), setF p43.2 l0 20 0)) else none) else (if (mS p43.2 l0).1 = 9 ∧ l0 < 999999 then ((cV d 194 [.ref l0] p43.2).bind fun p49 => if (mS p49 l0).1 = 9 ∧ l0 < 999999 then ((cI d 200 [.ref l0, .int p43.1] p49).bind fun p51 => if p51.1 = 0 then (if (mS p51.2 l0).1 = 9 then (some (some (.int p43.1), setF p51.2 l0 20 0)) else none) else (if (mS p51.2 l0).1 = 9 then (if (mF p51.2 l0 23) = 0 then (if (1 : Int32) = 0 then (some (some (.int (-1)), setF p51.2 l0 20 0)) else (some (some (.int p43.1), setF p51.2 l0 20 0))) else (some (some (.int p43.1), setF p51.2 l0 20 0))) else none)) else none) else none)) else (if (1 : Int32) = 0 then (if (mS p43.2 l0).1 = 9 then (some (some (.int (-1)), setF p43.2 l0 20 0)) else none) else (if (mS p43.2 l0).1 = 9 ∧ l0 < 999999 then ((cV d 194 [.ref l0] p43.2).bind fun p63 => if (mS p63 l0).1 = 9 ∧ l0 < 999999 then ((cI d 200 [.ref l0, .int p43.1] p63).bind fun p65 => if p65.1 = 0 then (if (mS p65.2 l0).1 = 9 then (if (0 : Int32) = 0 then (some (some (.int (-1)), setF p65.2 l0 20 0)) else (some (some (.int p43.1), setF p65.2 l0 20 0))) else none) else (if (mS p65.2 l0).1 = 9 then (if (mF p65.2 l0 23) = 0 then (some (some (.int p43.1), setF p65.2 l0 20 0)) else (if (0 : Int32) = 0 then (some (some (.int (-1)), setF p65.2 l0 20 0)) else (some (some (.int p43.1), setF p65.2 l0 20 0)))) else none)) else none) else none))) else none) else none) else none) else none)) else none :=
  (e_nx f_206_0 rfl).trans ((e_nx (q := (_, _, .int 0 :: _, _)) f_206_1 rfl).trans ((e_gd (L := [.ref l0, un, un]) (st := [.int 0, .ref l0]) (μ := μ) f_206_2 rfl).trans (g_congr (pi_iff rfl) (fun h1 => (e_nx f_206_5 rfl).trans ((e_nx (q := (_, _, .int 3 :: _, _)) f_206_6 rfl).trans ((e_gk (L := [.ref l0, un, un]) (st := [.int 3, .ref l0]) (μ := setF μ l0 22 0) f_206_7 ((pi_iff rfl).mpr h1) rfl).trans ((e_nx f_206_10 rfl).trans ((e_nx (q := (_, _, .int 0 :: _, _)) f_206_11 rfl).trans ((e_gk (L := [.ref l0, un, un]) (st := [.int 0, .ref l0]) (μ := setF (setF μ l0 22 0) l0 23 3) f_206_12 ((pi_iff rfl).mpr h1) rfl).trans ((e_nx f_206_15 rfl).trans ((e_nx (q := (_, _, .int 0 :: _, _)) f_206_16 rfl).trans ((e_gk (L := [.ref l0, un, un]) (st := [.int 0, .ref l0]) (μ := setF (setF (setF μ l0 22 0) l0 23 3) l0 26 0) f_206_17 ((pi_iff rfl).mpr h1) rfl).trans ((e_nx f_206_20 rfl).trans ((e_nx (q := (_, _, .int 0 :: _, _)) f_206_21 rfl).trans ((e_gk (L := [.ref l0, un, un]) (st := [.int 0, .ref l0]) (μ := setF (setF (setF (setF μ l0 22 0) l0 23 3) l0 26 0) l0 27 0) f_206_22 ((pi_iff rfl).mpr h1) rfl).trans ((e_nx f_206_25 rfl).trans ((e_nx (q := (_, _, .int 0 :: _, _)) f_206_26 rfl).trans ((e_gk (L := [.ref l0, un, un]) (st := [.int 0, .ref l0]) (μ := setF (setF (setF (setF (setF μ l0 22 0) l0 23 3) l0 26 0) l0 27 0) l0 28 0) f_206_27 ((pi_iff rfl).mpr h1) rfl).trans ((e_nx f_206_30 rfl).trans ((e_nx f_206_31 rfl).trans ((e_gk f_206_32 (h1) rfl).trans ((e_nx (q := (_, _, .int 2 :: _, _)) f_206_35 rfl).trans ((e_ia (L := [.ref l0, un, un]) (r := [.ref l0]) (μ := setF (setF (setF (setF (setF (setF μ l0 22 0) l0 23 3) l0 26 0) l0 27 0) l0 28 0) l0 30 0) f_206_36).trans (m_congr fun v2 => (e_nx (q := (_, _, .int 14 :: _, _)) f_206_37 rfl).trans ((e_ge f_206_39 rfl).trans (b_congr (fun h3 => (e_nx (q := (_, _, .int 2914 :: _, _)) f_206_57 rfl).trans ((e_gk (L := [.ref l0, un, un]) (st := [.int 2914, .ref l0]) (μ := setF (setF (setF (setF (setF (setF μ l0 22 0) l0 23 3) l0 26 0) l0 27 0) l0 28 0) l0 30 0) f_206_60 ((pi_iff rfl).mpr h1) rfl).trans ((e_nx f_206_63 rfl).trans ((e_gV (L := [.ref l0, un, un]) (st := [.ref l0]) (μ := setF (setF (setF (setF (setF (setF (setF μ l0 22 0) l0 23 3) l0 26 0) l0 27 0) l0 28 0) l0 30 0) l0 29 2914) (L' := [.ref l0, un, un]) (st' := []) f_206_64 rfl rfl).trans (g_congr (v_c2 rfl (Nat.le_of_ble_eq_true rfl)) (fun h5 => m_congr fun p4 => (e_nx f_206_67 rfl).trans ((e_gI (L := [.ref l0, un, un]) (st := [.ref l0]) (μ := p4) (L' := [.ref l0, un, un]) (st' := []) f_206_68 rfl rfl).trans (g_congr (v_c2 rfl (Nat.le_of_ble_eq_true rfl)) (fun h7 => m_congr fun p6 => (e_nx (q := (_, [.ref l0, .int p6.1, un], _, _)) f_206_71 rfl).trans ((e_nx f_206_72 rfl).trans ((e_lt f_206_73 rfl).trans (b_congr (fun h8 => (e_nx (q := (_, _, .int 0 :: _, _)) f_206_80 rfl).trans ((e_nx (q := (_, [.ref l0, .int p6.1, .int 0], _, _)) f_206_81 rfl).trans ((e_nx f_206_82 rfl).trans ((e_eq f_206_83 rfl).trans (b_congr (fun h9 => (e_nx f_206_111 rfl).trans ((e_nx (q := (_, _, .int 0 :: _, _)) f_206_112 rfl).trans ((e_gd (L := [.ref l0, .int p6.1, .int 0]) (st := [.int 0, .ref l0]) (μ := p6.2) f_206_113 rfl).trans (g_congr (pi_iff rfl) (fun h10 => (e_nx f_206_116 rfl).trans (((e_eq f_206_117 rfl).trans (if_pos h9)).trans ((e_nx (q := (_, _, .int (-1) :: _, _)) f_206_124 rfl).trans (e_rt f_206_125 rfl)))))))) (fun h9 => (e_nx f_206_86 rfl).trans ((e_gV (L := [.ref l0, .int p6.1, .int 0]) (st := [.ref l0]) (μ := p6.2) (L' := [.ref l0, .int p6.1, .int 0]) (st' := []) f_206_87 rfl rfl).trans (g_congr (v_c2 rfl (Nat.le_of_ble_eq_true rfl)) (fun h13 => m_congr fun p12 => (e_nx f_206_90 rfl).trans ((e_nx f_206_91 rfl).trans ((e_gI (L := [.ref l0, .int p6.1, .int 0]) (st := [.int p6.1, .ref l0]) (μ := p12) (L' := [.ref l0, .int p6.1, .int 0]) (st' := []) f_206_92 rfl rfl).trans (g_congr (v_c2 rfl (Nat.le_of_ble_eq_true rfl)) (fun h15 => m_congr fun p14 => (e_eq f_206_95 rfl).trans (b_congr (fun h16 => (e_nx (q := (_, _, .int 0 :: _, _)) f_206_109 rfl).trans ((e_nx (q := (_, [.ref l0, .int p6.1, .int 0], _, _)) f_206_110 rfl).trans ((e_nx f_206_111 rfl).trans ((e_nx (q := (_, _, .int 0 :: _, _)) f_206_112 rfl).trans ((e_gd (L := [.ref l0, .int p6.1, .int 0]) (st := [.int 0, .ref l0]) (μ := p14.2) f_206_113 rfl).trans (g_congr (pi_iff rfl) (fun h17 => (e_nx f_206_116 rfl).trans (((e_eq f_206_117 rfl).trans (if_neg h9)).trans ((e_nx f_206_120 rfl).trans ((e_nx f_206_121 rfl).trans (e_rt f_206_125 rfl))))))))))) (fun h16 => (e_nx f_206_98 rfl).trans ((e_gd f_206_99 rfl).trans (g_congr (Iff.rfl) (fun h19 => (e_ne f_206_102 rfl).trans (b_congr (fun h20 => (e_nx (q := (_, _, .int 1 :: _, _)) f_206_105 rfl).trans ((e_nx f_206_106 rfl).trans ((e_nx (q := (_, [.ref l0, .int p6.1, .int 1], _, _)) f_206_110 rfl).trans ((e_nx f_206_111 rfl).trans ((e_nx (q := (_, _, .int 0 :: _, _)) f_206_112 rfl).trans ((e_gk (L := [.ref l0, .int p6.1, .int 1]) (st := [.int 0, .ref l0]) (μ := p14.2) f_206_113 ((pi_iff rfl).mpr h19) rfl).trans ((e_nx f_206_116 rfl).trans ((e_eq f_206_117 rfl).trans (b_congr (fun h21 => (e_nx (q := (_, _, .int (-1) :: _, _)) f_206_124 rfl).trans (e_rt f_206_125 rfl)) (fun h21 => (e_nx f_206_120 rfl).trans ((e_nx f_206_121 rfl).trans (e_rt f_206_125 rfl)))))))))))) (fun h20 => (e_nx (q := (_, _, .int 0 :: _, _)) f_206_109 rfl).trans ((e_nx (q := (_, [.ref l0, .int p6.1, .int 0], _, _)) f_206_110 rfl).trans ((e_nx f_206_111 rfl).trans ((e_nx (q := (_, _, .int 0 :: _, _)) f_206_112 rfl).trans ((e_gk (L := [.ref l0, .int p6.1, .int 0]) (st := [.int 0, .ref l0]) (μ := p14.2) f_206_113 ((pi_iff rfl).mpr h19) rfl).trans ((e_nx f_206_116 rfl).trans (((e_eq f_206_117 rfl).trans (if_neg h9)).trans ((e_nx f_206_120 rfl).trans ((e_nx f_206_121 rfl).trans (e_rt f_206_125 rfl))))))))))))))))))))))))))))) (fun h8 => (e_nx (q := (_, _, .int 1 :: _, _)) f_206_76 rfl).trans ((e_nx f_206_77 rfl).trans ((e_nx (q := (_, [.ref l0, .int p6.1, .int 1], _, _)) f_206_81 rfl).trans ((e_nx f_206_82 rfl).trans ((e_eq f_206_83 rfl).trans (b_congr (fun h23 => (e_nx f_206_111 rfl).trans ((e_nx (q := (_, _, .int 0 :: _, _)) f_206_112 rfl).trans ((e_gd (L := [.ref l0, .int p6.1, .int 1]) (st := [.int 0, .ref l0]) (μ := p6.2) f_206_113 rfl).trans (g_congr (pi_iff rfl) (fun h24 => (e_nx f_206_116 rfl).trans (((e_eq f_206_117 rfl).trans (if_pos h23)).trans ((e_nx (q := (_, _, .int (-1) :: _, _)) f_206_124 rfl).trans (e_rt f_206_125 rfl)))))))) (fun h23 => (e_nx f_206_86 rfl).trans ((e_gV (L := [.ref l0, .int p6.1, .int 1]) (st := [.ref l0]) (μ := p6.2) (L' := [.ref l0, .int p6.1, .int 1]) (st' := []) f_206_87 rfl rfl).trans (g_congr (v_c2 rfl (Nat.le_of_ble_eq_true rfl)) (fun h27 => m_congr fun p26 => (e_nx f_206_90 rfl).trans ((e_nx f_206_91 rfl).trans ((e_gI (L := [.ref l0, .int p6.1, .int 1]) (st := [.int p6.1, .ref l0]) (μ := p26) (L' := [.ref l0, .int p6.1, .int 1]) (st' := []) f_206_92 rfl rfl).trans (g_congr (v_c2 rfl (Nat.le_of_ble_eq_true rfl)) (fun h29 => m_congr fun p28 => (e_eq f_206_95 rfl).trans (b_congr (fun h30 => (e_nx (q := (_, _, .int 0 :: _, _)) f_206_109 rfl).trans ((e_nx (q := (_, [.ref l0, .int p6.1, .int 0], _, _)) f_206_110 rfl).trans ((e_nx f_206_111 rfl).trans ((e_nx (q := (_, _, .int 0 :: _, _)) f_206_112 rfl).trans ((e_gd (L := [.ref l0, .int p6.1, .int 0]) (st := [.int 0, .ref l0]) (μ := p28.2) f_206_113 rfl).trans (g_congr (pi_iff rfl) (fun h31 => (e_nx f_206_116 rfl).trans ((e_eq f_206_117 rfl).trans (b_congr (fun h32 => (e_nx (q := (_, _, .int (-1) :: _, _)) f_206_124 rfl).trans (e_rt f_206_125 rfl)) (fun h32 => (e_nx f_206_120 rfl).trans ((e_nx f_206_121 rfl).trans (e_rt f_206_125 rfl)))))))))))) (fun h30 => (e_nx f_206_98 rfl).trans ((e_gd f_206_99 rfl).trans (g_congr (Iff.rfl) (fun h33 => (e_ne f_206_102 rfl).trans (b_congr (fun h34 => (e_nx (q := (_, _, .int 1 :: _, _)) f_206_105 rfl).trans ((e_nx f_206_106 rfl).trans ((e_nx (q := (_, [.ref l0, .int p6.1, .int 1], _, _)) f_206_110 rfl).trans ((e_nx f_206_111 rfl).trans ((e_nx (q := (_, _, .int 0 :: _, _)) f_206_112 rfl).trans ((e_gk (L := [.ref l0, .int p6.1, .int 1]) (st := [.int 0, .ref l0]) (μ := p28.2) f_206_113 ((pi_iff rfl).mpr h33) rfl).trans ((e_nx f_206_116 rfl).trans (((e_eq f_206_117 rfl).trans (if_neg h23)).trans ((e_nx f_206_120 rfl).trans ((e_nx f_206_121 rfl).trans (e_rt f_206_125 rfl))))))))))) (fun h34 => (e_nx (q := (_, _, .int 0 :: _, _)) f_206_109 rfl).trans ((e_nx (q := (_, [.ref l0, .int p6.1, .int 0], _, _)) f_206_110 rfl).trans ((e_nx f_206_111 rfl).trans ((e_nx (q := (_, _, .int 0 :: _, _)) f_206_112 rfl).trans ((e_gk (L := [.ref l0, .int p6.1, .int 0]) (st := [.int 0, .ref l0]) (μ := p28.2) f_206_113 ((pi_iff rfl).mpr h33) rfl).trans ((e_nx f_206_116 rfl).trans ((e_eq f_206_117 rfl).trans (b_congr (fun h36 => (e_nx (q := (_, _, .int (-1) :: _, _)) f_206_124 rfl).trans (e_rt f_206_125 rfl)) (fun h36 => (e_nx f_206_120 rfl).trans ((e_nx f_206_121 rfl).trans (e_rt f_206_125 rfl))))))))))))))))))))))))))))))))))))))))))) (fun h3 => (e_nx f_206_42 rfl).trans ((e_nx f_206_43 rfl).trans ((e_gk f_206_44 (h1) rfl).trans ((e_nx (q := (_, _, .int 2 :: _, _)) f_206_47 rfl).trans ((e_ia (L := [.ref l0, un, un]) (r := [.ref l0, .ref l0]) (μ := setF (setF (setF (setF (setF (setF μ l0 22 0) l0 23 3) l0 26 0) l0 27 0) l0 28 0) l0 30 0) f_206_48).trans (m_congr fun v37 => (e_gI (L := [.ref l0, un, un]) (st := [.int v37, .ref l0, .ref l0]) (μ := setF (setF (setF (setF (setF (setF μ l0 22 0) l0 23 3) l0 26 0) l0 27 0) l0 28 0) l0 30 0) (L' := [.ref l0, un, un]) (st' := [.ref l0]) f_206_49 rfl rfl).trans (g_congr (v_c2 rfl (Nat.le_of_ble_eq_true rfl)) (fun h39 => m_congr fun p38 => (e_nx (q := (_, _, .int 4 :: _, _)) f_206_52 rfl).trans ((e_nx f_206_53 rfl).trans ((e_nx f_206_54 rfl).trans ((e_gd (L := [.ref l0, un, un]) (st := [.int (p38.1 + 4), .ref l0]) (μ := p38.2) f_206_60 rfl).trans (g_congr (pi_iff rfl) (fun h40 => (e_nx f_206_63 rfl).trans ((e_gV (L := [.ref l0, un, un]) (st := [.ref l0]) (μ := setF p38.2 l0 29 (p38.1 + 4)) (L' := [.ref l0, un, un]) (st' := []) f_206_64 rfl rfl).trans (g_congr (v_c2 rfl (Nat.le_of_ble_eq_true rfl)) (fun h42 => m_congr fun p41 => (e_nx f_206_67 rfl).trans ((e_gI (L := [.ref l0, un, un]) (st := [.ref l0]) (μ := p41) (L' := [.ref l0, un, un]) (st' := []) f_206_68 rfl rfl).trans (g_congr (v_c2 rfl (Nat.le_of_ble_eq_true rfl)) (fun h44 => m_congr fun p43 => (e_nx (q := (_, [.ref l0, .int p43.1, un], _, _)) f_206_71 rfl).trans ((e_nx f_206_72 rfl).trans ((e_lt f_206_73 rfl).trans (b_congr (fun h45 => (e_nx (q := (_, _, .int 0 :: _, _)) f_206_80 rfl).trans ((e_nx (q := (_, [.ref l0, .int p43.1, .int 0], _, _)) f_206_81 rfl).trans ((e_nx f_206_82 rfl).trans ((e_eq f_206_83 rfl).trans (b_congr (fun h46 => (e_nx f_206_111 rfl).trans ((e_nx (q := (_, _, .int 0 :: _, _)) f_206_112 rfl).trans ((e_gd (L := [.ref l0, .int p43.1, .int 0]) (st := [.int 0, .ref l0]) (μ := p43.2) f_206_113 rfl).trans (g_congr (pi_iff rfl) (fun h47 => (e_nx f_206_116 rfl).trans (((e_eq f_206_117 rfl).trans (if_pos h46)).trans ((e_nx (q := (_, _, .int (-1) :: _, _)) f_206_124 rfl).trans (e_rt f_206_125 rfl)))))))) (fun h46 => (e_nx f_206_86 rfl).trans ((e_gV (L := [.ref l0, .int p43.1, .int 0]) (st := [.ref l0]) (μ := p43.2) (L' := [.ref l0, .int p43.1, .int 0]) (st' := []) f_206_87 rfl rfl).trans (g_congr (v_c2 rfl (Nat.le_of_ble_eq_true rfl)) (fun h50 => m_congr fun p49 => (e_nx f_206_90 rfl).trans ((e_nx f_206_91 rfl).trans ((e_gI (L := [.ref l0, .int p43.1, .int 0]) (st := [.int p43.1, .ref l0]) (μ := p49) (L' := [.ref l0, .int p43.1, .int 0]) (st' := []) f_206_92 rfl rfl).trans (g_congr (v_c2 rfl (Nat.le_of_ble_eq_true rfl)) (fun h52 => m_congr fun p51 => (e_eq f_206_95 rfl).trans (b_congr (fun h53 => (e_nx (q := (_, _, .int 0 :: _, _)) f_206_109 rfl).trans ((e_nx (q := (_, [.ref l0, .int p43.1, .int 0], _, _)) f_206_110 rfl).trans ((e_nx f_206_111 rfl).trans ((e_nx (q := (_, _, .int 0 :: _, _)) f_206_112 rfl).trans ((e_gd (L := [.ref l0, .int p43.1, .int 0]) (st := [.int 0, .ref l0]) (μ := p51.2) f_206_113 rfl).trans (g_congr (pi_iff rfl) (fun h54 => (e_nx f_206_116 rfl).trans (((e_eq f_206_117 rfl).trans (if_neg h46)).trans ((e_nx f_206_120 rfl).trans ((e_nx f_206_121 rfl).trans (e_rt f_206_125 rfl))))))))))) (fun h53 => (e_nx f_206_98 rfl).trans ((e_gd f_206_99 rfl).trans (g_congr (Iff.rfl) (fun h56 => (e_ne f_206_102 rfl).trans (b_congr (fun h57 => (e_nx (q := (_, _, .int 1 :: _, _)) f_206_105 rfl).trans ((e_nx f_206_106 rfl).trans ((e_nx (q := (_, [.ref l0, .int p43.1, .int 1], _, _)) f_206_110 rfl).trans ((e_nx f_206_111 rfl).trans ((e_nx (q := (_, _, .int 0 :: _, _)) f_206_112 rfl).trans ((e_gk (L := [.ref l0, .int p43.1, .int 1]) (st := [.int 0, .ref l0]) (μ := p51.2) f_206_113 ((pi_iff rfl).mpr h56) rfl).trans ((e_nx f_206_116 rfl).trans ((e_eq f_206_117 rfl).trans (b_congr (fun h58 => (e_nx (q := (_, _, .int (-1) :: _, _)) f_206_124 rfl).trans (e_rt f_206_125 rfl)) (fun h58 => (e_nx f_206_120 rfl).trans ((e_nx f_206_121 rfl).trans (e_rt f_206_125 rfl)))))))))))) (fun h57 => (e_nx (q := (_, _, .int 0 :: _, _)) f_206_109 rfl).trans ((e_nx (q := (_, [.ref l0, .int p43.1, .int 0], _, _)) f_206_110 rfl).trans ((e_nx f_206_111 rfl).trans ((e_nx (q := (_, _, .int 0 :: _, _)) f_206_112 rfl).trans ((e_gk (L := [.ref l0, .int p43.1, .int 0]) (st := [.int 0, .ref l0]) (μ := p51.2) f_206_113 ((pi_iff rfl).mpr h56) rfl).trans ((e_nx f_206_116 rfl).trans (((e_eq f_206_117 rfl).trans (if_neg h46)).trans ((e_nx f_206_120 rfl).trans ((e_nx f_206_121 rfl).trans (e_rt f_206_125 rfl))))))))))))))))))))))))))))) (fun h45 => (e_nx (q := (_, _, .int 1 :: _, _)) f_206_76 rfl).trans ((e_nx f_206_77 rfl).trans ((e_nx (q := (_, [.ref l0, .int p43.1, .int 1], _, _)) f_206_81 rfl).trans ((e_nx f_206_82 rfl).trans ((e_eq f_206_83 rfl).trans (b_congr (fun h60 => (e_nx f_206_111 rfl).trans ((e_nx (q := (_, _, .int 0 :: _, _)) f_206_112 rfl).trans ((e_gd (L := [.ref l0, .int p43.1, .int 1]) (st := [.int 0, .ref l0]) (μ := p43.2) f_206_113 rfl).trans (g_congr (pi_iff rfl) (fun h61 => (e_nx f_206_116 rfl).trans (((e_eq f_206_117 rfl).trans (if_pos h60)).trans ((e_nx (q := (_, _, .int (-1) :: _, _)) f_206_124 rfl).trans (e_rt f_206_125 rfl)))))))) (fun h60 => (e_nx f_206_86 rfl).trans ((e_gV (L := [.ref l0, .int p43.1, .int 1]) (st := [.ref l0]) (μ := p43.2) (L' := [.ref l0, .int p43.1, .int 1]) (st' := []) f_206_87 rfl rfl).trans (g_congr (v_c2 rfl (Nat.le_of_ble_eq_true rfl)) (fun h64 => m_congr fun p63 => (e_nx f_206_90 rfl).trans ((e_nx f_206_91 rfl).trans ((e_gI (L := [.ref l0, .int p43.1, .int 1]) (st := [.int p43.1, .ref l0]) (μ := p63) (L' := [.ref l0, .int p43.1, .int 1]) (st' := []) f_206_92 rfl rfl).trans (g_congr (v_c2 rfl (Nat.le_of_ble_eq_true rfl)) (fun h66 => m_congr fun p65 => (e_eq f_206_95 rfl).trans (b_congr (fun h67 => (e_nx (q := (_, _, .int 0 :: _, _)) f_206_109 rfl).trans ((e_nx (q := (_, [.ref l0, .int p43.1, .int 0], _, _)) f_206_110 rfl).trans ((e_nx f_206_111 rfl).trans ((e_nx (q := (_, _, .int 0 :: _, _)) f_206_112 rfl).trans ((e_gd (L := [.ref l0, .int p43.1, .int 0]) (st := [.int 0, .ref l0]) (μ := p65.2) f_206_113 rfl).trans (g_congr (pi_iff rfl) (fun h68 => (e_nx f_206_116 rfl).trans ((e_eq f_206_117 rfl).trans (b_congr (fun h69 => (e_nx (q := (_, _, .int (-1) :: _, _)) f_206_124 rfl).trans (e_rt f_206_125 rfl)) (fun h69 => (e_nx f_206_120 rfl).trans ((e_nx f_206_121 rfl).trans (e_rt f_206_125 rfl)))))))))))) (fun h67 => (e_nx f_206_98 rfl).trans ((e_gd f_206_99 rfl).trans (g_congr (Iff.rfl) (fun h70 => (e_ne f_206_102 rfl).trans (b_congr (fun h71 => (e_nx (q := (_, _, .int 1 :: _, _)) f_206_105 rfl).trans ((e_nx f_206_106 rfl).trans ((e_nx (q := (_, [.ref l0, .int p43.1, .int 1], _, _)) f_206_110 rfl).trans ((e_nx f_206_111 rfl).trans ((e_nx (q := (_, _, .int 0 :: _, _)) f_206_112 rfl).trans ((e_gk (L := [.ref l0, .int p43.1, .int 1]) (st := [.int 0, .ref l0]) (μ := p65.2) f_206_113 ((pi_iff rfl).mpr h70) rfl).trans ((e_nx f_206_116 rfl).trans (((e_eq f_206_117 rfl).trans (if_neg h60)).trans ((e_nx f_206_120 rfl).trans ((e_nx f_206_121 rfl).trans (e_rt f_206_125 rfl))))))))))) (fun h71 => (e_nx (q := (_, _, .int 0 :: _, _)) f_206_109 rfl).trans ((e_nx (q := (_, [.ref l0, .int p43.1, .int 0], _, _)) f_206_110 rfl).trans ((e_nx f_206_111 rfl).trans ((e_nx (q := (_, _, .int 0 :: _, _)) f_206_112 rfl).trans ((e_gk (L := [.ref l0, .int p43.1, .int 0]) (st := [.int 0, .ref l0]) (μ := p65.2) f_206_113 ((pi_iff rfl).mpr h70) rfl).trans ((e_nx f_206_116 rfl).trans ((e_eq f_206_117 rfl).trans (b_congr (fun h73 => (e_nx (q := (_, _, .int (-1) :: _, _)) f_206_124 rfl).trans (e_rt f_206_125 rfl)) (fun h73 => (e_nx f_206_120 rfl).trans ((e_nx f_206_121 rfl).trans (e_rt f_206_125 rfl)))))))))))))))))))))))))))))))))))))))))))))))))))))))))))))))))))))))))))))))
theorem pg_207 (pc : Nat) : fe0 207 pc = lk prg_207 pc := rfl
theorem f_207_0 : fe0 207 0 = some (.aload_n 0, 1, 0, 0, 0, 0, 0) := (pg_207 0).trans rfl
theorem f_207_1 : fe0 207 1 = some (.invokevirtual 322, 3, 206, 0, 0, 9, 6151) := (pg_207 1).trans rfl
theorem f_207_4 : fe0 207 4 = some (.istore_n 1, 1, 0, 0, 0, 0, 0) := (pg_207 4).trans rfl
theorem f_207_5 : fe0 207 5 = some (.iload_n 1, 1, 0, 0, 0, 0, 0) := (pg_207 5).trans rfl
theorem f_207_6 : fe0 207 6 = some (.ifCond .ge 11, 3, 0, 0, 0, 0, 0) := (pg_207 6).trans rfl
theorem f_207_9 : fe0 207 9 = some (.bipush (-100), 2, 0, 0, 0, 0, 0) := (pg_207 9).trans rfl
theorem f_207_11 : fe0 207 11 = some (.aload_n 0, 1, 0, 0, 0, 0, 0) := (pg_207 11).trans rfl
theorem f_207_12 : fe0 207 12 = some (.getfield 251, 3, 9, 21, 0, 0, 5045) := (pg_207 12).trans rfl
theorem f_207_15 : fe0 207 15 = some (.isub, 1, 0, 0, 0, 0, 0) := (pg_207 15).trans rfl
theorem f_207_16 : fe0 207 16 = some (.ireturn, 1, 0, 0, 0, 0, 0) := (pg_207 16).trans rfl
theorem f_207_17 : fe0 207 17 = some (.aload_n 0, 1, 0, 0, 0, 0, 0) := (pg_207 17).trans rfl
theorem f_207_18 : fe0 207 18 = some (.getfield 7, 3, 9, 0, 1, 0, 5024) := (pg_207 18).trans rfl
theorem f_207_21 : fe0 207 21 = some (.iconst 2, 1, 0, 0, 0, 0, 0) := (pg_207 21).trans rfl
theorem f_207_22 : fe0 207 22 = some (.iaload, 1, 0, 0, 0, 0, 0) := (pg_207 22).trans rfl
theorem f_207_23 : fe0 207 23 = some (.bipush 14, 2, 0, 0, 0, 0, 0) := (pg_207 23).trans rfl
theorem f_207_25 : fe0 207 25 = some (.if_icmp .ne 6, 3, 0, 0, 0, 0, 0) := (pg_207 25).trans rfl
theorem f_207_28 : fe0 207 28 = some (.ldc 100, 2, 0, 0, 3294967293, 0, 5153) := (pg_207 28).trans rfl
theorem f_207_30 : fe0 207 30 = some (.ireturn, 1, 0, 0, 0, 0, 0) := (pg_207 30).trans rfl
theorem f_207_31 : fe0 207 31 = some (.aload_n 0, 1, 0, 0, 0, 0, 0) := (pg_207 31).trans rfl
theorem f_207_32 : fe0 207 32 = some (.aload_n 0, 1, 0, 0, 0, 0, 0) := (pg_207 32).trans rfl
theorem f_207_33 : fe0 207 33 = some (.getfield 7, 3, 9, 0, 1, 0, 5024) := (pg_207 33).trans rfl
theorem f_207_36 : fe0 207 36 = some (.iconst 2, 1, 0, 0, 0, 0, 0) := (pg_207 36).trans rfl
theorem f_207_37 : fe0 207 37 = some (.iaload, 1, 0, 0, 0, 0, 0) := (pg_207 37).trans rfl
theorem f_207_38 : fe0 207 38 = some (.invokevirtual 316, 3, 138, 1, 0, 9, 5178) := (pg_207 38).trans rfl
theorem f_207_41 : fe0 207 41 = some (.istore_n 2, 1, 0, 0, 0, 0, 0) := (pg_207 41).trans rfl
theorem f_207_42 : fe0 207 42 = some (.aload_n 0, 1, 0, 0, 0, 0, 0) := (pg_207 42).trans rfl
theorem f_207_43 : fe0 207 43 = some (.getfield 7, 3, 9, 0, 1, 0, 5024) := (pg_207 43).trans rfl
theorem f_207_46 : fe0 207 46 = some (.iload_n 2, 1, 0, 0, 0, 0, 0) := (pg_207 46).trans rfl
theorem f_207_47 : fe0 207 47 = some (.iconst 0, 1, 0, 0, 0, 0, 0) := (pg_207 47).trans rfl
theorem f_207_48 : fe0 207 48 = some (.iadd, 1, 0, 0, 0, 0, 0) := (pg_207 48).trans rfl
theorem f_207_49 : fe0 207 49 = some (.iload_n 1, 1, 0, 0, 0, 0, 0) := (pg_207 49).trans rfl
theorem f_207_50 : fe0 207 50 = some (.iastore, 1, 0, 0, 0, 0, 0) := (pg_207 50).trans rfl
theorem f_207_51 : fe0 207 51 = some (.aload_n 0, 1, 0, 0, 0, 0, 0) := (pg_207 51).trans rfl
theorem f_207_52 : fe0 207 52 = some (.getfield 7, 3, 9, 0, 1, 0, 5024) := (pg_207 52).trans rfl
theorem f_207_55 : fe0 207 55 = some (.iload_n 2, 1, 0, 0, 0, 0, 0) := (pg_207 55).trans rfl
theorem f_207_56 : fe0 207 56 = some (.iconst 1, 1, 0, 0, 0, 0, 0) := (pg_207 56).trans rfl
theorem f_207_57 : fe0 207 57 = some (.iadd, 1, 0, 0, 0, 0, 0) := (pg_207 57).trans rfl
theorem f_207_58 : fe0 207 58 = some (.aload_n 0, 1, 0, 0, 0, 0, 0) := (pg_207 58).trans rfl
theorem f_207_59 : fe0 207 59 = some (.getfield 301, 3, 9, 30, 0, 0, 5054) := (pg_207 59).trans rfl
theorem f_207_62 : fe0 207 62 = some (.iastore, 1, 0, 0, 0, 0, 0) := (pg_207 62).trans rfl
theorem f_207_63 : fe0 207 63 = some (.aload_n 0, 1, 0, 0, 0, 0, 0) := (pg_207 63).trans rfl
theorem f_207_64 : fe0 207 64 = some (.getfield 7, 3, 9, 0, 1, 0, 5024) := (pg_207 64).trans rfl
theorem f_207_67 : fe0 207 67 = some (.iload_n 2, 1, 0, 0, 0, 0, 0) := (pg_207 67).trans rfl
theorem f_207_68 : fe0 207 68 = some (.iconst 2, 1, 0, 0, 0, 0, 0) := (pg_207 68).trans rfl
theorem f_207_69 : fe0 207 69 = some (.iadd, 1, 0, 0, 0, 0, 0) := (pg_207 69).trans rfl
theorem f_207_70 : fe0 207 70 = some (.aload_n 0, 1, 0, 0, 0, 0, 0) := (pg_207 70).trans rfl
theorem f_207_71 : fe0 207 71 = some (.getfield 273, 3, 9, 28, 0, 0, 5052) := (pg_207 71).trans rfl
theorem f_207_74 : fe0 207 74 = some (.iastore, 1, 0, 0, 0, 0, 0) := (pg_207 74).trans rfl
theorem f_207_75 : fe0 207 75 = some (.aload_n 0, 1, 0, 0, 0, 0, 0) := (pg_207 75).trans rfl
theorem f_207_76 : fe0 207 76 = some (.getfield 7, 3, 9, 0, 1, 0, 5024) := (pg_207 76).trans rfl
theorem f_207_79 : fe0 207 79 = some (.iconst 2, 1, 0, 0, 0, 0, 0) := (pg_207 79).trans rfl
theorem f_207_80 : fe0 207 80 = some (.dup2, 1, 0, 0, 0, 0, 0) := (pg_207 80).trans rfl
theorem f_207_81 : fe0 207 81 = some (.iaload, 1, 0, 0, 0, 0, 0) := (pg_207 81).trans rfl
theorem f_207_82 : fe0 207 82 = some (.iconst 1, 1, 0, 0, 0, 0, 0) := (pg_207 82).trans rfl
theorem f_207_83 : fe0 207 83 = some (.iadd, 1, 0, 0, 0, 0, 0) := (pg_207 83).trans rfl
theorem f_207_84 : fe0 207 84 = some (.iastore, 1, 0, 0, 0, 0, 0) := (pg_207 84).trans rfl
theorem f_207_85 : fe0 207 85 = some (.aload_n 0, 1, 0, 0, 0, 0, 0) := (pg_207 85).trans rfl
theorem f_207_86 : fe0 207 86 = some (.getfield 7, 3, 9, 0, 1, 0, 5024) := (pg_207 86).trans rfl
theorem f_207_89 : fe0 207 89 = some (.iconst 2, 1, 0, 0, 0, 0, 0) := (pg_207 89).trans rfl
theorem f_207_90 : fe0 207 90 = some (.iaload, 1, 0, 0, 0, 0, 0) := (pg_207 90).trans rfl
theorem f_207_91 : fe0 207 91 = some (.iconst 1, 1, 0, 0, 0, 0, 0) := (pg_207 91).trans rfl
theorem f_207_92 : fe0 207 92 = some (.isub, 1, 0, 0, 0, 0, 0) := (pg_207 92).trans rfl
theorem f_207_93 : fe0 207 93 = some (.ireturn, 1, 0, 0, 0, 0, 0) := (pg_207 93).trans rfl
theorem q_207_0 (d : Nat) (l0 : Nat) (μ : aMem) : Rn (d + 1) 207 (0, [.ref l0, un, un], [], μ) = if (mS μ l0).1 = 9 ∧ l0 < 999999 then ((cI d 206 [.ref l0] μ).bind fun p1 => if 0 ≤ p1.1 then (if (mS p1.2 l0).1 = 9 then ((rdI p1.2 (mR p1.2 l0 0) 2).bind fun v5 => if v5 = 14 then (some (some (.int (-1000000003)), p1.2)) else ((rdI p1.2 (mR p1.2 l0 0) 2).bind fun v7 => if (mS p1.2 l0).1 = 9 ∧ l0 < 999999 then ((cI d 138 [.ref l0, .int v7] p1.2).bind fun p8 => if (mS p8.2 l0).1 = 9 then (if (mS p8.2 (mR p8.2 l0 0)).1 = 10 ∧ inb (p8.1 + 0) (mS p8.2 (mR p8.2 l0 0)).2 then (if (mS p8.2 (mR p8.2 l0 0)).1 = 10 ∧ inb (p8.1 + 1) (mS p8.2 (mR p8.2 l0 0)).2 then (if (mS p8.2 (mR p8.2 l0 0)).1 = 10 ∧ inb (p8.1 + 2) (mS p8.2 (mR p8.2 l0 0)).2 then ((rdI (setF (setF (setF p8.2 (mR p8.2 l0 0) (ix (p8.1 + 0)) p1.1) (mR p8.2 l0 0) (ix (p8.1 + 1)) (mF (setF p8.2 (mR p8.2 l0 0) (ix (p8.1 + 0)) p1.1) l0 30)) (mR p8.2 l0 0) (ix (p8.1 + 2)) (mF (setF (setF p8.2 (mR p8.2 l0 0) (ix (p8.1 + 0)) p1.1) (mR p8.2 l0 0) (ix (p8.1 + 1)) (mF (setF p8.2 (mR p8.2 l0 0) (ix (p8.1 + 0)) p1.1) l0 30)) l0 28)) (mR p8.2 l0 0) 2).bind fun v14 => if (mS p8.2 (mR p8.2 l0 0)).1 = 10 ∧ inb 2 (mS p8.2 (mR p8.2 l0 0)).2 then ((rdI (setF (setF (setF (setF p8.2 (mR p8.2 l0 0) (ix (p8.1 + 0)) p1.1) (mR p8.2 l0 0) (ix (p8.1 + 1)) (mF (setF p8.2 (mR p8.2 l0 0) (ix (p8.1 + 0)) p1.1) l0 30)) (mR p8.2 l0 0) (ix (p8.1 + 2)) (mF (setF (setF p8.2 (mR p8.2 l0 0) (ix (p8.1 + 0)) p1.1) (mR p8.2 l0 0) (ix (p8.1 + 1)) (mF (setF p8.2 (mR p8.2 l0 0) (ix (p8.1 + 0)) p1.1) l0 30)) l0 28)) (mR p8.2 l0 0) (ix 2) (v14 + 1)) (mR p8.2 l0 0) 2).bind fun v16 => some (some (.int (v16 - 1)), setF (setF (setF (setF p8.2 (mR p8.2 l0 0) (ix (p8.1 + 0)) p1.1) (mR p8.2 l0 0) (ix (p8.1 + 1)) (mF (setF p8.2 (mR p8.2 l0 0) (ix (p8.1 + 0)) p1.1) l0 30)) (mR p8.2 l0 0) (ix (p8.1 + 2)) (mF (setF (setF p8.2 (mR p8.2 l0 0) (ix (p8.1 + 0)) p1.1) (mR p8.2 l0 0) (ix (p8.1 + 1)) (mF (setF p8.2 (mR p8.2 l0 0) (ix (p8.1 + 0)) p1.1) l0 30)) l0 28)) (mR p8.2 l0 0) (ix 2) (v14 + 1))) else none) else none) else none) else none) else none) else none)) else none) else (if (mS p1.2 l0).1 = 9 then (some (some (.int ((-100) - (mF p1.2 l0 21))), p1.2)) else none)) else none :=
  (e_nx f_207_0 rfl).trans ((e_gI (L := [.ref l0, un, un]) (st := [.ref l0]) (μ := μ) (L' := [.ref l0, un, un]) (st' := []) f_207_1 rfl rfl).trans (g_congr (v_c2 rfl (Nat.le_of_ble_eq_true rfl)) (fun h2 => m_congr fun p1 => (e_nx (q := (_, [.ref l0, .int p1.1, un], _, _)) f_207_4 rfl).trans ((e_nx f_207_5 rfl).trans ((e_ge f_207_6 rfl).trans (b_congr (fun h3 => (e_nx f_207_17 rfl).trans ((e_gd f_207_18 rfl).trans (g_congr (Iff.rfl) (fun h4 => (e_nx (q := (_, _, .int 2 :: _, _)) f_207_21 rfl).trans ((e_ia (L := [.ref l0, .int p1.1, un]) (r := []) (μ := p1.2) f_207_22).trans (m_congr fun v5 => (e_nx (q := (_, _, .int 14 :: _, _)) f_207_23 rfl).trans ((e_ne f_207_25 rfl).trans (b_congr (fun h6 => (e_nx (q := (_, _, .int (-1000000003) :: _, _)) f_207_28 rfl).trans (e_rt f_207_30 rfl)) (fun h6 => (e_nx f_207_31 rfl).trans ((e_nx f_207_32 rfl).trans ((e_gk f_207_33 (h4) rfl).trans ((e_nx (q := (_, _, .int 2 :: _, _)) f_207_36 rfl).trans ((e_ia (L := [.ref l0, .int p1.1, un]) (r := [.ref l0]) (μ := p1.2) f_207_37).trans (m_congr fun v7 => (e_gI (L := [.ref l0, .int p1.1, un]) (st := [.int v7, .ref l0]) (μ := p1.2) (L' := [.ref l0, .int p1.1, un]) (st' := []) f_207_38 rfl rfl).trans (g_congr (v_c2 rfl (Nat.le_of_ble_eq_true rfl)) (fun h9 => m_congr fun p8 => (e_nx (q := (_, [.ref l0, .int p1.1, .int p8.1], _, _)) f_207_41 rfl).trans ((e_nx f_207_42 rfl).trans ((e_gd f_207_43 rfl).trans (g_congr (Iff.rfl) (fun h10 => (e_nx f_207_46 rfl).trans ((e_nx (q := (_, _, .int 0 :: _, _)) f_207_47 rfl).trans ((e_nx f_207_48 rfl).trans ((e_nx f_207_49 rfl).trans ((e_gd f_207_50 rfl).trans (g_congr (Iff.rfl) (fun h11 => (e_nx f_207_51 rfl).trans ((e_gk f_207_52 (h10) rfl).trans ((e_nx f_207_55 rfl).trans ((e_nx (q := (_, _, .int 1 :: _, _)) f_207_56 rfl).trans ((e_nx f_207_57 rfl).trans ((e_nx f_207_58 rfl).trans ((e_gk f_207_59 (h10) rfl).trans ((e_gd f_207_62 rfl).trans (g_congr (Iff.rfl) (fun h12 => (e_nx f_207_63 rfl).trans ((e_gk f_207_64 (h10) rfl).trans ((e_nx f_207_67 rfl).trans ((e_nx (q := (_, _, .int 2 :: _, _)) f_207_68 rfl).trans ((e_nx f_207_69 rfl).trans ((e_nx f_207_70 rfl).trans ((e_gk f_207_71 (h10) rfl).trans ((e_gd f_207_74 rfl).trans (g_congr (Iff.rfl) (fun h13 => (e_nx f_207_75 rfl).trans ((e_gk f_207_76 (h10) rfl).trans ((e_nx (q := (_, _, .int 2 :: _, _)) f_207_79 rfl).trans ((e_nx f_207_80 rfl).trans ((e_ia (L := [.ref l0, .int p1.1, .int p8.1]) (r := [.int 2, .ref (mR p8.2 l0 0)]) (μ := setF (setF (setF p8.2 (mR p8.2 l0 0) (ix (p8.1 + 0)) p1.1) (mR p8.2 l0 0) (ix (p8.1 + 1)) (mF (setF p8.2 (mR p8.2 l0 0) (ix (p8.1 + 0)) p1.1) l0 30)) (mR p8.2 l0 0) (ix (p8.1 + 2)) (mF (setF (setF p8.2 (mR p8.2 l0 0) (ix (p8.1 + 0)) p1.1) (mR p8.2 l0 0) (ix (p8.1 + 1)) (mF (setF p8.2 (mR p8.2 l0 0) (ix (p8.1 + 0)) p1.1) l0 30)) l0 28)) f_207_81).trans (m_congr fun v14 => (e_nx (q := (_, _, .int 1 :: _, _)) f_207_82 rfl).trans ((e_nx f_207_83 rfl).trans ((e_gd f_207_84 rfl).trans (g_congr (Iff.rfl) (fun h15 => (e_nx f_207_85 rfl).trans ((e_gk f_207_86 (h10) rfl).trans ((e_nx (q := (_, _, .int 2 :: _, _)) f_207_89 rfl).trans ((e_ia (L := [.ref l0, .int p1.1, .int p8.1]) (r := []) (μ := setF (setF (setF (setF p8.2 (mR p8.2 l0 0) (ix (p8.1 + 0)) p1.1) (mR p8.2 l0 0) (ix (p8.1 + 1)) (mF (setF p8.2 (mR p8.2 l0 0) (ix (p8.1 + 0)) p1.1) l0 30)) (mR p8.2 l0 0) (ix (p8.1 + 2)) (mF (setF (setF p8.2 (mR p8.2 l0 0) (ix (p8.1 + 0)) p1.1) (mR p8.2 l0 0) (ix (p8.1 + 1)) (mF (setF p8.2 (mR p8.2 l0 0) (ix (p8.1 + 0)) p1.1) l0 30)) l0 28)) (mR p8.2 l0 0) (ix 2) (v14 + 1)) f_207_90).trans (m_congr fun v16 => (e_nx (q := (_, _, .int 1 :: _, _)) f_207_91 rfl).trans ((e_nx f_207_92 rfl).trans (e_rt f_207_93 rfl))))))))))))))))))))))))))))))))))))))))))))))))))))))))))) (fun h3 => (e_nx (q := (_, _, .int (-100) :: _, _)) f_207_9 rfl).trans ((e_nx f_207_11 rfl).trans ((e_gd f_207_12 rfl).trans (g_congr (Iff.rfl) (fun h17 => (e_nx f_207_15 rfl).trans (e_rt f_207_16 rfl))))))))))))
