theorem pg_208 (pc : Nat) : fe0 208 pc = lk prg_208 pc := rfl
theorem f_208_0 : fe0 208 0 = some (.aload_n 0, 1, 0, 0, 0, 0, 0) := (pg_208 0).trans rfl
theorem f_208_1 : fe0 208 1 = some (.iload_n 1, 1, 0, 0, 0, 0, 0) := (pg_208 1).trans rfl
theorem f_208_2 : fe0 208 2 = some (.invokevirtual 325, 3, 142, 1, 0, 9, 6218) := (pg_208 2).trans rfl
theorem f_208_5 : fe0 208 5 = some (.ifCond .eq 13, 3, 0, 0, 0, 0, 0) := (pg_208 5).trans rfl
theorem f_208_8 : fe0 208 8 = some (.iload_n 2, 1, 0, 0, 0, 0, 0) := (pg_208 8).trans rfl
theorem f_208_9 : fe0 208 9 = some (.i2l, 1, 0, 0, 0, 0, 0) := (pg_208 9).trans rfl
theorem f_208_10 : fe0 208 10 = some (.lconst 0, 1, 0, 0, 0, 0, 0) := (pg_208 10).trans rfl
theorem f_208_11 : fe0 208 11 = some (.lconst 1, 1, 0, 0, 0, 0, 0) := (pg_208 11).trans rfl
theorem f_208_12 : fe0 208 12 = some (.invokestatic 84, 3, 133, 3, 2, 0, 5144) := (pg_208 12).trans rfl
theorem f_208_15 : fe0 208 15 = some (.ifCond .ne 6, 3, 0, 0, 0, 0, 0) := (pg_208 15).trans rfl
theorem f_208_18 : fe0 208 18 = some (.ldc 99, 2, 0, 0, 3294967295, 0, 5152) := (pg_208 18).trans rfl
theorem f_208_20 : fe0 208 20 = some (.ireturn, 1, 0, 0, 0, 0, 0) := (pg_208 20).trans rfl
theorem f_208_21 : fe0 208 21 = some (.aload_n 0, 1, 0, 0, 0, 0, 0) := (pg_208 21).trans rfl
theorem f_208_22 : fe0 208 22 = some (.getfield 7, 3, 9, 0, 1, 0, 5024) := (pg_208 22).trans rfl
theorem f_208_25 : fe0 208 25 = some (.aload_n 0, 1, 0, 0, 0, 0, 0) := (pg_208 25).trans rfl
theorem f_208_26 : fe0 208 26 = some (.iload_n 1, 1, 0, 0, 0, 0, 0) := (pg_208 26).trans rfl
theorem f_208_27 : fe0 208 27 = some (.invokevirtual 316, 3, 138, 1, 0, 9, 5178) := (pg_208 27).trans rfl
theorem f_208_30 : fe0 208 30 = some (.iload_n 2, 1, 0, 0, 0, 0, 0) := (pg_208 30).trans rfl
theorem f_208_31 : fe0 208 31 = some (.iadd, 1, 0, 0, 0, 0, 0) := (pg_208 31).trans rfl
theorem f_208_32 : fe0 208 32 = some (.iaload, 1, 0, 0, 0, 0, 0) := (pg_208 32).trans rfl
theorem f_208_33 : fe0 208 33 = some (.ireturn, 1, 0, 0, 0, 0, 0) := (pg_208 33).trans rfl
theorem q_208_0 (d : Nat) (l0 : Nat) (x1 : Int32) (x2 : Int32) (μ : aMem) : Rn (d + 1) 208 (0, [.ref l0, .int x1, .int x2], [], μ) = if (mS μ l0).1 = 9 ∧ l0 < 999999 then ((cI d 142 [.ref l0, .int x1] μ).bind fun p1 => if p1.1 = 0 then (some (some (.int (-1000000001)), p1.2)) else ((cI d 133 [.long ((x2 : Int32).toInt64), .long 0, .long 1] p1.2).bind fun p4 => if p4.1 = 0 then (some (some (.int (-1000000001)), p4.2)) else (if (mS p4.2 l0).1 = 9 then (if (mS p4.2 l0).1 = 9 ∧ l0 < 999999 then ((cI d 138 [.ref l0, .int x1] p4.2).bind fun p7 => (rdI p7.2 (mR p4.2 l0 0) (p7.1 + x2)).bind fun v9 => some (some (.int v9), p7.2)) else none) else none))) else none :=
  (e_nx f_208_0 rfl).trans ((e_nx f_208_1 rfl).trans ((e_gI (L := [.ref l0, .int x1, .int x2]) (st := [.int x1, .ref l0]) (μ := μ) (L' := [.ref l0, .int x1, .int x2]) (st' := []) f_208_2 rfl rfl).trans (g_congr (v_c2 rfl (Nat.le_of_ble_eq_true rfl)) (fun h2 => m_congr fun p1 => (e_eq f_208_5 rfl).trans (b_congr (fun h3 => (e_nx (q := (_, _, .int (-1000000001) :: _, _)) f_208_18 rfl).trans (e_rt f_208_20 rfl)) (fun h3 => (e_nx f_208_8 rfl).trans ((e_nx f_208_9 rfl).trans ((e_nx (q := (_, _, .long 0 :: _, _)) f_208_10 rfl).trans ((e_nx (q := (_, _, .long 1 :: _, _)) f_208_11 rfl).trans ((e_cI (L := [.ref l0, .int x1, .int x2]) (st := [.long 1, .long 0, .long ((x2 : Int32).toInt64)]) (μ := p1.2) (L' := [.ref l0, .int x1, .int x2]) (st' := []) f_208_12 rfl rfl).trans (m_congr fun p4 => (e_ne f_208_15 rfl).trans (b_congr (fun h5 => (e_nx (q := (_, _, .int (-1000000001) :: _, _)) f_208_18 rfl).trans (e_rt f_208_20 rfl)) (fun h5 => (e_nx f_208_21 rfl).trans ((e_gd f_208_22 rfl).trans (g_congr (Iff.rfl) (fun h6 => (e_nx f_208_25 rfl).trans ((e_nx f_208_26 rfl).trans ((e_gI (L := [.ref l0, .int x1, .int x2]) (st := [.int x1, .ref l0, .ref (mR p4.2 l0 0)]) (μ := p4.2) (L' := [.ref l0, .int x1, .int x2]) (st' := [.ref (mR p4.2 l0 0)]) f_208_27 rfl rfl).trans (g_congr (v_c2 rfl (Nat.le_of_ble_eq_true rfl)) (fun h8 => m_congr fun p7 => (e_nx f_208_30 rfl).trans ((e_nx f_208_31 rfl).trans ((e_ia (L := [.ref l0, .int x1, .int x2]) (r := []) (μ := p7.2) f_208_32).trans (m_congr fun v9 => e_rt f_208_33 rfl)))))))))))))))))))))))
theorem pg_209 (pc : Nat) : fe0 209 pc = lk prg_209 pc := rfl
theorem f_209_0 : fe0 209 0 = some (.iconst (-1), 1, 0, 0, 0, 0, 0) := (pg_209 0).trans rfl
theorem f_209_1 : fe0 209 1 = some (.istore_n 2, 1, 0, 0, 0, 0, 0) := (pg_209 1).trans rfl
theorem f_209_2 : fe0 209 2 = some (.iconst 0, 1, 0, 0, 0, 0, 0) := (pg_209 2).trans rfl
theorem f_209_3 : fe0 209 3 = some (.istore_n 3, 1, 0, 0, 0, 0, 0) := (pg_209 3).trans rfl
theorem f_209_4 : fe0 209 4 = some (.iload_n 3, 1, 0, 0, 0, 0, 0) := (pg_209 4).trans rfl
theorem f_209_5 : fe0 209 5 = some (.aload_n 0, 1, 0, 0, 0, 0, 0) := (pg_209 5).trans rfl
theorem f_209_6 : fe0 209 6 = some (.getfield 7, 3, 9, 0, 1, 0, 5024) := (pg_209 6).trans rfl
theorem f_209_9 : fe0 209 9 = some (.iconst 2, 1, 0, 0, 0, 0, 0) := (pg_209 9).trans rfl
theorem f_209_10 : fe0 209 10 = some (.iaload, 1, 0, 0, 0, 0, 0) := (pg_209 10).trans rfl
theorem f_209_11 : fe0 209 11 = some (.if_icmp .ge 29, 3, 0, 0, 0, 0, 0) := (pg_209 11).trans rfl
theorem f_209_14 : fe0 209 14 = some (.aload_n 0, 1, 0, 0, 0, 0, 0) := (pg_209 14).trans rfl
theorem f_209_15 : fe0 209 15 = some (.getfield 7, 3, 9, 0, 1, 0, 5024) := (pg_209 15).trans rfl
theorem f_209_18 : fe0 209 18 = some (.aload_n 0, 1, 0, 0, 0, 0, 0) := (pg_209 18).trans rfl
theorem f_209_19 : fe0 209 19 = some (.iload_n 3, 1, 0, 0, 0, 0, 0) := (pg_209 19).trans rfl
theorem f_209_20 : fe0 209 20 = some (.invokevirtual 316, 3, 138, 1, 0, 9, 5178) := (pg_209 20).trans rfl
theorem f_209_23 : fe0 209 23 = some (.iaload, 1, 0, 0, 0, 0, 0) := (pg_209 23).trans rfl
theorem f_209_24 : fe0 209 24 = some (.iload_n 1, 1, 0, 0, 0, 0, 0) := (pg_209 24).trans rfl
theorem f_209_25 : fe0 209 25 = some (.if_icmp .ne 7, 3, 0, 0, 0, 0, 0) := (pg_209 25).trans rfl
theorem f_209_28 : fe0 209 28 = some (.iload_n 3, 1, 0, 0, 0, 0, 0) := (pg_209 28).trans rfl
theorem f_209_29 : fe0 209 29 = some (.goto 4, 3, 0, 0, 0, 0, 0) := (pg_209 29).trans rfl
theorem f_209_32 : fe0 209 32 = some (.iload_n 2, 1, 0, 0, 0, 0, 0) := (pg_209 32).trans rfl
theorem f_209_33 : fe0 209 33 = some (.istore_n 2, 1, 0, 0, 0, 0, 0) := (pg_209 33).trans rfl
theorem f_209_34 : fe0 209 34 = some (.iinc 3 1, 3, 0, 0, 0, 0, 0) := (pg_209 34).trans rfl
theorem f_209_37 : fe0 209 37 = some (.goto (-33), 3, 0, 0, 0, 0, 0) := (pg_209 37).trans rfl
theorem f_209_40 : fe0 209 40 = some (.iload_n 2, 1, 0, 0, 0, 0, 0) := (pg_209 40).trans rfl
theorem f_209_41 : fe0 209 41 = some (.ireturn, 1, 0, 0, 0, 0, 0) := (pg_209 41).trans rfl
theorem q_209_0 (d : Nat) (l0 : Nat) (x1 : Int32) (μ : aMem) : Rn (d + 1) 209 (0, [.ref l0, .int x1, un, un], [], μ) = Rn (d + 1) 209 (4, [.ref l0, .int x1, .int (-1), .int 0], [], μ) :=
  (e_nx (q := (_, _, .int (-1) :: _, _)) f_209_0 rfl).trans ((e_nx (q := (_, [.ref l0, .int x1, .int (-1), un], _, _)) f_209_1 rfl).trans ((e_nx (q := (_, _, .int 0 :: _, _)) f_209_2 rfl).trans (e_nx (q := (_, [.ref l0, .int x1, .int (-1), .int 0], _, _)) f_209_3 rfl)))
theorem q_209_4 (d : Nat) (l0 : Nat) (x1 : Int32) (x2 : Int32) (x3 : Int32) (μ : aMem) : Rn (d + 1) 209 (4, [.ref l0, .int x1, .int x2, .int x3], [], μ) = if (mS μ l0).1 = 9 then ((rdI μ (mR μ l0 0) 2).bind fun v2 => if v2 ≤ x3 then (some (some (.int x2), μ)) else (if (mS μ l0).1 = 9 ∧ l0 < 999999 then ((cI d 138 [.ref l0, .int x3] μ).bind fun p4 => (rdI p4.2 (mR μ l0 0) p4.1).bind fun v6 => if v6 = x1 then (Rn (d + 1) 209 (4, [.ref l0, .int x1, .int x3, .int (x3 + 1)], [], p4.2)) else (Rn (d + 1) 209 (4, [.ref l0, .int x1, .int x2, .int (x3 + 1)], [], p4.2))) else none)) else none :=
  (e_nx f_209_4 rfl).trans ((e_nx f_209_5 rfl).trans ((e_gd f_209_6 rfl).trans (g_congr (Iff.rfl) (fun h1 => (e_nx (q := (_, _, .int 2 :: _, _)) f_209_9 rfl).trans ((e_ia (L := [.ref l0, .int x1, .int x2, .int x3]) (r := [.int x3]) (μ := μ) f_209_10).trans (m_congr fun v2 => (e_ge f_209_11 rfl).trans (b_congr (fun h3 => (e_nx f_209_40 rfl).trans (e_rt f_209_41 rfl)) (fun h3 => (e_nx f_209_14 rfl).trans ((e_gk f_209_15 (h1) rfl).trans ((e_nx f_209_18 rfl).trans ((e_nx f_209_19 rfl).trans ((e_gI (L := [.ref l0, .int x1, .int x2, .int x3]) (st := [.int x3, .ref l0, .ref (mR μ l0 0)]) (μ := μ) (L' := [.ref l0, .int x1, .int x2, .int x3]) (st' := [.ref (mR μ l0 0)]) f_209_20 rfl rfl).trans (g_congr (v_c2 rfl (Nat.le_of_ble_eq_true rfl)) (fun h5 => m_congr fun p4 => (e_ia (L := [.ref l0, .int x1, .int x2, .int x3]) (r := []) (μ := p4.2) f_209_23).trans (m_congr fun v6 => (e_nx f_209_24 rfl).trans ((e_ne f_209_25 rfl).trans (b_congr (fun h7 => (e_nx f_209_28 rfl).trans ((e_nx f_209_29 rfl).trans ((e_nx (q := (_, [.ref l0, .int x1, .int x3, .int x3], _, _)) f_209_33 rfl).trans ((e_nx (q := (_, [.ref l0, .int x1, .int x3, .int (x3 + 1)], _, _)) f_209_34 rfl).trans (e_nx f_209_37 rfl))))) (fun h7 => (e_nx f_209_32 rfl).trans ((e_nx (q := (_, [.ref l0, .int x1, .int x2, .int x3], _, _)) f_209_33 rfl).trans ((e_nx (q := (_, [.ref l0, .int x1, .int x2, .int (x3 + 1)], _, _)) f_209_34 rfl).trans (e_nx f_209_37 rfl)))))))))))))))))))))
theorem pg_210 (pc : Nat) : fe0 210 pc = lk prg_210 pc := rfl
theorem f_210_0 : fe0 210 0 = some (.iload_n 1, 1, 0, 0, 0, 0, 0) := (pg_210 0).trans rfl
theorem f_210_1 : fe0 210 1 = some (.i2l, 1, 0, 0, 0, 0, 0) := (pg_210 1).trans rfl
theorem f_210_2 : fe0 210 2 = some (.lconst 0, 1, 0, 0, 0, 0, 0) := (pg_210 2).trans rfl
theorem f_210_3 : fe0 210 3 = some (.ldc2_w 172, 3, 0, 0, 2, 0, 6018) := (pg_210 3).trans rfl
theorem f_210_6 : fe0 210 6 = some (.invokestatic 84, 3, 133, 3, 2, 0, 5144) := (pg_210 6).trans rfl
theorem f_210_9 : fe0 210 9 = some (.ifCond .eq 14, 3, 0, 0, 0, 0, 0) := (pg_210 9).trans rfl
theorem f_210_12 : fe0 210 12 = some (.aload_n 0, 1, 0, 0, 0, 0, 0) := (pg_210 12).trans rfl
theorem f_210_13 : fe0 210 13 = some (.iload_n 1, 1, 0, 0, 0, 0, 0) := (pg_210 13).trans rfl
theorem f_210_14 : fe0 210 14 = some (.invokevirtual 109, 3, 209, 1, 0, 9, 5174) := (pg_210 14).trans rfl
theorem f_210_17 : fe0 210 17 = some (.invokestatic 328, 3, 135, 1, 2, 0, 6226) := (pg_210 17).trans rfl
theorem f_210_20 : fe0 210 20 = some (.goto 5, 3, 0, 0, 0, 0, 0) := (pg_210 20).trans rfl
theorem f_210_23 : fe0 210 23 = some (.ldc 99, 2, 0, 0, 3294967295, 0, 5152) := (pg_210 23).trans rfl
theorem f_210_25 : fe0 210 25 = some (.ireturn, 1, 0, 0, 0, 0, 0) := (pg_210 25).trans rfl
theorem q_210_0 (d : Nat) (l0 : Nat) (x1 : Int32) (μ : aMem) : Rn (d + 1) 210 (0, [.ref l0, .int x1], [], μ) = (cI d 133 [.long ((x1 : Int32).toInt64), .long 0, .long 2] μ).bind fun p1 => if p1.1 = 0 then (some (some (.int (-1000000001)), p1.2)) else (if (mS p1.2 l0).1 = 9 ∧ l0 < 999999 then ((cI d 209 [.ref l0, .int x1] p1.2).bind fun p3 => (cI d 135 [.int p3.1] p3.2).bind fun p5 => some (some (.int p5.1), p5.2)) else none) :=
  (e_nx f_210_0 rfl).trans ((e_nx f_210_1 rfl).trans ((e_nx (q := (_, _, .long 0 :: _, _)) f_210_2 rfl).trans ((e_nx (q := (_, _, .long 2 :: _, _)) f_210_3 rfl).trans ((e_cI (L := [.ref l0, .int x1]) (st := [.long 2, .long 0, .long ((x1 : Int32).toInt64)]) (μ := μ) (L' := [.ref l0, .int x1]) (st' := []) f_210_6 rfl rfl).trans (m_congr fun p1 => (e_eq f_210_9 rfl).trans (b_congr (fun h2 => (e_nx (q := (_, _, .int (-1000000001) :: _, _)) f_210_23 rfl).trans (e_rt f_210_25 rfl)) (fun h2 => (e_nx f_210_12 rfl).trans ((e_nx f_210_13 rfl).trans ((e_gI (L := [.ref l0, .int x1]) (st := [.int x1, .ref l0]) (μ := p1.2) (L' := [.ref l0, .int x1]) (st' := []) f_210_14 rfl rfl).trans (g_congr (v_c2 rfl (Nat.le_of_ble_eq_true rfl)) (fun h4 => m_congr fun p3 => (e_cI (L := [.ref l0, .int x1]) (st := [.int p3.1]) (μ := p3.2) (L' := [.ref l0, .int x1]) (st' := []) f_210_17 rfl rfl).trans (m_congr fun p5 => (e_nx f_210_20 rfl).trans (e_rt f_210_25 rfl)))))))))))))
theorem pg_211 (pc : Nat) : fe0 211 pc = lk prg_211 pc := rfl
theorem f_211_0 : fe0 211 0 = some (.iload_n 0, 1, 0, 0, 0, 0, 0) := (pg_211 0).trans rfl
theorem f_211_1 : fe0 211 1 = some (.tableswitch 196 38 62 #[182, 196, 196, 196, 123, 115, 196, 119, 196, 127, 196, 196, 196, 196, 196, 196, 196, 196, 196, 196, 196, 196, 149, 171, 160], 115, 0, 0, 0, 0, 0) := (pg_211 1).trans rfl
theorem f_211_116 : fe0 211 116 = some (.iload_n 1, 1, 0, 0, 0, 0, 0) := (pg_211 116).trans rfl
theorem f_211_117 : fe0 211 117 = some (.iload_n 2, 1, 0, 0, 0, 0, 0) := (pg_211 117).trans rfl
theorem f_211_118 : fe0 211 118 = some (.iadd, 1, 0, 0, 0, 0, 0) := (pg_211 118).trans rfl
theorem f_211_119 : fe0 211 119 = some (.ireturn, 1, 0, 0, 0, 0, 0) := (pg_211 119).trans rfl
theorem f_211_120 : fe0 211 120 = some (.iload_n 1, 1, 0, 0, 0, 0, 0) := (pg_211 120).trans rfl
theorem f_211_121 : fe0 211 121 = some (.iload_n 2, 1, 0, 0, 0, 0, 0) := (pg_211 121).trans rfl
theorem f_211_122 : fe0 211 122 = some (.isub, 1, 0, 0, 0, 0, 0) := (pg_211 122).trans rfl
theorem f_211_123 : fe0 211 123 = some (.ireturn, 1, 0, 0, 0, 0, 0) := (pg_211 123).trans rfl
theorem f_211_124 : fe0 211 124 = some (.iload_n 1, 1, 0, 0, 0, 0, 0) := (pg_211 124).trans rfl
theorem f_211_125 : fe0 211 125 = some (.iload_n 2, 1, 0, 0, 0, 0, 0) := (pg_211 125).trans rfl
theorem f_211_126 : fe0 211 126 = some (.imul, 1, 0, 0, 0, 0, 0) := (pg_211 126).trans rfl
theorem f_211_127 : fe0 211 127 = some (.ireturn, 1, 0, 0, 0, 0, 0) := (pg_211 127).trans rfl
theorem f_211_128 : fe0 211 128 = some (.iload_n 2, 1, 0, 0, 0, 0, 0) := (pg_211 128).trans rfl
theorem f_211_129 : fe0 211 129 = some (.ifCond .ne 7, 3, 0, 0, 0, 0, 0) := (pg_211 129).trans rfl
theorem f_211_132 : fe0 211 132 = some (.iconst 0, 1, 0, 0, 0, 0, 0) := (pg_211 132).trans rfl
theorem f_211_133 : fe0 211 133 = some (.goto 16, 3, 0, 0, 0, 0, 0) := (pg_211 133).trans rfl
theorem f_211_136 : fe0 211 136 = some (.iload_n 2, 1, 0, 0, 0, 0, 0) := (pg_211 136).trans rfl
theorem f_211_137 : fe0 211 137 = some (.iconst (-1), 1, 0, 0, 0, 0, 0) := (pg_211 137).trans rfl
theorem f_211_138 : fe0 211 138 = some (.if_icmp .ne 8, 3, 0, 0, 0, 0, 0) := (pg_211 138).trans rfl
theorem f_211_141 : fe0 211 141 = some (.iload_n 1, 1, 0, 0, 0, 0, 0) := (pg_211 141).trans rfl
theorem f_211_142 : fe0 211 142 = some (.ineg, 1, 0, 0, 0, 0, 0) := (pg_211 142).trans rfl
theorem f_211_143 : fe0 211 143 = some (.goto 6, 3, 0, 0, 0, 0, 0) := (pg_211 143).trans rfl
theorem f_211_146 : fe0 211 146 = some (.iload_n 1, 1, 0, 0, 0, 0, 0) := (pg_211 146).trans rfl
theorem f_211_147 : fe0 211 147 = some (.iload_n 2, 1, 0, 0, 0, 0, 0) := (pg_211 147).trans rfl
theorem f_211_148 : fe0 211 148 = some (.idiv, 1, 0, 0, 0, 0, 0) := (pg_211 148).trans rfl
theorem f_211_149 : fe0 211 149 = some (.ireturn, 1, 0, 0, 0, 0, 0) := (pg_211 149).trans rfl
theorem f_211_150 : fe0 211 150 = some (.iload_n 1, 1, 0, 0, 0, 0, 0) := (pg_211 150).trans rfl
theorem f_211_151 : fe0 211 151 = some (.iload_n 2, 1, 0, 0, 0, 0, 0) := (pg_211 151).trans rfl
theorem f_211_152 : fe0 211 152 = some (.if_icmp .ge 7, 3, 0, 0, 0, 0, 0) := (pg_211 152).trans rfl
theorem f_211_155 : fe0 211 155 = some (.iconst 1, 1, 0, 0, 0, 0, 0) := (pg_211 155).trans rfl
theorem f_211_156 : fe0 211 156 = some (.goto 4, 3, 0, 0, 0, 0, 0) := (pg_211 156).trans rfl
theorem f_211_159 : fe0 211 159 = some (.iconst 0, 1, 0, 0, 0, 0, 0) := (pg_211 159).trans rfl
theorem f_211_160 : fe0 211 160 = some (.ireturn, 1, 0, 0, 0, 0, 0) := (pg_211 160).trans rfl
theorem f_211_161 : fe0 211 161 = some (.iload_n 1, 1, 0, 0, 0, 0, 0) := (pg_211 161).trans rfl
theorem f_211_162 : fe0 211 162 = some (.iload_n 2, 1, 0, 0, 0, 0, 0) := (pg_211 162).trans rfl
theorem f_211_163 : fe0 211 163 = some (.if_icmp .le 7, 3, 0, 0, 0, 0, 0) := (pg_211 163).trans rfl
theorem f_211_166 : fe0 211 166 = some (.iconst 1, 1, 0, 0, 0, 0, 0) := (pg_211 166).trans rfl
theorem f_211_167 : fe0 211 167 = some (.goto 4, 3, 0, 0, 0, 0, 0) := (pg_211 167).trans rfl
theorem f_211_170 : fe0 211 170 = some (.iconst 0, 1, 0, 0, 0, 0, 0) := (pg_211 170).trans rfl
theorem f_211_171 : fe0 211 171 = some (.ireturn, 1, 0, 0, 0, 0, 0) := (pg_211 171).trans rfl
theorem f_211_172 : fe0 211 172 = some (.iload_n 1, 1, 0, 0, 0, 0, 0) := (pg_211 172).trans rfl
theorem f_211_173 : fe0 211 173 = some (.iload_n 2, 1, 0, 0, 0, 0, 0) := (pg_211 173).trans rfl
theorem f_211_174 : fe0 211 174 = some (.if_icmp .ne 7, 3, 0, 0, 0, 0, 0) := (pg_211 174).trans rfl
theorem f_211_177 : fe0 211 177 = some (.iconst 1, 1, 0, 0, 0, 0, 0) := (pg_211 177).trans rfl
theorem f_211_178 : fe0 211 178 = some (.goto 4, 3, 0, 0, 0, 0, 0) := (pg_211 178).trans rfl
theorem f_211_181 : fe0 211 181 = some (.iconst 0, 1, 0, 0, 0, 0, 0) := (pg_211 181).trans rfl
theorem f_211_182 : fe0 211 182 = some (.ireturn, 1, 0, 0, 0, 0, 0) := (pg_211 182).trans rfl
theorem f_211_183 : fe0 211 183 = some (.iload_n 1, 1, 0, 0, 0, 0, 0) := (pg_211 183).trans rfl
theorem f_211_184 : fe0 211 184 = some (.ifCond .eq 11, 3, 0, 0, 0, 0, 0) := (pg_211 184).trans rfl
theorem f_211_187 : fe0 211 187 = some (.iload_n 2, 1, 0, 0, 0, 0, 0) := (pg_211 187).trans rfl
theorem f_211_188 : fe0 211 188 = some (.ifCond .eq 7, 3, 0, 0, 0, 0, 0) := (pg_211 188).trans rfl
theorem f_211_191 : fe0 211 191 = some (.iconst 1, 1, 0, 0, 0, 0, 0) := (pg_211 191).trans rfl
theorem f_211_192 : fe0 211 192 = some (.goto 4, 3, 0, 0, 0, 0, 0) := (pg_211 192).trans rfl
theorem f_211_195 : fe0 211 195 = some (.iconst 0, 1, 0, 0, 0, 0, 0) := (pg_211 195).trans rfl
theorem f_211_196 : fe0 211 196 = some (.ireturn, 1, 0, 0, 0, 0, 0) := (pg_211 196).trans rfl
theorem f_211_197 : fe0 211 197 = some (.iload_n 1, 1, 0, 0, 0, 0, 0) := (pg_211 197).trans rfl
theorem f_211_198 : fe0 211 198 = some (.ifCond .ne 7, 3, 0, 0, 0, 0, 0) := (pg_211 198).trans rfl
theorem f_211_201 : fe0 211 201 = some (.iload_n 2, 1, 0, 0, 0, 0, 0) := (pg_211 201).trans rfl
theorem f_211_202 : fe0 211 202 = some (.ifCond .eq 7, 3, 0, 0, 0, 0, 0) := (pg_211 202).trans rfl
theorem f_211_205 : fe0 211 205 = some (.iconst 1, 1, 0, 0, 0, 0, 0) := (pg_211 205).trans rfl
theorem f_211_206 : fe0 211 206 = some (.goto 4, 3, 0, 0, 0, 0, 0) := (pg_211 206).trans rfl
theorem f_211_209 : fe0 211 209 = some (.iconst 0, 1, 0, 0, 0, 0, 0) := (pg_211 209).trans rfl
theorem f_211_210 : fe0 211 210 = some (.ireturn, 1, 0, 0, 0, 0, 0) := (pg_211 210).trans rfl
theorem q_211_0 (d : Nat) (x0 : Int32) (x1 : Int32) (x2 : Int32) (μ : aMem) : Rn d 211 (0, [.int x0, .int x1, .int x2], [], μ) = if x0 = 38 then (if x1 = 0 then (Rn d 211 (195, [.int x0, .int x1, .int x2], [], μ)) else (if x2 = 0 then (Rn d 211 (195, [.int x0, .int x1, .int x2], [], μ)) else (Rn d 211 (196, [.int x0, .int x1, .int x2], [.int 1], μ)))) else (if x0 = 39 then (Rn d 211 (197, [.int x0, .int x1, .int x2], [], μ)) else (if x0 = 40 then (Rn d 211 (197, [.int x0, .int x1, .int x2], [], μ)) else (if x0 = 41 then (Rn d 211 (197, [.int x0, .int x1, .int x2], [], μ)) else (if x0 = 42 then (some (some (.int (x1 * x2)), μ)) else (if x0 = 43 then (some (some (.int (x1 + x2)), μ)) else (if x0 = 44 then (Rn d 211 (197, [.int x0, .int x1, .int x2], [], μ)) else (if x0 = 45 then (some (some (.int (x1 - x2)), μ)) else (if x0 = 46 then (Rn d 211 (197, [.int x0, .int x1, .int x2], [], μ)) else (if x0 = 47 then (if x2 = 0 then (Rn d 211 (149, [.int x0, .int x1, .int x2], [.int 0], μ)) else (if x2 = (-1) then (Rn d 211 (149, [.int x0, .int x1, .int x2], [.int (-x1)], μ)) else (if ¬ x2 = 0 then (Rn d 211 (149, [.int x0, .int x1, .int x2], [.int (x1 / x2)], μ)) else none))) else (if x0 = 48 then (Rn d 211 (197, [.int x0, .int x1, .int x2], [], μ)) else (if x0 = 49 then (Rn d 211 (197, [.int x0, .int x1, .int x2], [], μ)) else (if x0 = 50 then (Rn d 211 (197, [.int x0, .int x1, .int x2], [], μ)) else (if x0 = 51 then (Rn d 211 (197, [.int x0, .int x1, .int x2], [], μ)) else (if x0 = 52 then (Rn d 211 (197, [.int x0, .int x1, .int x2], [], μ)) else (if x0 = 53 then (Rn d 211 (197, [.int x0, .int x1, .int x2], [], μ)) else (if x0 = 54 then (Rn d 211 (197, [.int x0, .int x1, .int x2], [], μ)) else (if x0 = 55 then (Rn d 211 (197, [.int x0, .int x1, .int x2], [], μ)) else (if x0 = 56 then (Rn d 211 (197, [.int x0, .int x1, .int x2], [], μ)) else (if x0 = 57 then (Rn d 211 (197, [.int x0, .int x1, .int x2], [], μ)) else (if x0 = 58 then (Rn d 211 (197, [.int x0, .int x1, .int x2], [], μ)) else (if x0 = 59 then (Rn d 211 (197, [.int x0, .int x1, .int x2], [], μ)) else (if x0 = 60 then (if x2 ≤ x1 then (Rn d 211 (160, [.int x0, .int x1, .int x2], [.int 0], μ)) else (Rn d 211 (160, [.int x0, .int x1, .int x2], [.int 1], μ))) else (if x0 = 61 then (if x1 = x2 then (Rn d 211 (182, [.int x0, .int x1, .int x2], [.int 1], μ)) else (Rn d 211 (182, [.int x0, .int x1, .int x2], [.int 0], μ))) else (if x0 = 62 then (if x1 ≤ x2 then (Rn d 211 (171, [.int x0, .int x1, .int x2], [.int 0], μ)) else (Rn d 211 (171, [.int x0, .int x1, .int x2], [.int 1], μ))) else (Rn d 211 (197, [.int x0, .int x1, .int x2], [], μ)))))))))))))))))))))))))) :=
  (e_nx f_211_0 rfl).trans ((e_tab f_211_1 (ts := [183, 197, 197, 197, 124, 116, 197, 120, 197, 128, 197, 197, 197, 197, 197, 197, 197, 197, 197, 197, 197, 197, 150, 172, 161]) (df := 197) (lo := 38) rfl rfl rfl (by decide) (by decide)).trans (b_congr (fun _ => (e_nx f_211_183 rfl).trans ((e_eq f_211_184 rfl).trans (b_congr (fun h1 => rfl) (fun h1 => (e_nx f_211_187 rfl).trans ((e_eq f_211_188 rfl).trans (b_congr (fun h2 => rfl) (fun h2 => (e_nx (q := (_, _, .int 1 :: _, _)) f_211_191 rfl).trans (e_nx f_211_192 rfl)))))))) (fun _ => b_congr (fun _ => rfl) (fun _ => b_congr (fun _ => rfl) (fun _ => b_congr (fun _ => rfl) (fun _ => b_congr (fun _ => (e_nx f_211_124 rfl).trans ((e_nx f_211_125 rfl).trans ((e_nx f_211_126 rfl).trans (e_rt f_211_127 rfl)))) (fun _ => b_congr (fun _ => (e_nx f_211_116 rfl).trans ((e_nx f_211_117 rfl).trans ((e_nx f_211_118 rfl).trans (e_rt f_211_119 rfl)))) (fun _ => b_congr (fun _ => rfl) (fun _ => b_congr (fun _ => (e_nx f_211_120 rfl).trans ((e_nx f_211_121 rfl).trans ((e_nx f_211_122 rfl).trans (e_rt f_211_123 rfl)))) (fun _ => b_congr (fun _ => rfl) (fun _ => b_congr (fun _ => (e_nx f_211_128 rfl).trans ((e_ne f_211_129 rfl).trans (b_congr (fun h3 => (e_nx (q := (_, _, .int 0 :: _, _)) f_211_132 rfl).trans (e_nx f_211_133 rfl)) (fun h3 => (e_nx f_211_136 rfl).trans ((e_nx (q := (_, _, .int (-1) :: _, _)) f_211_137 rfl).trans ((e_ne f_211_138 rfl).trans (b_congr (fun h4 => (e_nx f_211_141 rfl).trans ((e_nx f_211_142 rfl).trans (e_nx f_211_143 rfl))) (fun h4 => (e_nx f_211_146 rfl).trans ((e_nx f_211_147 rfl).trans ((e_gd f_211_148 rfl).trans (g_congr (Iff.rfl) (fun h5 => rfl)))))))))))) (fun _ => b_congr (fun _ => rfl) (fun _ => b_congr (fun _ => rfl) (fun _ => b_congr (fun _ => rfl) (fun _ => b_congr (fun _ => rfl) (fun _ => b_congr (fun _ => rfl) (fun _ => b_congr (fun _ => rfl) (fun _ => b_congr (fun _ => rfl) (fun _ => b_congr (fun _ => rfl) (fun _ => b_congr (fun _ => rfl) (fun _ => b_congr (fun _ => rfl) (fun _ => b_congr (fun _ => rfl) (fun _ => b_congr (fun _ => rfl) (fun _ => b_congr (fun _ => (e_nx f_211_150 rfl).trans ((e_nx f_211_151 rfl).trans ((e_ge f_211_152 rfl).trans (b_congr (fun h6 => e_nx (q := (_, _, .int 0 :: _, _)) f_211_159 rfl) (fun h6 => (e_nx (q := (_, _, .int 1 :: _, _)) f_211_155 rfl).trans (e_nx f_211_156 rfl)))))) (fun _ => b_congr (fun _ => (e_nx f_211_172 rfl).trans ((e_nx f_211_173 rfl).trans ((e_ne f_211_174 rfl).trans (b_congr (fun h7 => (e_nx (q := (_, _, .int 1 :: _, _)) f_211_177 rfl).trans (e_nx f_211_178 rfl)) (fun h7 => e_nx (q := (_, _, .int 0 :: _, _)) f_211_181 rfl))))) (fun _ => b_congr (fun _ => (e_nx f_211_161 rfl).trans ((e_nx f_211_162 rfl).trans ((e_le f_211_163 rfl).trans (b_congr (fun h8 => e_nx (q := (_, _, .int 0 :: _, _)) f_211_170 rfl) (fun h8 => (e_nx (q := (_, _, .int 1 :: _, _)) f_211_166 rfl).trans (e_nx f_211_167 rfl)))))) (fun _ => rfl)))))))))))))))))))))))))))
theorem q_211_149 (d : Nat) (x0 : Int32) (x1 : Int32) (x2 : Int32) (xs0 : Int32) (μ : aMem) : Rn d 211 (149, [.int x0, .int x1, .int x2], [.int xs0], μ) = some (some (.int xs0), μ) :=
  e_rt f_211_149 rfl
theorem q_211_160 (d : Nat) (x0 : Int32) (x1 : Int32) (x2 : Int32) (xs0 : Int32) (μ : aMem) : Rn d 211 (160, [.int x0, .int x1, .int x2], [.int xs0], μ) = some (some (.int xs0), μ) :=
  e_rt f_211_160 rfl
theorem q_211_171 (d : Nat) (x0 : Int32) (x1 : Int32) (x2 : Int32) (xs0 : Int32) (μ : aMem) : Rn d 211 (171, [.int x0, .int x1, .int x2], [.int xs0], μ) = some (some (.int xs0), μ) :=
  e_rt f_211_171 rfl
theorem q_211_182 (d : Nat) (x0 : Int32) (x1 : Int32) (x2 : Int32) (xs0 : Int32) (μ : aMem) : Rn d 211 (182, [.int x0, .int x1, .int x2], [.int xs0], μ) = some (some (.int xs0), μ) :=
  e_rt f_211_182 rfl
theorem q_211_195 (d : Nat) (x0 : Int32) (x1 : Int32) (x2 : Int32) (μ : aMem) : Rn d 211 (195, [.int x0, .int x1, .int x2], [], μ) = Rn d 211 (196, [.int x0, .int x1, .int x2], [.int 0], μ) :=
  e_nx (q := (_, _, .int 0 :: _, _)) f_211_195 rfl
theorem q_211_196 (d : Nat) (x0 : Int32) (x1 : Int32) (x2 : Int32) (xs0 : Int32) (μ : aMem) : Rn d 211 (196, [.int x0, .int x1, .int x2], [.int xs0], μ) = some (some (.int xs0), μ) :=
  e_rt f_211_196 rfl
theorem q_211_197 (d : Nat) (x0 : Int32) (x1 : Int32) (x2 : Int32) (μ : aMem) : Rn d 211 (197, [.int x0, .int x1, .int x2], [], μ) = if x1 = 0 then (if x2 = 0 then (Rn d 211 (210, [.int x0, .int x1, .int x2], [.int 0], μ)) else (Rn d 211 (205, [.int x0, .int x1, .int x2], [], μ))) else (Rn d 211 (205, [.int x0, .int x1, .int x2], [], μ)) :=
  (e_nx f_211_197 rfl).trans ((e_ne f_211_198 rfl).trans (b_congr (fun h1 => (e_nx f_211_201 rfl).trans ((e_eq f_211_202 rfl).trans (b_congr (fun h2 => e_nx (q := (_, _, .int 0 :: _, _)) f_211_209 rfl) (fun h2 => rfl)))) (fun h1 => rfl)))
theorem q_211_205 (d : Nat) (x0 : Int32) (x1 : Int32) (x2 : Int32) (μ : aMem) : Rn d 211 (205, [.int x0, .int x1, .int x2], [], μ) = Rn d 211 (210, [.int x0, .int x1, .int x2], [.int 1], μ) :=
  (e_nx (q := (_, _, .int 1 :: _, _)) f_211_205 rfl).trans (e_nx f_211_206 rfl)
theorem q_211_210 (d : Nat) (x0 : Int32) (x1 : Int32) (x2 : Int32) (xs0 : Int32) (μ : aMem) : Rn d 211 (210, [.int x0, .int x1, .int x2], [.int xs0], μ) = some (some (.int xs0), μ) :=
  e_rt f_211_210 rfl
theorem pg_212 (pc : Nat) : fe0 212 pc = lk prg_212 pc := rfl
theorem f_212_0 : fe0 212 0 = some (.iconst 0, 1, 0, 0, 0, 0, 0) := (pg_212 0).trans rfl
theorem f_212_1 : fe0 212 1 = some (.istore_n 2, 1, 0, 0, 0, 0, 0) := (pg_212 1).trans rfl
theorem f_212_2 : fe0 212 2 = some (.iconst 0, 1, 0, 0, 0, 0, 0) := (pg_212 2).trans rfl
theorem f_212_3 : fe0 212 3 = some (.istore_n 3, 1, 0, 0, 0, 0, 0) := (pg_212 3).trans rfl
theorem f_212_4 : fe0 212 4 = some (.iload_n 3, 1, 0, 0, 0, 0, 0) := (pg_212 4).trans rfl
theorem f_212_5 : fe0 212 5 = some (.aload_n 0, 1, 0, 0, 0, 0, 0) := (pg_212 5).trans rfl
theorem f_212_6 : fe0 212 6 = some (.getfield 7, 3, 9, 0, 1, 0, 5024) := (pg_212 6).trans rfl
theorem f_212_9 : fe0 212 9 = some (.aload_n 0, 1, 0, 0, 0, 0, 0) := (pg_212 9).trans rfl
theorem f_212_10 : fe0 212 10 = some (.iload_n 1, 1, 0, 0, 0, 0, 0) := (pg_212 10).trans rfl
theorem f_212_11 : fe0 212 11 = some (.invokevirtual 316, 3, 138, 1, 0, 9, 5178) := (pg_212 11).trans rfl
theorem f_212_14 : fe0 212 14 = some (.iconst 2, 1, 0, 0, 0, 0, 0) := (pg_212 14).trans rfl
theorem f_212_15 : fe0 212 15 = some (.iadd, 1, 0, 0, 0, 0, 0) := (pg_212 15).trans rfl
theorem f_212_16 : fe0 212 16 = some (.iaload, 1, 0, 0, 0, 0, 0) := (pg_212 16).trans rfl
theorem f_212_17 : fe0 212 17 = some (.if_icmp .ge 146, 3, 0, 0, 0, 0, 0) := (pg_212 17).trans rfl
theorem f_212_20 : fe0 212 20 = some (.aload_n 0, 1, 0, 0, 0, 0, 0) := (pg_212 20).trans rfl
theorem f_212_21 : fe0 212 21 = some (.getfield 7, 3, 9, 0, 1, 0, 5024) := (pg_212 21).trans rfl
theorem f_212_24 : fe0 212 24 = some (.aload_n 0, 1, 0, 0, 0, 0, 0) := (pg_212 24).trans rfl
theorem f_212_25 : fe0 212 25 = some (.iload_n 1, 1, 0, 0, 0, 0, 0) := (pg_212 25).trans rfl
theorem f_212_26 : fe0 212 26 = some (.invokevirtual 316, 3, 138, 1, 0, 9, 5178) := (pg_212 26).trans rfl
theorem f_212_29 : fe0 212 29 = some (.iconst 4, 1, 0, 0, 0, 0, 0) := (pg_212 29).trans rfl
theorem f_212_30 : fe0 212 30 = some (.iadd, 1, 0, 0, 0, 0, 0) := (pg_212 30).trans rfl
theorem f_212_31 : fe0 212 31 = some (.iconst 2, 1, 0, 0, 0, 0, 0) := (pg_212 31).trans rfl
theorem f_212_32 : fe0 212 32 = some (.iload_n 3, 1, 0, 0, 0, 0, 0) := (pg_212 32).trans rfl
theorem f_212_33 : fe0 212 33 = some (.imul, 1, 0, 0, 0, 0, 0) := (pg_212 33).trans rfl
theorem f_212_34 : fe0 212 34 = some (.iadd, 1, 0, 0, 0, 0, 0) := (pg_212 34).trans rfl
theorem f_212_35 : fe0 212 35 = some (.iaload, 1, 0, 0, 0, 0, 0) := (pg_212 35).trans rfl
theorem f_212_36 : fe0 212 36 = some (.istore 4, 2, 0, 0, 0, 0, 0) := (pg_212 36).trans rfl
theorem f_212_38 : fe0 212 38 = some (.aload_n 0, 1, 0, 0, 0, 0, 0) := (pg_212 38).trans rfl
theorem f_212_39 : fe0 212 39 = some (.getfield 7, 3, 9, 0, 1, 0, 5024) := (pg_212 39).trans rfl
theorem f_212_42 : fe0 212 42 = some (.aload_n 0, 1, 0, 0, 0, 0, 0) := (pg_212 42).trans rfl
theorem f_212_43 : fe0 212 43 = some (.iload_n 1, 1, 0, 0, 0, 0, 0) := (pg_212 43).trans rfl
theorem f_212_44 : fe0 212 44 = some (.invokevirtual 316, 3, 138, 1, 0, 9, 5178) := (pg_212 44).trans rfl
theorem f_212_47 : fe0 212 47 = some (.iconst 4, 1, 0, 0, 0, 0, 0) := (pg_212 47).trans rfl
theorem f_212_48 : fe0 212 48 = some (.iadd, 1, 0, 0, 0, 0, 0) := (pg_212 48).trans rfl
theorem f_212_49 : fe0 212 49 = some (.iconst 2, 1, 0, 0, 0, 0, 0) := (pg_212 49).trans rfl
theorem f_212_50 : fe0 212 50 = some (.iload_n 3, 1, 0, 0, 0, 0, 0) := (pg_212 50).trans rfl
theorem f_212_51 : fe0 212 51 = some (.imul, 1, 0, 0, 0, 0, 0) := (pg_212 51).trans rfl
theorem f_212_52 : fe0 212 52 = some (.iadd, 1, 0, 0, 0, 0, 0) := (pg_212 52).trans rfl
theorem f_212_53 : fe0 212 53 = some (.iconst 1, 1, 0, 0, 0, 0, 0) := (pg_212 53).trans rfl
theorem f_212_54 : fe0 212 54 = some (.iadd, 1, 0, 0, 0, 0, 0) := (pg_212 54).trans rfl
theorem f_212_55 : fe0 212 55 = some (.iaload, 1, 0, 0, 0, 0, 0) := (pg_212 55).trans rfl
theorem f_212_56 : fe0 212 56 = some (.istore 5, 2, 0, 0, 0, 0, 0) := (pg_212 56).trans rfl
theorem f_212_58 : fe0 212 58 = some (.iload 4, 2, 0, 0, 0, 0, 0) := (pg_212 58).trans rfl
theorem f_212_60 : fe0 212 60 = some (.iconst 2, 1, 0, 0, 0, 0, 0) := (pg_212 60).trans rfl
theorem f_212_61 : fe0 212 61 = some (.if_icmp .eq 32, 3, 0, 0, 0, 0, 0) := (pg_212 61).trans rfl
theorem f_212_64 : fe0 212 64 = some (.aload_n 0, 1, 0, 0, 0, 0, 0) := (pg_212 64).trans rfl
theorem f_212_65 : fe0 212 65 = some (.getfield 68, 3, 9, 32, 1, 0, 5056) := (pg_212 65).trans rfl
theorem f_212_68 : fe0 212 68 = some (.iload_n 2, 1, 0, 0, 0, 0, 0) := (pg_212 68).trans rfl
theorem f_212_69 : fe0 212 69 = some (.iload 4, 2, 0, 0, 0, 0, 0) := (pg_212 69).trans rfl
theorem f_212_71 : fe0 212 71 = some (.ifCond .ne 8, 3, 0, 0, 0, 0, 0) := (pg_212 71).trans rfl
theorem f_212_74 : fe0 212 74 = some (.iload 5, 2, 0, 0, 0, 0, 0) := (pg_212 74).trans rfl
theorem f_212_76 : fe0 212 76 = some (.goto 10, 3, 0, 0, 0, 0, 0) := (pg_212 76).trans rfl
theorem f_212_79 : fe0 212 79 = some (.aload_n 0, 1, 0, 0, 0, 0, 0) := (pg_212 79).trans rfl
theorem f_212_80 : fe0 212 80 = some (.getfield 65, 3, 9, 31, 1, 0, 5055) := (pg_212 80).trans rfl
theorem f_212_83 : fe0 212 83 = some (.iload 5, 2, 0, 0, 0, 0, 0) := (pg_212 83).trans rfl
theorem f_212_85 : fe0 212 85 = some (.iaload, 1, 0, 0, 0, 0, 0) := (pg_212 85).trans rfl
theorem f_212_86 : fe0 212 86 = some (.iastore, 1, 0, 0, 0, 0, 0) := (pg_212 86).trans rfl
theorem f_212_87 : fe0 212 87 = some (.iinc 2 1, 3, 0, 0, 0, 0, 0) := (pg_212 87).trans rfl
theorem f_212_90 : fe0 212 90 = some (.goto 67, 3, 0, 0, 0, 0, 0) := (pg_212 90).trans rfl
theorem f_212_93 : fe0 212 93 = some (.iload 5, 2, 0, 0, 0, 0, 0) := (pg_212 93).trans rfl
theorem f_212_95 : fe0 212 95 = some (.bipush 33, 2, 0, 0, 0, 0, 0) := (pg_212 95).trans rfl
theorem f_212_97 : fe0 212 97 = some (.if_icmp .ne 30, 3, 0, 0, 0, 0, 0) := (pg_212 97).trans rfl
theorem f_212_100 : fe0 212 100 = some (.aload_n 0, 1, 0, 0, 0, 0, 0) := (pg_212 100).trans rfl
theorem f_212_101 : fe0 212 101 = some (.getfield 68, 3, 9, 32, 1, 0, 5056) := (pg_212 101).trans rfl
theorem f_212_104 : fe0 212 104 = some (.iload_n 2, 1, 0, 0, 0, 0, 0) := (pg_212 104).trans rfl
theorem f_212_105 : fe0 212 105 = some (.iconst 1, 1, 0, 0, 0, 0, 0) := (pg_212 105).trans rfl
theorem f_212_106 : fe0 212 106 = some (.isub, 1, 0, 0, 0, 0, 0) := (pg_212 106).trans rfl
theorem f_212_107 : fe0 212 107 = some (.aload_n 0, 1, 0, 0, 0, 0, 0) := (pg_212 107).trans rfl
theorem f_212_108 : fe0 212 108 = some (.getfield 68, 3, 9, 32, 1, 0, 5056) := (pg_212 108).trans rfl
theorem f_212_111 : fe0 212 111 = some (.iload_n 2, 1, 0, 0, 0, 0, 0) := (pg_212 111).trans rfl
theorem f_212_112 : fe0 212 112 = some (.iconst 1, 1, 0, 0, 0, 0, 0) := (pg_212 112).trans rfl
theorem f_212_113 : fe0 212 113 = some (.isub, 1, 0, 0, 0, 0, 0) := (pg_212 113).trans rfl
theorem f_212_114 : fe0 212 114 = some (.iaload, 1, 0, 0, 0, 0, 0) := (pg_212 114).trans rfl
theorem f_212_115 : fe0 212 115 = some (.ifCond .ne 7, 3, 0, 0, 0, 0, 0) := (pg_212 115).trans rfl
theorem f_212_118 : fe0 212 118 = some (.iconst 1, 1, 0, 0, 0, 0, 0) := (pg_212 118).trans rfl
theorem f_212_119 : fe0 212 119 = some (.goto 4, 3, 0, 0, 0, 0, 0) := (pg_212 119).trans rfl
theorem f_212_122 : fe0 212 122 = some (.iconst 0, 1, 0, 0, 0, 0, 0) := (pg_212 122).trans rfl
theorem f_212_123 : fe0 212 123 = some (.iastore, 1, 0, 0, 0, 0, 0) := (pg_212 123).trans rfl
theorem f_212_124 : fe0 212 124 = some (.goto 33, 3, 0, 0, 0, 0, 0) := (pg_212 124).trans rfl
theorem f_212_127 : fe0 212 127 = some (.iinc 2 (-1), 3, 0, 0, 0, 0, 0) := (pg_212 127).trans rfl
theorem f_212_130 : fe0 212 130 = some (.aload_n 0, 1, 0, 0, 0, 0, 0) := (pg_212 130).trans rfl
theorem f_212_131 : fe0 212 131 = some (.getfield 68, 3, 9, 32, 1, 0, 5056) := (pg_212 131).trans rfl
theorem f_212_134 : fe0 212 134 = some (.iload_n 2, 1, 0, 0, 0, 0, 0) := (pg_212 134).trans rfl
theorem f_212_135 : fe0 212 135 = some (.iconst 1, 1, 0, 0, 0, 0, 0) := (pg_212 135).trans rfl
theorem f_212_136 : fe0 212 136 = some (.isub, 1, 0, 0, 0, 0, 0) := (pg_212 136).trans rfl
theorem f_212_137 : fe0 212 137 = some (.iload 5, 2, 0, 0, 0, 0, 0) := (pg_212 137).trans rfl
theorem f_212_139 : fe0 212 139 = some (.aload_n 0, 1, 0, 0, 0, 0, 0) := (pg_212 139).trans rfl
theorem f_212_140 : fe0 212 140 = some (.getfield 68, 3, 9, 32, 1, 0, 5056) := (pg_212 140).trans rfl
theorem f_212_143 : fe0 212 143 = some (.iload_n 2, 1, 0, 0, 0, 0, 0) := (pg_212 143).trans rfl
theorem f_212_144 : fe0 212 144 = some (.iconst 1, 1, 0, 0, 0, 0, 0) := (pg_212 144).trans rfl
theorem f_212_145 : fe0 212 145 = some (.isub, 1, 0, 0, 0, 0, 0) := (pg_212 145).trans rfl
theorem f_212_146 : fe0 212 146 = some (.iaload, 1, 0, 0, 0, 0, 0) := (pg_212 146).trans rfl
theorem f_212_147 : fe0 212 147 = some (.aload_n 0, 1, 0, 0, 0, 0, 0) := (pg_212 147).trans rfl
theorem f_212_148 : fe0 212 148 = some (.getfield 68, 3, 9, 32, 1, 0, 5056) := (pg_212 148).trans rfl
theorem f_212_151 : fe0 212 151 = some (.iload_n 2, 1, 0, 0, 0, 0, 0) := (pg_212 151).trans rfl
theorem f_212_152 : fe0 212 152 = some (.iaload, 1, 0, 0, 0, 0, 0) := (pg_212 152).trans rfl
theorem f_212_153 : fe0 212 153 = some (.invokestatic 331, 3, 211, 3, 2, 0, 5190) := (pg_212 153).trans rfl
theorem f_212_156 : fe0 212 156 = some (.iastore, 1, 0, 0, 0, 0, 0) := (pg_212 156).trans rfl
theorem f_212_157 : fe0 212 157 = some (.iinc 3 1, 3, 0, 0, 0, 0, 0) := (pg_212 157).trans rfl
theorem f_212_160 : fe0 212 160 = some (.goto (-156), 3, 0, 0, 0, 0, 0) := (pg_212 160).trans rfl
theorem f_212_163 : fe0 212 163 = some (.aload_n 0, 1, 0, 0, 0, 0, 0) := (pg_212 163).trans rfl
theorem f_212_164 : fe0 212 164 = some (.getfield 68, 3, 9, 32, 1, 0, 5056) := (pg_212 164).trans rfl
theorem f_212_167 : fe0 212 167 = some (.iconst 0, 1, 0, 0, 0, 0, 0) := (pg_212 167).trans rfl
theorem f_212_168 : fe0 212 168 = some (.iaload, 1, 0, 0, 0, 0, 0) := (pg_212 168).trans rfl
theorem f_212_169 : fe0 212 169 = some (.ireturn, 1, 0, 0, 0, 0, 0) := (pg_212 169).trans rfl
theorem q_212_0 (d : Nat) (l0 : Nat) (x1 : Int32) (μ : aMem) : Rn (d + 1) 212 (0, [.ref l0, .int x1, un, un, un, un], [], μ) = Rn (d + 1) 212 (4, [.ref l0, .int x1, .int 0, .int 0, un, un], [], μ) :=
  (e_nx (q := (_, _, .int 0 :: _, _)) f_212_0 rfl).trans ((e_nx (q := (_, [.ref l0, .int x1, .int 0, un, un, un], _, _)) f_212_1 rfl).trans ((e_nx (q := (_, _, .int 0 :: _, _)) f_212_2 rfl).trans (e_nx (q := (_, [.ref l0, .int x1, .int 0, .int 0, un, un], _, _)) f_212_3 rfl)))
theorem q_212_4 (d : Nat) (l0 : Nat) (x1 : Int32) (x2 : Int32) (x3 : Int32) (w4 : Value) (w5 : Value) (μ : aMem) : Rn (d + 1) 212 (4, [.ref l0, .int x1, .int x2, .int x3, w4, w5], [], μ) = if (mS μ l0).1 = 9 then (if (mS μ l0).1 = 9 ∧ l0 < 999999 then ((cI d 138 [.ref l0, .int x1] μ).bind fun p2 => (rdI p2.2 (mR μ l0 0) (p2.1 + 2)).bind fun v4 => if v4 ≤ x3 then (if (mS p2.2 l0).1 = 9 then ((rdI p2.2 (mR p2.2 l0 32) 0).bind fun v7 => some (some (.int v7), p2.2)) else none) else (if (mS p2.2 l0).1 = 9 then (if (mS p2.2 l0).1 = 9 ∧ l0 < 999999 then ((cI d 138 [.ref l0, .int x1] p2.2).bind fun p9 => (rdI p9.2 (mR p2.2 l0 0) ((p9.1 + 4) + (2 * x3))).bind fun v11 => if (mS p9.2 l0).1 = 9 then (if (mS p9.2 l0).1 = 9 ∧ l0 < 999999 then ((cI d 138 [.ref l0, .int x1] p9.2).bind fun p13 => (rdI p13.2 (mR p9.2 l0 0) (((p13.1 + 4) + (2 * x3)) + 1)).bind fun v15 => if v11 = 2 then (if v15 = 33 then (if (mS p13.2 l0).1 = 9 then ((rdI p13.2 (mR p13.2 l0 32) (x2 - 1)).bind fun v19 => if v19 = 0 then (if (mS p13.2 (mR p13.2 l0 32)).1 = 10 ∧ inb (x2 - 1) (mS p13.2 (mR p13.2 l0 32)).2 then (Rn (d + 1) 212 (4, [.ref l0, .int x1, .int x2, .int (x3 + 1), .int v11, .int v15], [], setF p13.2 (mR p13.2 l0 32) (ix (x2 - 1)) 1)) else none) else (if (mS p13.2 (mR p13.2 l0 32)).1 = 10 ∧ inb (x2 - 1) (mS p13.2 (mR p13.2 l0 32)).2 then (Rn (d + 1) 212 (4, [.ref l0, .int x1, .int x2, .int (x3 + 1), .int v11, .int v15], [], setF p13.2 (mR p13.2 l0 32) (ix (x2 - 1)) 0)) else none)) else none) else (if (mS p13.2 l0).1 = 9 then ((rdI p13.2 (mR p13.2 l0 32) ((x2 + (-1)) - 1)).bind fun v24 => (rdI p13.2 (mR p13.2 l0 32) (x2 + (-1))).bind fun v25 => (cI d 211 [.int v15, .int v24, .int v25] p13.2).bind fun p26 => if (mS p26.2 (mR p13.2 l0 32)).1 = 10 ∧ inb ((x2 + (-1)) - 1) (mS p26.2 (mR p13.2 l0 32)).2 then (Rn (d + 1) 212 (4, [.ref l0, .int x1, .int (x2 + (-1)), .int (x3 + 1), .int v11, .int v15], [], setF p26.2 (mR p13.2 l0 32) (ix ((x2 + (-1)) - 1)) p26.1)) else none) else none)) else (if (mS p13.2 l0).1 = 9 then (if v11 = 0 then (if (mS p13.2 (mR p13.2 l0 32)).1 = 10 ∧ inb x2 (mS p13.2 (mR p13.2 l0 32)).2 then (Rn (d + 1) 212 (4, [.ref l0, .int x1, .int (x2 + 1), .int (x3 + 1), .int v11, .int v15], [], setF p13.2 (mR p13.2 l0 32) (ix x2) v15)) else none) else ((rdI p13.2 (mR p13.2 l0 31) v15).bind fun v31 => if (mS p13.2 (mR p13.2 l0 32)).1 = 10 ∧ inb x2 (mS p13.2 (mR p13.2 l0 32)).2 then (Rn (d + 1) 212 (4, [.ref l0, .int x1, .int (x2 + 1), .int (x3 + 1), .int v11, .int v15], [], setF p13.2 (mR p13.2 l0 32) (ix x2) v31)) else none)) else none)) else none) else none) else none) else none)) else none) else none :=
  (e_nx f_212_4 rfl).trans ((e_nx f_212_5 rfl).trans ((e_gd f_212_6 rfl).trans (g_congr (Iff.rfl) (fun h1 => (e_nx f_212_9 rfl).trans ((e_nx f_212_10 rfl).trans ((e_gI (L := [.ref l0, .int x1, .int x2, .int x3, w4, w5]) (st := [.int x1, .ref l0, .ref (mR μ l0 0), .int x3]) (μ := μ) (L' := [.ref l0, .int x1, .int x2, .int x3, w4, w5]) (st' := [.ref (mR μ l0 0), .int x3]) f_212_11 rfl rfl).trans (g_congr (v_c2 rfl (Nat.le_of_ble_eq_true rfl)) (fun h3 => m_congr fun p2 => (e_nx (q := (_, _, .int 2 :: _, _)) f_212_14 rfl).trans ((e_nx f_212_15 rfl).trans ((e_ia (L := [.ref l0, .int x1, .int x2, .int x3, w4, w5]) (r := [.int x3]) (μ := p2.2) f_212_16).trans (m_congr fun v4 => (e_ge f_212_17 rfl).trans (b_congr (fun h5 => (e_nx f_212_163 rfl).trans ((e_gd f_212_164 rfl).trans (g_congr (Iff.rfl) (fun h6 => (e_nx (q := (_, _, .int 0 :: _, _)) f_212_167 rfl).trans ((e_ia (L := [.ref l0, .int x1, .int x2, .int x3, w4, w5]) (r := []) (μ := p2.2) f_212_168).trans (m_congr fun v7 => e_rt f_212_169 rfl)))))) (fun h5 => (e_nx f_212_20 rfl).trans ((e_gd f_212_21 rfl).trans (g_congr (Iff.rfl) (fun h8 => (e_nx f_212_24 rfl).trans ((e_nx f_212_25 rfl).trans ((e_gI (L := [.ref l0, .int x1, .int x2, .int x3, w4, w5]) (st := [.int x1, .ref l0, .ref (mR p2.2 l0 0)]) (μ := p2.2) (L' := [.ref l0, .int x1, .int x2, .int x3, w4, w5]) (st' := [.ref (mR p2.2 l0 0)]) f_212_26 rfl rfl).trans (g_congr (v_c2 rfl (Nat.le_of_ble_eq_true rfl)) (fun h10 => m_congr fun p9 => (e_nx (q := (_, _, .int 4 :: _, _)) f_212_29 rfl).trans ((e_nx f_212_30 rfl).trans ((e_nx (q := (_, _, .int 2 :: _, _)) f_212_31 rfl).trans ((e_nx f_212_32 rfl).trans ((e_nx f_212_33 rfl).trans ((e_nx f_212_34 rfl).trans ((e_ia (L := [.ref l0, .int x1, .int x2, .int x3, w4, w5]) (r := []) (μ := p9.2) f_212_35).trans (m_congr fun v11 => (e_nx (q := (_, [.ref l0, .int x1, .int x2, .int x3, .int v11, w5], _, _)) f_212_36 rfl).trans ((e_nx f_212_38 rfl).trans ((e_gd f_212_39 rfl).trans (g_congr (Iff.rfl) (fun h12 => (e_nx f_212_42 rfl).trans ((e_nx f_212_43 rfl).trans ((e_gI (L := [.ref l0, .int x1, .int x2, .int x3, .int v11, w5]) (st := [.int x1, .ref l0, .ref (mR p9.2 l0 0)]) (μ := p9.2) (L' := [.ref l0, .int x1, .int x2, .int x3, .int v11, w5]) (st' := [.ref (mR p9.2 l0 0)]) f_212_44 rfl rfl).trans (g_congr (v_c2 rfl (Nat.le_of_ble_eq_true rfl)) (fun h14 => m_congr fun p13 => (e_nx (q := (_, _, .int 4 :: _, _)) f_212_47 rfl).trans ((e_nx f_212_48 rfl).trans ((e_nx (q := (_, _, .int 2 :: _, _)) f_212_49 rfl).trans ((e_nx f_212_50 rfl).trans ((e_nx f_212_51 rfl).trans ((e_nx f_212_52 rfl).trans ((e_nx (q := (_, _, .int 1 :: _, _)) f_212_53 rfl).trans ((e_nx f_212_54 rfl).trans ((e_ia (L := [.ref l0, .int x1, .int x2, .int x3, .int v11, w5]) (r := []) (μ := p13.2) f_212_55).trans (m_congr fun v15 => (e_nx (q := (_, [.ref l0, .int x1, .int x2, .int x3, .int v11, .int v15], _, _)) f_212_56 rfl).trans ((e_nx f_212_58 rfl).trans ((e_nx (q := (_, _, .int 2 :: _, _)) f_212_60 rfl).trans ((e_eq f_212_61 rfl).trans (b_congr (fun h16 => (e_nx f_212_93 rfl).trans ((e_nx (q := (_, _, .int 33 :: _, _)) f_212_95 rfl).trans ((e_ne f_212_97 rfl).trans (b_congr (fun h17 => (e_nx f_212_100 rfl).trans ((e_gd f_212_101 rfl).trans (g_congr (Iff.rfl) (fun h18 => (e_nx f_212_104 rfl).trans ((e_nx (q := (_, _, .int 1 :: _, _)) f_212_105 rfl).trans ((e_nx f_212_106 rfl).trans ((e_nx f_212_107 rfl).trans ((e_gk f_212_108 (h18) rfl).trans ((e_nx f_212_111 rfl).trans ((e_nx (q := (_, _, .int 1 :: _, _)) f_212_112 rfl).trans ((e_nx f_212_113 rfl).trans ((e_ia (L := [.ref l0, .int x1, .int x2, .int x3, .int v11, .int v15]) (r := [.int (x2 - 1), .ref (mR p13.2 l0 32)]) (μ := p13.2) f_212_114).trans (m_congr fun v19 => (e_ne f_212_115 rfl).trans (b_congr (fun h20 => (e_nx (q := (_, _, .int 1 :: _, _)) f_212_118 rfl).trans ((e_nx f_212_119 rfl).trans ((e_gd f_212_123 rfl).trans (g_congr (Iff.rfl) (fun h21 => (e_nx f_212_124 rfl).trans ((e_nx (q := (_, [.ref l0, .int x1, .int x2, .int (x3 + 1), .int v11, .int v15], _, _)) f_212_157 rfl).trans (e_nx f_212_160 rfl))))))) (fun h20 => (e_nx (q := (_, _, .int 0 :: _, _)) f_212_122 rfl).trans ((e_gd f_212_123 rfl).trans (g_congr (Iff.rfl) (fun h22 => (e_nx f_212_124 rfl).trans ((e_nx (q := (_, [.ref l0, .int x1, .int x2, .int (x3 + 1), .int v11, .int v15], _, _)) f_212_157 rfl).trans (e_nx f_212_160 rfl)))))))))))))))))))) (fun h17 => (e_nx (q := (_, [.ref l0, .int x1, .int (x2 + (-1)), .int x3, .int v11, .int v15], _, _)) f_212_127 rfl).trans ((e_nx f_212_130 rfl).trans ((e_gd f_212_131 rfl).trans (g_congr (Iff.rfl) (fun h23 => (e_nx f_212_134 rfl).trans ((e_nx (q := (_, _, .int 1 :: _, _)) f_212_135 rfl).trans ((e_nx f_212_136 rfl).trans ((e_nx f_212_137 rfl).trans ((e_nx f_212_139 rfl).trans ((e_gk f_212_140 (h23) rfl).trans ((e_nx f_212_143 rfl).trans ((e_nx (q := (_, _, .int 1 :: _, _)) f_212_144 rfl).trans ((e_nx f_212_145 rfl).trans ((e_ia (L := [.ref l0, .int x1, .int (x2 + (-1)), .int x3, .int v11, .int v15]) (r := [.int v15, .int ((x2 + (-1)) - 1), .ref (mR p13.2 l0 32)]) (μ := p13.2) f_212_146).trans (m_congr fun v24 => (e_nx f_212_147 rfl).trans ((e_gk f_212_148 (h23) rfl).trans ((e_nx f_212_151 rfl).trans ((e_ia (L := [.ref l0, .int x1, .int (x2 + (-1)), .int x3, .int v11, .int v15]) (r := [.int v24, .int v15, .int ((x2 + (-1)) - 1), .ref (mR p13.2 l0 32)]) (μ := p13.2) f_212_152).trans (m_congr fun v25 => (e_cI (L := [.ref l0, .int x1, .int (x2 + (-1)), .int x3, .int v11, .int v15]) (st := [.int v25, .int v24, .int v15, .int ((x2 + (-1)) - 1), .ref (mR p13.2 l0 32)]) (μ := p13.2) (L' := [.ref l0, .int x1, .int (x2 + (-1)), .int x3, .int v11, .int v15]) (st' := [.int ((x2 + (-1)) - 1), .ref (mR p13.2 l0 32)]) f_212_153 rfl rfl).trans (m_congr fun p26 => (e_gd f_212_156 rfl).trans (g_congr (Iff.rfl) (fun h27 => (e_nx (q := (_, [.ref l0, .int x1, .int (x2 + (-1)), .int (x3 + 1), .int v11, .int v15], _, _)) f_212_157 rfl).trans (e_nx f_212_160 rfl))))))))))))))))))))))))))) (fun h16 => (e_nx f_212_64 rfl).trans ((e_gd f_212_65 rfl).trans (g_congr (Iff.rfl) (fun h28 => (e_nx f_212_68 rfl).trans ((e_nx f_212_69 rfl).trans ((e_ne f_212_71 rfl).trans (b_congr (fun h29 => (e_nx f_212_74 rfl).trans ((e_nx f_212_76 rfl).trans ((e_gd f_212_86 rfl).trans (g_congr (Iff.rfl) (fun h30 => (e_nx (q := (_, [.ref l0, .int x1, .int (x2 + 1), .int x3, .int v11, .int v15], _, _)) f_212_87 rfl).trans ((e_nx f_212_90 rfl).trans ((e_nx (q := (_, [.ref l0, .int x1, .int (x2 + 1), .int (x3 + 1), .int v11, .int v15], _, _)) f_212_157 rfl).trans (e_nx f_212_160 rfl)))))))) (fun h29 => (e_nx f_212_79 rfl).trans ((e_gk f_212_80 (h28) rfl).trans ((e_nx f_212_83 rfl).trans ((e_ia (L := [.ref l0, .int x1, .int x2, .int x3, .int v11, .int v15]) (r := [.int x2, .ref (mR p13.2 l0 32)]) (μ := p13.2) f_212_85).trans (m_congr fun v31 => (e_gd f_212_86 rfl).trans (g_congr (Iff.rfl) (fun h32 => (e_nx (q := (_, [.ref l0, .int x1, .int (x2 + 1), .int x3, .int v11, .int v15], _, _)) f_212_87 rfl).trans ((e_nx f_212_90 rfl).trans ((e_nx (q := (_, [.ref l0, .int x1, .int (x2 + 1), .int (x3 + 1), .int v11, .int v15], _, _)) f_212_157 rfl).trans (e_nx f_212_160 rfl)))))))))))))))))))))))))))))))))))))))))))))))))))))))))))))))))
theorem pg_213 (pc : Nat) : fe0 213 pc = lk prg_213 pc := rfl
theorem f_213_0 : fe0 213 0 = some (.iload_n 0, 1, 0, 0, 0, 0, 0) := (pg_213 0).trans rfl
theorem f_213_1 : fe0 213 1 = some (.i2l, 1, 0, 0, 0, 0, 0) := (pg_213 1).trans rfl
theorem f_213_2 : fe0 213 2 = some (.lconst 0, 1, 0, 0, 0, 0, 0) := (pg_213 2).trans rfl
theorem f_213_3 : fe0 213 3 = some (.ldc2_w 170, 3, 0, 0, 3, 0, 6017) := (pg_213 3).trans rfl
theorem f_213_6 : fe0 213 6 = some (.invokestatic 84, 3, 133, 3, 2, 0, 5144) := (pg_213 6).trans rfl
theorem f_213_9 : fe0 213 9 = some (.ireturn, 1, 1, 0, 0, 0, 0) := (pg_213 9).trans rfl
theorem q_213_0 (d : Nat) (x0 : Int32) (μ : aMem) : Rn (d + 1) 213 (0, [.int x0], [], μ) = (cI d 133 [.long ((x0 : Int32).toInt64), .long 0, .long 3] μ).bind fun p1 => if p1.1 = 0 ∨ p1.1 = 1 then some (some (.int p1.1), p1.2) else none :=
  (e_nx f_213_0 rfl).trans ((e_nx f_213_1 rfl).trans ((e_nx (q := (_, _, .long 0 :: _, _)) f_213_2 rfl).trans ((e_nx (q := (_, _, .long 3 :: _, _)) f_213_3 rfl).trans ((e_cI (L := [.int x0]) (st := [.long 3, .long 0, .long ((x0 : Int32).toInt64)]) (μ := μ) (L' := [.int x0]) (st' := []) f_213_6 rfl rfl).trans (m_congr fun p1 => (e_rg f_213_9 rfl).trans (g_congr rt1_iff (fun _ => rfl)))))))
theorem pg_214 (pc : Nat) : fe0 214 pc = lk prg_214 pc := rfl
theorem f_214_0 : fe0 214 0 = some (.iload_n 1, 1, 0, 0, 0, 0, 0) := (pg_214 0).trans rfl
theorem f_214_1 : fe0 214 1 = some (.invokestatic 334, 3, 213, 1, 2, 0, 6233) := (pg_214 1).trans rfl
theorem f_214_4 : fe0 214 4 = some (.ifCond .eq 25, 3, 0, 0, 0, 0, 0) := (pg_214 4).trans rfl
theorem f_214_7 : fe0 214 7 = some (.iload_n 2, 1, 0, 0, 0, 0, 0) := (pg_214 7).trans rfl
theorem f_214_8 : fe0 214 8 = some (.i2l, 1, 0, 0, 0, 0, 0) := (pg_214 8).trans rfl
theorem f_214_9 : fe0 214 9 = some (.ldc2_w 180, 3, 0, 0, 18446744073709551615, 0, 6041) := (pg_214 9).trans rfl
theorem f_214_12 : fe0 214 12 = some (.lconst 1, 1, 0, 0, 0, 0, 0) := (pg_214 12).trans rfl
theorem f_214_13 : fe0 214 13 = some (.invokestatic 84, 3, 133, 3, 2, 0, 5144) := (pg_214 13).trans rfl
theorem f_214_16 : fe0 214 16 = some (.ifCond .eq 13, 3, 0, 0, 0, 0, 0) := (pg_214 16).trans rfl
theorem f_214_19 : fe0 214 19 = some (.iload_n 2, 1, 0, 0, 0, 0, 0) := (pg_214 19).trans rfl
theorem f_214_20 : fe0 214 20 = some (.ifCond .lt 12, 3, 0, 0, 0, 0, 0) := (pg_214 20).trans rfl
theorem f_214_23 : fe0 214 23 = some (.iload_n 3, 1, 0, 0, 0, 0, 0) := (pg_214 23).trans rfl
theorem f_214_24 : fe0 214 24 = some (.bipush 24, 2, 0, 0, 0, 0, 0) := (pg_214 24).trans rfl
theorem f_214_26 : fe0 214 26 = some (.if_icmp .le 6, 3, 0, 0, 0, 0, 0) := (pg_214 26).trans rfl
theorem f_214_29 : fe0 214 29 = some (.ldc 99, 2, 0, 0, 3294967295, 0, 5152) := (pg_214 29).trans rfl
theorem f_214_31 : fe0 214 31 = some (.ireturn, 1, 0, 0, 0, 0, 0) := (pg_214 31).trans rfl
theorem f_214_32 : fe0 214 32 = some (.iload_n 2, 1, 0, 0, 0, 0, 0) := (pg_214 32).trans rfl
theorem f_214_33 : fe0 214 33 = some (.ifCond .lt 11, 3, 0, 0, 0, 0, 0) := (pg_214 33).trans rfl
theorem f_214_36 : fe0 214 36 = some (.iload_n 3, 1, 0, 0, 0, 0, 0) := (pg_214 36).trans rfl
theorem f_214_37 : fe0 214 37 = some (.ifCond .ge 7, 3, 0, 0, 0, 0, 0) := (pg_214 37).trans rfl
theorem f_214_40 : fe0 214 40 = some (.ldc_w 337, 3, 0, 0, 3294967282, 0, 6236) := (pg_214 40).trans rfl
theorem f_214_43 : fe0 214 43 = some (.ireturn, 1, 0, 0, 0, 0, 0) := (pg_214 43).trans rfl
theorem f_214_44 : fe0 214 44 = some (.aload_n 0, 1, 0, 0, 0, 0, 0) := (pg_214 44).trans rfl
theorem f_214_45 : fe0 214 45 = some (.getfield 19, 3, 9, 4, 1, 0, 5028) := (pg_214 45).trans rfl
theorem f_214_48 : fe0 214 48 = some (.iload_n 1, 1, 0, 0, 0, 0, 0) := (pg_214 48).trans rfl
theorem f_214_49 : fe0 214 49 = some (.iload_n 2, 1, 0, 0, 0, 0, 0) := (pg_214 49).trans rfl
theorem f_214_50 : fe0 214 50 = some (.iastore, 1, 0, 0, 0, 0, 0) := (pg_214 50).trans rfl
theorem f_214_51 : fe0 214 51 = some (.aload_n 0, 1, 0, 0, 0, 0, 0) := (pg_214 51).trans rfl
theorem f_214_52 : fe0 214 52 = some (.getfield 22, 3, 9, 5, 1, 0, 5029) := (pg_214 52).trans rfl
theorem f_214_55 : fe0 214 55 = some (.iload_n 1, 1, 0, 0, 0, 0, 0) := (pg_214 55).trans rfl
theorem f_214_56 : fe0 214 56 = some (.iload_n 2, 1, 0, 0, 0, 0, 0) := (pg_214 56).trans rfl
theorem f_214_57 : fe0 214 57 = some (.ifCond .ge 7, 3, 0, 0, 0, 0, 0) := (pg_214 57).trans rfl
theorem f_214_60 : fe0 214 60 = some (.iconst 0, 1, 0, 0, 0, 0, 0) := (pg_214 60).trans rfl
theorem f_214_61 : fe0 214 61 = some (.goto 4, 3, 0, 0, 0, 0, 0) := (pg_214 61).trans rfl
theorem f_214_64 : fe0 214 64 = some (.iload_n 3, 1, 0, 0, 0, 0, 0) := (pg_214 64).trans rfl
theorem f_214_65 : fe0 214 65 = some (.iastore, 1, 0, 0, 0, 0, 0) := (pg_214 65).trans rfl
theorem f_214_66 : fe0 214 66 = some (.iconst 0, 1, 0, 0, 0, 0, 0) := (pg_214 66).trans rfl
theorem f_214_67 : fe0 214 67 = some (.istore 4, 2, 0, 0, 0, 0, 0) := (pg_214 67).trans rfl
theorem f_214_69 : fe0 214 69 = some (.iload 4, 2, 0, 0, 0, 0, 0) := (pg_214 69).trans rfl
theorem f_214_71 : fe0 214 71 = some (.bipush 24, 2, 0, 0, 0, 0, 0) := (pg_214 71).trans rfl
theorem f_214_73 : fe0 214 73 = some (.if_icmp .ge 22, 3, 0, 0, 0, 0, 0) := (pg_214 73).trans rfl
theorem f_214_76 : fe0 214 76 = some (.aload_n 0, 1, 0, 0, 0, 0, 0) := (pg_214 76).trans rfl
theorem f_214_77 : fe0 214 77 = some (.getfield 25, 3, 9, 6, 1, 0, 5030) := (pg_214 77).trans rfl
theorem f_214_80 : fe0 214 80 = some (.bipush 24, 2, 0, 0, 0, 0, 0) := (pg_214 80).trans rfl
theorem f_214_82 : fe0 214 82 = some (.iload_n 1, 1, 0, 0, 0, 0, 0) := (pg_214 82).trans rfl
theorem f_214_83 : fe0 214 83 = some (.imul, 1, 0, 0, 0, 0, 0) := (pg_214 83).trans rfl
theorem f_214_84 : fe0 214 84 = some (.iload 4, 2, 0, 0, 0, 0, 0) := (pg_214 84).trans rfl
theorem f_214_86 : fe0 214 86 = some (.iadd, 1, 0, 0, 0, 0, 0) := (pg_214 86).trans rfl
theorem f_214_87 : fe0 214 87 = some (.iconst 0, 1, 0, 0, 0, 0, 0) := (pg_214 87).trans rfl
theorem f_214_88 : fe0 214 88 = some (.iastore, 1, 0, 0, 0, 0, 0) := (pg_214 88).trans rfl
theorem f_214_89 : fe0 214 89 = some (.iinc 4 1, 3, 0, 0, 0, 0, 0) := (pg_214 89).trans rfl
theorem f_214_92 : fe0 214 92 = some (.goto (-23), 3, 0, 0, 0, 0, 0) := (pg_214 92).trans rfl
theorem f_214_95 : fe0 214 95 = some (.aload_n 0, 1, 0, 0, 0, 0, 0) := (pg_214 95).trans rfl
theorem f_214_96 : fe0 214 96 = some (.getfield 22, 3, 9, 5, 1, 0, 5029) := (pg_214 96).trans rfl
theorem f_214_99 : fe0 214 99 = some (.iload_n 1, 1, 0, 0, 0, 0, 0) := (pg_214 99).trans rfl
theorem f_214_100 : fe0 214 100 = some (.iaload, 1, 0, 0, 0, 0, 0) := (pg_214 100).trans rfl
theorem f_214_101 : fe0 214 101 = some (.ireturn, 1, 0, 0, 0, 0, 0) := (pg_214 101).trans rfl
theorem q_214_0 (d : Nat) (l0 : Nat) (x1 : Int32) (x2 : Int32) (x3 : Int32) (μ : aMem) : Rn (d + 1) 214 (0, [.ref l0, .int x1, .int x2, .int x3, un], [], μ) = (cI d 213 [.int x1] μ).bind fun p1 => if p1.1 = 0 then (some (some (.int (-1000000001)), p1.2)) else ((cI d 133 [.long ((x2 : Int32).toInt64), .long (-1), .long 1] p1.2).bind fun p3 => if p3.1 = 0 then (some (some (.int (-1000000001)), p3.2)) else (if x2 < 0 then (if (mS p3.2 l0).1 = 9 then (if (mS p3.2 (mR p3.2 l0 4)).1 = 10 ∧ inb x1 (mS p3.2 (mR p3.2 l0 4)).2 then (if 0 ≤ x2 then (if (mS p3.2 (mR p3.2 l0 5)).1 = 10 ∧ inb x1 (mS p3.2 (mR p3.2 l0 5)).2 then (Rn (d + 1) 214 (69, [.ref l0, .int x1, .int x2, .int x3, .int 0], [], setF (setF p3.2 (mR p3.2 l0 4) (ix x1) x2) (mR p3.2 l0 5) (ix x1) x3)) else none) else (if (mS p3.2 (mR p3.2 l0 5)).1 = 10 ∧ inb x1 (mS p3.2 (mR p3.2 l0 5)).2 then (Rn (d + 1) 214 (69, [.ref l0, .int x1, .int x2, .int x3, .int 0], [], setF (setF p3.2 (mR p3.2 l0 4) (ix x1) x2) (mR p3.2 l0 5) (ix x1) 0)) else none)) else none) else none) else (if x3 ≤ 24 then (if 0 ≤ x3 then (if (mS p3.2 l0).1 = 9 then (if (mS p3.2 (mR p3.2 l0 4)).1 = 10 ∧ inb x1 (mS p3.2 (mR p3.2 l0 4)).2 then (if 0 ≤ x2 then (if (mS p3.2 (mR p3.2 l0 5)).1 = 10 ∧ inb x1 (mS p3.2 (mR p3.2 l0 5)).2 then (Rn (d + 1) 214 (69, [.ref l0, .int x1, .int x2, .int x3, .int 0], [], setF (setF p3.2 (mR p3.2 l0 4) (ix x1) x2) (mR p3.2 l0 5) (ix x1) x3)) else none) else (if (mS p3.2 (mR p3.2 l0 5)).1 = 10 ∧ inb x1 (mS p3.2 (mR p3.2 l0 5)).2 then (Rn (d + 1) 214 (69, [.ref l0, .int x1, .int x2, .int x3, .int 0], [], setF (setF p3.2 (mR p3.2 l0 4) (ix x1) x2) (mR p3.2 l0 5) (ix x1) 0)) else none)) else none) else none) else (some (some (.int (-1000000014)), p3.2))) else (some (some (.int (-1000000001)), p3.2))))) :=
  (e_nx f_214_0 rfl).trans ((e_cI (L := [.ref l0, .int x1, .int x2, .int x3, un]) (st := [.int x1]) (μ := μ) (L' := [.ref l0, .int x1, .int x2, .int x3, un]) (st' := []) f_214_1 rfl rfl).trans (m_congr fun p1 => (e_eq f_214_4 rfl).trans (b_congr (fun h2 => (e_nx (q := (_, _, .int (-1000000001) :: _, _)) f_214_29 rfl).trans (e_rt f_214_31 rfl)) (fun h2 => (e_nx f_214_7 rfl).trans ((e_nx f_214_8 rfl).trans ((e_nx (q := (_, _, .long (-1) :: _, _)) f_214_9 rfl).trans ((e_nx (q := (_, _, .long 1 :: _, _)) f_214_12 rfl).trans ((e_cI (L := [.ref l0, .int x1, .int x2, .int x3, un]) (st := [.long 1, .long (-1), .long ((x2 : Int32).toInt64)]) (μ := p1.2) (L' := [.ref l0, .int x1, .int x2, .int x3, un]) (st' := []) f_214_13 rfl rfl).trans (m_congr fun p3 => (e_eq f_214_16 rfl).trans (b_congr (fun h4 => (e_nx (q := (_, _, .int (-1000000001) :: _, _)) f_214_29 rfl).trans (e_rt f_214_31 rfl)) (fun h4 => (e_nx f_214_19 rfl).trans ((e_lt f_214_20 rfl).trans (b_congr (fun h5 => (e_nx f_214_32 rfl).trans (((e_lt f_214_33 rfl).trans (if_pos h5)).trans ((e_nx f_214_44 rfl).trans ((e_gd f_214_45 rfl).trans (g_congr (Iff.rfl) (fun h7 => (e_nx f_214_48 rfl).trans ((e_nx f_214_49 rfl).trans ((e_gd f_214_50 rfl).trans (g_congr (Iff.rfl) (fun h8 => (e_nx f_214_51 rfl).trans ((e_gk f_214_52 (h7) rfl).trans ((e_nx f_214_55 rfl).trans ((e_nx f_214_56 rfl).trans ((e_ge f_214_57 rfl).trans (b_congr (fun h9 => (e_nx f_214_64 rfl).trans ((e_gd f_214_65 rfl).trans (g_congr (Iff.rfl) (fun h10 => (e_nx (q := (_, _, .int 0 :: _, _)) f_214_66 rfl).trans (e_nx (q := (_, [.ref l0, .int x1, .int x2, .int x3, .int 0], _, _)) f_214_67 rfl))))) (fun h9 => (e_nx (q := (_, _, .int 0 :: _, _)) f_214_60 rfl).trans ((e_nx f_214_61 rfl).trans ((e_gd f_214_65 rfl).trans (g_congr (Iff.rfl) (fun h11 => (e_nx (q := (_, _, .int 0 :: _, _)) f_214_66 rfl).trans (e_nx (q := (_, [.ref l0, .int x1, .int x2, .int x3, .int 0], _, _)) f_214_67 rfl))))))))))))))))))))) (fun h5 => (e_nx f_214_23 rfl).trans ((e_nx (q := (_, _, .int 24 :: _, _)) f_214_24 rfl).trans ((e_le f_214_26 rfl).trans (b_congr (fun h12 => (e_nx f_214_32 rfl).trans (((e_lt f_214_33 rfl).trans (if_neg h5)).trans ((e_nx f_214_36 rfl).trans ((e_ge f_214_37 rfl).trans (b_congr (fun h14 => (e_nx f_214_44 rfl).trans ((e_gd f_214_45 rfl).trans (g_congr (Iff.rfl) (fun h15 => (e_nx f_214_48 rfl).trans ((e_nx f_214_49 rfl).trans ((e_gd f_214_50 rfl).trans (g_congr (Iff.rfl) (fun h16 => (e_nx f_214_51 rfl).trans ((e_gk f_214_52 (h15) rfl).trans ((e_nx f_214_55 rfl).trans ((e_nx f_214_56 rfl).trans ((e_ge f_214_57 rfl).trans (b_congr (fun h17 => (e_nx f_214_64 rfl).trans ((e_gd f_214_65 rfl).trans (g_congr (Iff.rfl) (fun h18 => (e_nx (q := (_, _, .int 0 :: _, _)) f_214_66 rfl).trans (e_nx (q := (_, [.ref l0, .int x1, .int x2, .int x3, .int 0], _, _)) f_214_67 rfl))))) (fun h17 => (e_nx (q := (_, _, .int 0 :: _, _)) f_214_60 rfl).trans ((e_nx f_214_61 rfl).trans ((e_gd f_214_65 rfl).trans (g_congr (Iff.rfl) (fun h19 => (e_nx (q := (_, _, .int 0 :: _, _)) f_214_66 rfl).trans (e_nx (q := (_, [.ref l0, .int x1, .int x2, .int x3, .int 0], _, _)) f_214_67 rfl))))))))))))))))))) (fun h14 => (e_nx (q := (_, _, .int (-1000000014) :: _, _)) f_214_40 rfl).trans (e_rt f_214_43 rfl))))))) (fun h12 => (e_nx (q := (_, _, .int (-1000000001) :: _, _)) f_214_29 rfl).trans (e_rt f_214_31 rfl)))))))))))))))))))
theorem q_214_69 (d : Nat) (l0 : Nat) (x1 : Int32) (x2 : Int32) (x3 : Int32) (x4 : Int32) (μ : aMem) : Rn (d + 1) 214 (69, [.ref l0, .int x1, .int x2, .int x3, .int x4], [], μ) = if 24 ≤ x4 then (if (mS μ l0).1 = 9 then ((rdI μ (mR μ l0 5) x1).bind fun v3 => some (some (.int v3), μ)) else none) else (if (mS μ l0).1 = 9 then (if (mS μ (mR μ l0 6)).1 = 10 ∧ inb ((24 * x1) + x4) (mS μ (mR μ l0 6)).2 then (Rn (d + 1) 214 (69, [.ref l0, .int x1, .int x2, .int x3, .int (x4 + 1)], [], setF μ (mR μ l0 6) (ix ((24 * x1) + x4)) 0)) else none) else none) :=
  (e_nx f_214_69 rfl).trans ((e_nx (q := (_, _, .int 24 :: _, _)) f_214_71 rfl).trans ((e_ge f_214_73 rfl).trans (b_congr (fun h1 => (e_nx f_214_95 rfl).trans ((e_gd f_214_96 rfl).trans (g_congr (Iff.rfl) (fun h2 => (e_nx f_214_99 rfl).trans ((e_ia (L := [.ref l0, .int x1, .int x2, .int x3, .int x4]) (r := []) (μ := μ) f_214_100).trans (m_congr fun v3 => e_rt f_214_101 rfl)))))) (fun h1 => (e_nx f_214_76 rfl).trans ((e_gd f_214_77 rfl).trans (g_congr (Iff.rfl) (fun h4 => (e_nx (q := (_, _, .int 24 :: _, _)) f_214_80 rfl).trans ((e_nx f_214_82 rfl).trans ((e_nx f_214_83 rfl).trans ((e_nx f_214_84 rfl).trans ((e_nx f_214_86 rfl).trans ((e_nx (q := (_, _, .int 0 :: _, _)) f_214_87 rfl).trans ((e_gd f_214_88 rfl).trans (g_congr (Iff.rfl) (fun h5 => (e_nx (q := (_, [.ref l0, .int x1, .int x2, .int x3, .int (x4 + 1)], _, _)) f_214_89 rfl).trans (e_nx f_214_92 rfl))))))))))))))))
theorem pg_215 (pc : Nat) : fe0 215 pc = lk prg_215 pc := rfl
theorem f_215_0 : fe0 215 0 = some (.iload_n 1, 1, 0, 0, 0, 0, 0) := (pg_215 0).trans rfl
theorem f_215_1 : fe0 215 1 = some (.invokestatic 334, 3, 213, 1, 2, 0, 6233) := (pg_215 1).trans rfl
theorem f_215_4 : fe0 215 4 = some (.ifCond .ne 6, 3, 0, 0, 0, 0, 0) := (pg_215 4).trans rfl
theorem f_215_7 : fe0 215 7 = some (.ldc 99, 2, 0, 0, 3294967295, 0, 5152) := (pg_215 7).trans rfl
theorem f_215_9 : fe0 215 9 = some (.ireturn, 1, 0, 0, 0, 0, 0) := (pg_215 9).trans rfl
theorem f_215_10 : fe0 215 10 = some (.aload_n 0, 1, 0, 0, 0, 0, 0) := (pg_215 10).trans rfl
theorem f_215_11 : fe0 215 11 = some (.getfield 19, 3, 9, 4, 1, 0, 5028) := (pg_215 11).trans rfl
theorem f_215_14 : fe0 215 14 = some (.iload_n 1, 1, 0, 0, 0, 0, 0) := (pg_215 14).trans rfl
theorem f_215_15 : fe0 215 15 = some (.iaload, 1, 0, 0, 0, 0, 0) := (pg_215 15).trans rfl
theorem f_215_16 : fe0 215 16 = some (.ifCond .ge 7, 3, 0, 0, 0, 0, 0) := (pg_215 16).trans rfl
theorem f_215_19 : fe0 215 19 = some (.ldc_w 338, 3, 0, 0, 3294967285, 0, 7001) := (pg_215 19).trans rfl
theorem f_215_22 : fe0 215 22 = some (.ireturn, 1, 0, 0, 0, 0, 0) := (pg_215 22).trans rfl
theorem f_215_23 : fe0 215 23 = some (.iload_n 2, 1, 0, 0, 0, 0, 0) := (pg_215 23).trans rfl
theorem f_215_24 : fe0 215 24 = some (.i2l, 1, 0, 0, 0, 0, 0) := (pg_215 24).trans rfl
theorem f_215_25 : fe0 215 25 = some (.lconst 0, 1, 0, 0, 0, 0, 0) := (pg_215 25).trans rfl
theorem f_215_26 : fe0 215 26 = some (.aload_n 0, 1, 0, 0, 0, 0, 0) := (pg_215 26).trans rfl
theorem f_215_27 : fe0 215 27 = some (.getfield 22, 3, 9, 5, 1, 0, 5029) := (pg_215 27).trans rfl
theorem f_215_30 : fe0 215 30 = some (.iload_n 1, 1, 0, 0, 0, 0, 0) := (pg_215 30).trans rfl
theorem f_215_31 : fe0 215 31 = some (.iaload, 1, 0, 0, 0, 0, 0) := (pg_215 31).trans rfl
theorem f_215_32 : fe0 215 32 = some (.iconst 1, 1, 0, 0, 0, 0, 0) := (pg_215 32).trans rfl
theorem f_215_33 : fe0 215 33 = some (.isub, 1, 0, 0, 0, 0, 0) := (pg_215 33).trans rfl
theorem f_215_34 : fe0 215 34 = some (.i2l, 1, 0, 0, 0, 0, 0) := (pg_215 34).trans rfl
theorem f_215_35 : fe0 215 35 = some (.invokestatic 84, 3, 133, 3, 2, 0, 5144) := (pg_215 35).trans rfl
theorem f_215_38 : fe0 215 38 = some (.ifCond .ne 7, 3, 0, 0, 0, 0, 0) := (pg_215 38).trans rfl
theorem f_215_41 : fe0 215 41 = some (.ldc_w 339, 3, 0, 0, 3294967283, 0, 7002) := (pg_215 41).trans rfl
theorem f_215_44 : fe0 215 44 = some (.ireturn, 1, 0, 0, 0, 0, 0) := (pg_215 44).trans rfl
theorem f_215_45 : fe0 215 45 = some (.aload_n 0, 1, 0, 0, 0, 0, 0) := (pg_215 45).trans rfl
theorem f_215_46 : fe0 215 46 = some (.getfield 19, 3, 9, 4, 1, 0, 5028) := (pg_215 46).trans rfl
theorem f_215_49 : fe0 215 49 = some (.iload_n 1, 1, 0, 0, 0, 0, 0) := (pg_215 49).trans rfl
theorem f_215_50 : fe0 215 50 = some (.iaload, 1, 0, 0, 0, 0, 0) := (pg_215 50).trans rfl
theorem f_215_51 : fe0 215 51 = some (.ifCond .ne 12, 3, 0, 0, 0, 0, 0) := (pg_215 51).trans rfl
theorem f_215_54 : fe0 215 54 = some (.iload_n 3, 1, 0, 0, 0, 0, 0) := (pg_215 54).trans rfl
theorem f_215_55 : fe0 215 55 = some (.ldc 83, 2, 0, 0, 3294967291, 0, 6036) := (pg_215 55).trans rfl
theorem f_215_57 : fe0 215 57 = some (.if_icmp .ne 6, 3, 0, 0, 0, 0, 0) := (pg_215 57).trans rfl
theorem f_215_60 : fe0 215 60 = some (.ldc 166, 2, 0, 0, 3294967284, 0, 6004) := (pg_215 60).trans rfl
theorem f_215_62 : fe0 215 62 = some (.ireturn, 1, 0, 0, 0, 0, 0) := (pg_215 62).trans rfl
theorem f_215_63 : fe0 215 63 = some (.aload_n 0, 1, 0, 0, 0, 0, 0) := (pg_215 63).trans rfl
theorem f_215_64 : fe0 215 64 = some (.getfield 19, 3, 9, 4, 1, 0, 5028) := (pg_215 64).trans rfl
theorem f_215_67 : fe0 215 67 = some (.iload_n 1, 1, 0, 0, 0, 0, 0) := (pg_215 67).trans rfl
theorem f_215_68 : fe0 215 68 = some (.iaload, 1, 0, 0, 0, 0, 0) := (pg_215 68).trans rfl
theorem f_215_69 : fe0 215 69 = some (.iconst 1, 1, 0, 0, 0, 0, 0) := (pg_215 69).trans rfl
theorem f_215_70 : fe0 215 70 = some (.if_icmp .ne 26, 3, 0, 0, 0, 0, 0) := (pg_215 70).trans rfl
theorem f_215_73 : fe0 215 73 = some (.iload_n 3, 1, 0, 0, 0, 0, 0) := (pg_215 73).trans rfl
theorem f_215_74 : fe0 215 74 = some (.ldc 83, 2, 0, 0, 3294967291, 0, 6036) := (pg_215 74).trans rfl
theorem f_215_76 : fe0 215 76 = some (.if_icmp .eq 20, 3, 0, 0, 0, 0, 0) := (pg_215 76).trans rfl
theorem f_215_79 : fe0 215 79 = some (.iload_n 3, 1, 0, 0, 0, 0, 0) := (pg_215 79).trans rfl
theorem f_215_80 : fe0 215 80 = some (.i2l, 1, 0, 0, 0, 0, 0) := (pg_215 80).trans rfl
theorem f_215_81 : fe0 215 81 = some (.ldc2_w 340, 3, 0, 0, 18446744073709451617, 0, 7003) := (pg_215 81).trans rfl
theorem f_215_84 : fe0 215 84 = some (.ldc2_w 342, 3, 0, 0, 99999, 0, 7004) := (pg_215 84).trans rfl
theorem f_215_87 : fe0 215 87 = some (.invokestatic 84, 3, 133, 3, 2, 0, 5144) := (pg_215 87).trans rfl
theorem f_215_90 : fe0 215 90 = some (.ifCond .ne 6, 3, 0, 0, 0, 0, 0) := (pg_215 90).trans rfl
theorem f_215_93 : fe0 215 93 = some (.ldc 99, 2, 0, 0, 3294967295, 0, 5152) := (pg_215 93).trans rfl
theorem f_215_95 : fe0 215 95 = some (.ireturn, 1, 0, 0, 0, 0, 0) := (pg_215 95).trans rfl
theorem f_215_96 : fe0 215 96 = some (.aload_n 0, 1, 0, 0, 0, 0, 0) := (pg_215 96).trans rfl
theorem f_215_97 : fe0 215 97 = some (.getfield 25, 3, 9, 6, 1, 0, 5030) := (pg_215 97).trans rfl
theorem f_215_100 : fe0 215 100 = some (.bipush 24, 2, 0, 0, 0, 0, 0) := (pg_215 100).trans rfl
theorem f_215_102 : fe0 215 102 = some (.iload_n 1, 1, 0, 0, 0, 0, 0) := (pg_215 102).trans rfl
theorem f_215_103 : fe0 215 103 = some (.imul, 1, 0, 0, 0, 0, 0) := (pg_215 103).trans rfl
theorem f_215_104 : fe0 215 104 = some (.iload_n 2, 1, 0, 0, 0, 0, 0) := (pg_215 104).trans rfl
theorem f_215_105 : fe0 215 105 = some (.iadd, 1, 0, 0, 0, 0, 0) := (pg_215 105).trans rfl
theorem f_215_106 : fe0 215 106 = some (.aload_n 0, 1, 0, 0, 0, 0, 0) := (pg_215 106).trans rfl
theorem f_215_107 : fe0 215 107 = some (.getfield 19, 3, 9, 4, 1, 0, 5028) := (pg_215 107).trans rfl
theorem f_215_110 : fe0 215 110 = some (.iload_n 1, 1, 0, 0, 0, 0, 0) := (pg_215 110).trans rfl
theorem f_215_111 : fe0 215 111 = some (.iaload, 1, 0, 0, 0, 0, 0) := (pg_215 111).trans rfl
theorem f_215_112 : fe0 215 112 = some (.ifCond .ne 13, 3, 0, 0, 0, 0, 0) := (pg_215 112).trans rfl
theorem f_215_115 : fe0 215 115 = some (.iload_n 3, 1, 0, 0, 0, 0, 0) := (pg_215 115).trans rfl
theorem f_215_116 : fe0 215 116 = some (.bipush 16, 2, 0, 0, 0, 0, 0) := (pg_215 116).trans rfl
theorem f_215_118 : fe0 215 118 = some (.ishl, 1, 0, 0, 0, 0, 0) := (pg_215 118).trans rfl
theorem f_215_119 : fe0 215 119 = some (.bipush 16, 2, 0, 0, 0, 0, 0) := (pg_215 119).trans rfl
theorem f_215_121 : fe0 215 121 = some (.ishr, 1, 0, 0, 0, 0, 0) := (pg_215 121).trans rfl
theorem f_215_122 : fe0 215 122 = some (.goto 4, 3, 0, 0, 0, 0, 0) := (pg_215 122).trans rfl
theorem f_215_125 : fe0 215 125 = some (.iload_n 3, 1, 0, 0, 0, 0, 0) := (pg_215 125).trans rfl
theorem f_215_126 : fe0 215 126 = some (.iastore, 1, 0, 0, 0, 0, 0) := (pg_215 126).trans rfl
theorem f_215_127 : fe0 215 127 = some (.iconst 1, 1, 0, 0, 0, 0, 0) := (pg_215 127).trans rfl
theorem f_215_128 : fe0 215 128 = some (.ireturn, 1, 0, 0, 0, 0, 0) := (pg_215 128).trans rfl
theorem q_215_0 (d : Nat) (l0 : Nat) (x1 : Int32) (x2 : Int32) (x3 : Int32) (μ : aMem) : Rn (d + 1) 215 (0, [.ref l0, .int x1, .int x2, .int x3], [], μ) = (cI d 213 [.int x1] μ).bind fun p1 => if p1.1 = 0 then (some (some (.int (-1000000001)), p1.2)) else (if (mS p1.2 l0).1 = 9 then ((rdI p1.2 (mR p1.2 l0 4) x1).bind fun v4 => if 0 ≤ v4 then ((rdI p1.2 (mR p1.2 l0 5) x1).bind fun v6 => (cI d 133 [.long ((x2 : Int32).toInt64), .long 0, .long ((v6 - 1 : Int32).toInt64)] p1.2).bind fun p7 => if p7.1 = 0 then (some (some (.int (-1000000013)), p7.2)) else (if (mS p7.2 l0).1 = 9 then ((rdI p7.2 (mR p7.2 l0 4) x1).bind fun v10 => if v10 = 0 then (if x3 = (-1000000005) then (some (some (.int (-1000000012)), p7.2)) else ((rdI p7.2 (mR p7.2 l0 4) x1).bind fun v13 => if v13 = 1 then ((cI d 133 [.long ((x3 : Int32).toInt64), .long (-99999), .long 99999] p7.2).bind fun p16 => if p16.1 = 0 then (some (some (.int (-1000000001)), p16.2)) else (if (mS p16.2 l0).1 = 9 then ((rdI p16.2 (mR p16.2 l0 4) x1).bind fun v19 => if v19 = 0 then (if (mS p16.2 (mR p16.2 l0 6)).1 = 10 ∧ inb ((24 * x1) + x2) (mS p16.2 (mR p16.2 l0 6)).2 then (some (some (.int 1), setF p16.2 (mR p16.2 l0 6) (ix ((24 * x1) + x2)) ((x3 <<< (16 &&& 31)) >>> (16 &&& 31)))) else none) else (if (mS p16.2 (mR p16.2 l0 6)).1 = 10 ∧ inb ((24 * x1) + x2) (mS p16.2 (mR p16.2 l0 6)).2 then (some (some (.int 1), setF p16.2 (mR p16.2 l0 6) (ix ((24 * x1) + x2)) x3)) else none)) else none)) else ((rdI p7.2 (mR p7.2 l0 4) x1).bind fun v23 => if v23 = 0 then (if (mS p7.2 (mR p7.2 l0 6)).1 = 10 ∧ inb ((24 * x1) + x2) (mS p7.2 (mR p7.2 l0 6)).2 then (some (some (.int 1), setF p7.2 (mR p7.2 l0 6) (ix ((24 * x1) + x2)) ((x3 <<< (16 &&& 31)) >>> (16 &&& 31)))) else none) else (if (mS p7.2 (mR p7.2 l0 6)).1 = 10 ∧ inb ((24 * x1) + x2) (mS p7.2 (mR p7.2 l0 6)).2 then (some (some (.int 1), setF p7.2 (mR p7.2 l0 6) (ix ((24 * x1) + x2)) x3)) else none)))) else ((rdI p7.2 (mR p7.2 l0 4) x1).bind fun v27 => if v27 = 1 then (if x3 = (-1000000005) then ((rdI p7.2 (mR p7.2 l0 4) x1).bind fun v30 => if v30 = 0 then (if (mS p7.2 (mR p7.2 l0 6)).1 = 10 ∧ inb ((24 * x1) + x2) (mS p7.2 (mR p7.2 l0 6)).2 then (some (some (.int 1), setF p7.2 (mR p7.2 l0 6) (ix ((24 * x1) + x2)) ((x3 <<< (16 &&& 31)) >>> (16 &&& 31)))) else none) else (if (mS p7.2 (mR p7.2 l0 6)).1 = 10 ∧ inb ((24 * x1) + x2) (mS p7.2 (mR p7.2 l0 6)).2 then (some (some (.int 1), setF p7.2 (mR p7.2 l0 6) (ix ((24 * x1) + x2)) x3)) else none)) else ((cI d 133 [.long ((x3 : Int32).toInt64), .long (-99999), .long 99999] p7.2).bind fun p34 => if p34.1 = 0 then (some (some (.int (-1000000001)), p34.2)) else (if (mS p34.2 l0).1 = 9 then ((rdI p34.2 (mR p34.2 l0 4) x1).bind fun v37 => if v37 = 0 then (if (mS p34.2 (mR p34.2 l0 6)).1 = 10 ∧ inb ((24 * x1) + x2) (mS p34.2 (mR p34.2 l0 6)).2 then (some (some (.int 1), setF p34.2 (mR p34.2 l0 6) (ix ((24 * x1) + x2)) ((x3 <<< (16 &&& 31)) >>> (16 &&& 31)))) else none) else (if (mS p34.2 (mR p34.2 l0 6)).1 = 10 ∧ inb ((24 * x1) + x2) (mS p34.2 (mR p34.2 l0 6)).2 then (some (some (.int 1), setF p34.2 (mR p34.2 l0 6) (ix ((24 * x1) + x2)) x3)) else none)) else none))) else ((rdI p7.2 (mR p7.2 l0 4) x1).bind fun v41 => if v41 = 0 then (if (mS p7.2 (mR p7.2 l0 6)).1 = 10 ∧ inb ((24 * x1) + x2) (mS p7.2 (mR p7.2 l0 6)).2 then (some (some (.int 1), setF p7.2 (mR p7.2 l0 6) (ix ((24 * x1) + x2)) ((x3 <<< (16 &&& 31)) >>> (16 &&& 31)))) else none) else (if (mS p7.2 (mR p7.2 l0 6)).1 = 10 ∧ inb ((24 * x1) + x2) (mS p7.2 (mR p7.2 l0 6)).2 then (some (some (.int 1), setF p7.2 (mR p7.2 l0 6) (ix ((24 * x1) + x2)) x3)) else none)))) else none)) else (some (some (.int (-1000000011)), p1.2))) else none) :=
  (e_nx f_215_0 rfl).trans ((e_cI (L := [.ref l0, .int x1, .int x2, .int x3]) (st := [.int x1]) (μ := μ) (L' := [.ref l0, .int x1, .int x2, .int x3]) (st' := []) f_215_1 rfl rfl).trans (m_congr fun p1 => (e_ne f_215_4 rfl).trans (b_congr (fun h2 => (e_nx (q := (_, _, .int (-1000000001) :: _, _)) f_215_7 rfl).trans (e_rt f_215_9 rfl)) (fun h2 => (e_nx f_215_10 rfl).trans ((e_gd f_215_11 rfl).trans (g_congr (Iff.rfl) (fun h3 => (e_nx f_215_14 rfl).trans ((e_ia (L := [.ref l0, .int x1, .int x2, .int x3]) (r := []) (μ := p1.2) f_215_15).trans (m_congr fun v4 => (e_ge f_215_16 rfl).trans (b_congr (fun h5 => (e_nx f_215_23 rfl).trans ((e_nx f_215_24 rfl).trans ((e_nx (q := (_, _, .long 0 :: _, _)) f_215_25 rfl).trans ((e_nx f_215_26 rfl).trans ((e_gk f_215_27 (h3) rfl).trans ((e_nx f_215_30 rfl).trans ((e_ia (L := [.ref l0, .int x1, .int x2, .int x3]) (r := [.long 0, .long ((x2 : Int32).toInt64)]) (μ := p1.2) f_215_31).trans (m_congr fun v6 => (e_nx (q := (_, _, .int 1 :: _, _)) f_215_32 rfl).trans ((e_nx f_215_33 rfl).trans ((e_nx f_215_34 rfl).trans ((e_cI (L := [.ref l0, .int x1, .int x2, .int x3]) (st := [.long ((v6 - 1 : Int32).toInt64), .long 0, .long ((x2 : Int32).toInt64)]) (μ := p1.2) (L' := [.ref l0, .int x1, .int x2, .int x3]) (st' := []) f_215_35 rfl rfl).trans (m_congr fun p7 => (e_ne f_215_38 rfl).trans (b_congr (fun h8 => (e_nx (q := (_, _, .int (-1000000013) :: _, _)) f_215_41 rfl).trans (e_rt f_215_44 rfl)) (fun h8 => (e_nx f_215_45 rfl).trans ((e_gd f_215_46 rfl).trans (g_congr (Iff.rfl) (fun h9 => (e_nx f_215_49 rfl).trans ((e_ia (L := [.ref l0, .int x1, .int x2, .int x3]) (r := []) (μ := p7.2) f_215_50).trans (m_congr fun v10 => (e_ne f_215_51 rfl).trans (b_congr (fun h11 => (e_nx f_215_54 rfl).trans ((e_nx (q := (_, _, .int (-1000000005) :: _, _)) f_215_55 rfl).trans ((e_ne f_215_57 rfl).trans (b_congr (fun h12 => (e_nx (q := (_, _, .int (-1000000012) :: _, _)) f_215_60 rfl).trans (e_rt f_215_62 rfl)) (fun h12 => (e_nx f_215_63 rfl).trans ((e_gk f_215_64 (h9) rfl).trans ((e_nx f_215_67 rfl).trans ((e_ia (L := [.ref l0, .int x1, .int x2, .int x3]) (r := []) (μ := p7.2) f_215_68).trans (m_congr fun v13 => (e_nx (q := (_, _, .int 1 :: _, _)) f_215_69 rfl).trans ((e_ne f_215_70 rfl).trans (b_congr (fun h14 => (e_nx f_215_73 rfl).trans ((e_nx (q := (_, _, .int (-1000000005) :: _, _)) f_215_74 rfl).trans (((e_eq f_215_76 rfl).trans (if_neg h12)).trans ((e_nx f_215_79 rfl).trans ((e_nx f_215_80 rfl).trans ((e_nx (q := (_, _, .long (-99999) :: _, _)) f_215_81 rfl).trans ((e_nx (q := (_, _, .long 99999 :: _, _)) f_215_84 rfl).trans ((e_cI (L := [.ref l0, .int x1, .int x2, .int x3]) (st := [.long 99999, .long (-99999), .long ((x3 : Int32).toInt64)]) (μ := p7.2) (L' := [.ref l0, .int x1, .int x2, .int x3]) (st' := []) f_215_87 rfl rfl).trans (m_congr fun p16 => (e_ne f_215_90 rfl).trans (b_congr (fun h17 => (e_nx (q := (_, _, .int (-1000000001) :: _, _)) f_215_93 rfl).trans (e_rt f_215_95 rfl)) (fun h17 => (e_nx f_215_96 rfl).trans ((e_gd f_215_97 rfl).trans (g_congr (Iff.rfl) (fun h18 => (e_nx (q := (_, _, .int 24 :: _, _)) f_215_100 rfl).trans ((e_nx f_215_102 rfl).trans ((e_nx f_215_103 rfl).trans ((e_nx f_215_104 rfl).trans ((e_nx f_215_105 rfl).trans ((e_nx f_215_106 rfl).trans ((e_gk f_215_107 (h18) rfl).trans ((e_nx f_215_110 rfl).trans ((e_ia (L := [.ref l0, .int x1, .int x2, .int x3]) (r := [.int ((24 * x1) + x2), .ref (mR p16.2 l0 6)]) (μ := p16.2) f_215_111).trans (m_congr fun v19 => (e_ne f_215_112 rfl).trans (b_congr (fun h20 => (e_nx f_215_115 rfl).trans ((e_nx (q := (_, _, .int 16 :: _, _)) f_215_116 rfl).trans ((e_nx f_215_118 rfl).trans ((e_nx (q := (_, _, .int 16 :: _, _)) f_215_119 rfl).trans ((e_nx f_215_121 rfl).trans ((e_nx f_215_122 rfl).trans ((e_gd f_215_126 rfl).trans (g_congr (Iff.rfl) (fun h21 => (e_nx (q := (_, _, .int 1 :: _, _)) f_215_127 rfl).trans (e_rt f_215_128 rfl)))))))))) (fun h20 => (e_nx f_215_125 rfl).trans ((e_gd f_215_126 rfl).trans (g_congr (Iff.rfl) (fun h22 => (e_nx (q := (_, _, .int 1 :: _, _)) f_215_127 rfl).trans (e_rt f_215_128 rfl))))))))))))))))))))))))))))) (fun h14 => (e_nx f_215_96 rfl).trans ((e_gk f_215_97 (h9) rfl).trans ((e_nx (q := (_, _, .int 24 :: _, _)) f_215_100 rfl).trans ((e_nx f_215_102 rfl).trans ((e_nx f_215_103 rfl).trans ((e_nx f_215_104 rfl).trans ((e_nx f_215_105 rfl).trans ((e_nx f_215_106 rfl).trans ((e_gk f_215_107 (h9) rfl).trans ((e_nx f_215_110 rfl).trans ((e_ia (L := [.ref l0, .int x1, .int x2, .int x3]) (r := [.int ((24 * x1) + x2), .ref (mR p7.2 l0 6)]) (μ := p7.2) f_215_111).trans (m_congr fun v23 => (e_ne f_215_112 rfl).trans (b_congr (fun h24 => (e_nx f_215_115 rfl).trans ((e_nx (q := (_, _, .int 16 :: _, _)) f_215_116 rfl).trans ((e_nx f_215_118 rfl).trans ((e_nx (q := (_, _, .int 16 :: _, _)) f_215_119 rfl).trans ((e_nx f_215_121 rfl).trans ((e_nx f_215_122 rfl).trans ((e_gd f_215_126 rfl).trans (g_congr (Iff.rfl) (fun h25 => (e_nx (q := (_, _, .int 1 :: _, _)) f_215_127 rfl).trans (e_rt f_215_128 rfl)))))))))) (fun h24 => (e_nx f_215_125 rfl).trans ((e_gd f_215_126 rfl).trans (g_congr (Iff.rfl) (fun h26 => (e_nx (q := (_, _, .int 1 :: _, _)) f_215_127 rfl).trans (e_rt f_215_128 rfl))))))))))))))))))))))))))))) (fun h11 => (e_nx f_215_63 rfl).trans ((e_gk f_215_64 (h9) rfl).trans ((e_nx f_215_67 rfl).trans ((e_ia (L := [.ref l0, .int x1, .int x2, .int x3]) (r := []) (μ := p7.2) f_215_68).trans (m_congr fun v27 => (e_nx (q := (_, _, .int 1 :: _, _)) f_215_69 rfl).trans ((e_ne f_215_70 rfl).trans (b_congr (fun h28 => (e_nx f_215_73 rfl).trans ((e_nx (q := (_, _, .int (-1000000005) :: _, _)) f_215_74 rfl).trans ((e_eq f_215_76 rfl).trans (b_congr (fun h29 => (e_nx f_215_96 rfl).trans ((e_gk f_215_97 (h9) rfl).trans ((e_nx (q := (_, _, .int 24 :: _, _)) f_215_100 rfl).trans ((e_nx f_215_102 rfl).trans ((e_nx f_215_103 rfl).trans ((e_nx f_215_104 rfl).trans ((e_nx f_215_105 rfl).trans ((e_nx f_215_106 rfl).trans ((e_gk f_215_107 (h9) rfl).trans ((e_nx f_215_110 rfl).trans ((e_ia (L := [.ref l0, .int x1, .int x2, .int x3]) (r := [.int ((24 * x1) + x2), .ref (mR p7.2 l0 6)]) (μ := p7.2) f_215_111).trans (m_congr fun v30 => (e_ne f_215_112 rfl).trans (b_congr (fun h31 => (e_nx f_215_115 rfl).trans ((e_nx (q := (_, _, .int 16 :: _, _)) f_215_116 rfl).trans ((e_nx f_215_118 rfl).trans ((e_nx (q := (_, _, .int 16 :: _, _)) f_215_119 rfl).trans ((e_nx f_215_121 rfl).trans ((e_nx f_215_122 rfl).trans ((e_gd f_215_126 rfl).trans (g_congr (Iff.rfl) (fun h32 => (e_nx (q := (_, _, .int 1 :: _, _)) f_215_127 rfl).trans (e_rt f_215_128 rfl)))))))))) (fun h31 => (e_nx f_215_125 rfl).trans ((e_gd f_215_126 rfl).trans (g_congr (Iff.rfl) (fun h33 => (e_nx (q := (_, _, .int 1 :: _, _)) f_215_127 rfl).trans (e_rt f_215_128 rfl)))))))))))))))))) (fun h29 => (e_nx f_215_79 rfl).trans ((e_nx f_215_80 rfl).trans ((e_nx (q := (_, _, .long (-99999) :: _, _)) f_215_81 rfl).trans ((e_nx (q := (_, _, .long 99999 :: _, _)) f_215_84 rfl).trans ((e_cI (L := [.ref l0, .int x1, .int x2, .int x3]) (st := [.long 99999, .long (-99999), .long ((x3 : Int32).toInt64)]) (μ := p7.2) (L' := [.ref l0, .int x1, .int x2, .int x3]) (st' := []) f_215_87 rfl rfl).trans (m_congr fun p34 => (e_ne f_215_90 rfl).trans (b_congr (fun h35 => (e_nx (q := (_, _, .int (-1000000001) :: _, _)) f_215_93 rfl).trans (e_rt f_215_95 rfl)) (fun h35 => (e_nx f_215_96 rfl).trans ((e_gd f_215_97 rfl).trans (g_congr (Iff.rfl) (fun h36 => (e_nx (q := (_, _, .int 24 :: _, _)) f_215_100 rfl).trans ((e_nx f_215_102 rfl).trans ((e_nx f_215_103 rfl).trans ((e_nx f_215_104 rfl).trans ((e_nx f_215_105 rfl).trans ((e_nx f_215_106 rfl).trans ((e_gk f_215_107 (h36) rfl).trans ((e_nx f_215_110 rfl).trans ((e_ia (L := [.ref l0, .int x1, .int x2, .int x3]) (r := [.int ((24 * x1) + x2), .ref (mR p34.2 l0 6)]) (μ := p34.2) f_215_111).trans (m_congr fun v37 => (e_ne f_215_112 rfl).trans (b_congr (fun h38 => (e_nx f_215_115 rfl).trans ((e_nx (q := (_, _, .int 16 :: _, _)) f_215_116 rfl).trans ((e_nx f_215_118 rfl).trans ((e_nx (q := (_, _, .int 16 :: _, _)) f_215_119 rfl).trans ((e_nx f_215_121 rfl).trans ((e_nx f_215_122 rfl).trans ((e_gd f_215_126 rfl).trans (g_congr (Iff.rfl) (fun h39 => (e_nx (q := (_, _, .int 1 :: _, _)) f_215_127 rfl).trans (e_rt f_215_128 rfl)))))))))) (fun h38 => (e_nx f_215_125 rfl).trans ((e_gd f_215_126 rfl).trans (g_congr (Iff.rfl) (fun h40 => (e_nx (q := (_, _, .int 1 :: _, _)) f_215_127 rfl).trans (e_rt f_215_128 rfl)))))))))))))))))))))))))))))) (fun h28 => (e_nx f_215_96 rfl).trans ((e_gk f_215_97 (h9) rfl).trans ((e_nx (q := (_, _, .int 24 :: _, _)) f_215_100 rfl).trans ((e_nx f_215_102 rfl).trans ((e_nx f_215_103 rfl).trans ((e_nx f_215_104 rfl).trans ((e_nx f_215_105 rfl).trans ((e_nx f_215_106 rfl).trans ((e_gk f_215_107 (h9) rfl).trans ((e_nx f_215_110 rfl).trans ((e_ia (L := [.ref l0, .int x1, .int x2, .int x3]) (r := [.int ((24 * x1) + x2), .ref (mR p7.2 l0 6)]) (μ := p7.2) f_215_111).trans (m_congr fun v41 => (e_ne f_215_112 rfl).trans (b_congr (fun h42 => (e_nx f_215_115 rfl).trans ((e_nx (q := (_, _, .int 16 :: _, _)) f_215_116 rfl).trans ((e_nx f_215_118 rfl).trans ((e_nx (q := (_, _, .int 16 :: _, _)) f_215_119 rfl).trans ((e_nx f_215_121 rfl).trans ((e_nx f_215_122 rfl).trans ((e_gd f_215_126 rfl).trans (g_congr (Iff.rfl) (fun h43 => (e_nx (q := (_, _, .int 1 :: _, _)) f_215_127 rfl).trans (e_rt f_215_128 rfl)))))))))) (fun h42 => (e_nx f_215_125 rfl).trans ((e_gd f_215_126 rfl).trans (g_congr (Iff.rfl) (fun h44 => (e_nx (q := (_, _, .int 1 :: _, _)) f_215_127 rfl).trans (e_rt f_215_128 rfl))))))))))))))))))))))))))))))))))))))))))))) (fun h5 => (e_nx (q := (_, _, .int (-1000000011) :: _, _)) f_215_19 rfl).trans (e_rt f_215_22 rfl))))))))))))
theorem pg_216 (pc : Nat) : fe0 216 pc = lk prg_216 pc := rfl
theorem f_216_0 : fe0 216 0 = some (.iload_n 1, 1, 0, 0, 0, 0, 0) := (pg_216 0).trans rfl
theorem f_216_1 : fe0 216 1 = some (.invokestatic 334, 3, 213, 1, 2, 0, 6233) := (pg_216 1).trans rfl
theorem f_216_4 : fe0 216 4 = some (.ifCond .ne 6, 3, 0, 0, 0, 0, 0) := (pg_216 4).trans rfl
theorem f_216_7 : fe0 216 7 = some (.ldc 99, 2, 0, 0, 3294967295, 0, 5152) := (pg_216 7).trans rfl
theorem f_216_9 : fe0 216 9 = some (.ireturn, 1, 0, 0, 0, 0, 0) := (pg_216 9).trans rfl
theorem f_216_10 : fe0 216 10 = some (.aload_n 0, 1, 0, 0, 0, 0, 0) := (pg_216 10).trans rfl
theorem f_216_11 : fe0 216 11 = some (.getfield 19, 3, 9, 4, 1, 0, 5028) := (pg_216 11).trans rfl
theorem f_216_14 : fe0 216 14 = some (.iload_n 1, 1, 0, 0, 0, 0, 0) := (pg_216 14).trans rfl
theorem f_216_15 : fe0 216 15 = some (.iaload, 1, 0, 0, 0, 0, 0) := (pg_216 15).trans rfl
theorem f_216_16 : fe0 216 16 = some (.ifCond .ge 7, 3, 0, 0, 0, 0, 0) := (pg_216 16).trans rfl
theorem f_216_19 : fe0 216 19 = some (.ldc_w 338, 3, 0, 0, 3294967285, 0, 7001) := (pg_216 19).trans rfl
theorem f_216_22 : fe0 216 22 = some (.ireturn, 1, 0, 0, 0, 0, 0) := (pg_216 22).trans rfl
theorem f_216_23 : fe0 216 23 = some (.iconst 0, 1, 0, 0, 0, 0, 0) := (pg_216 23).trans rfl
theorem f_216_24 : fe0 216 24 = some (.istore_n 2, 1, 0, 0, 0, 0, 0) := (pg_216 24).trans rfl
theorem f_216_25 : fe0 216 25 = some (.iconst 0, 1, 0, 0, 0, 0, 0) := (pg_216 25).trans rfl
theorem f_216_26 : fe0 216 26 = some (.istore_n 3, 1, 0, 0, 0, 0, 0) := (pg_216 26).trans rfl
theorem f_216_27 : fe0 216 27 = some (.iload_n 3, 1, 0, 0, 0, 0, 0) := (pg_216 27).trans rfl
theorem f_216_28 : fe0 216 28 = some (.aload_n 0, 1, 0, 0, 0, 0, 0) := (pg_216 28).trans rfl
theorem f_216_29 : fe0 216 29 = some (.getfield 22, 3, 9, 5, 1, 0, 5029) := (pg_216 29).trans rfl
theorem f_216_32 : fe0 216 32 = some (.iload_n 1, 1, 0, 0, 0, 0, 0) := (pg_216 32).trans rfl
theorem f_216_33 : fe0 216 33 = some (.iaload, 1, 0, 0, 0, 0, 0) := (pg_216 33).trans rfl
theorem f_216_34 : fe0 216 34 = some (.if_icmp .ge 83, 3, 0, 0, 0, 0, 0) := (pg_216 34).trans rfl
theorem f_216_37 : fe0 216 37 = some (.iload_n 3, 1, 0, 0, 0, 0, 0) := (pg_216 37).trans rfl
theorem f_216_38 : fe0 216 38 = some (.aload_n 0, 1, 0, 0, 0, 0, 0) := (pg_216 38).trans rfl
theorem f_216_39 : fe0 216 39 = some (.getfield 7, 3, 9, 0, 1, 0, 5024) := (pg_216 39).trans rfl
theorem f_216_42 : fe0 216 42 = some (.iconst 0, 1, 0, 0, 0, 0, 0) := (pg_216 42).trans rfl
theorem f_216_43 : fe0 216 43 = some (.iaload, 1, 0, 0, 0, 0, 0) := (pg_216 43).trans rfl
theorem f_216_44 : fe0 216 44 = some (.if_icmp .ge 73, 3, 0, 0, 0, 0, 0) := (pg_216 44).trans rfl
theorem f_216_47 : fe0 216 47 = some (.aload_n 0, 1, 0, 0, 0, 0, 0) := (pg_216 47).trans rfl
theorem f_216_48 : fe0 216 48 = some (.getfield 25, 3, 9, 6, 1, 0, 5030) := (pg_216 48).trans rfl
theorem f_216_51 : fe0 216 51 = some (.bipush 24, 2, 0, 0, 0, 0, 0) := (pg_216 51).trans rfl
theorem f_216_53 : fe0 216 53 = some (.iload_n 1, 1, 0, 0, 0, 0, 0) := (pg_216 53).trans rfl
theorem f_216_54 : fe0 216 54 = some (.imul, 1, 0, 0, 0, 0, 0) := (pg_216 54).trans rfl
theorem f_216_55 : fe0 216 55 = some (.iload_n 3, 1, 0, 0, 0, 0, 0) := (pg_216 55).trans rfl
theorem f_216_56 : fe0 216 56 = some (.iadd, 1, 0, 0, 0, 0, 0) := (pg_216 56).trans rfl
theorem f_216_57 : fe0 216 57 = some (.iaload, 1, 0, 0, 0, 0, 0) := (pg_216 57).trans rfl
theorem f_216_58 : fe0 216 58 = some (.istore 4, 2, 0, 0, 0, 0, 0) := (pg_216 58).trans rfl
theorem f_216_60 : fe0 216 60 = some (.iload 4, 2, 0, 0, 0, 0, 0) := (pg_216 60).trans rfl
theorem f_216_62 : fe0 216 62 = some (.ldc 83, 2, 0, 0, 3294967291, 0, 6036) := (pg_216 62).trans rfl
theorem f_216_64 : fe0 216 64 = some (.if_icmp .ne 12, 3, 0, 0, 0, 0, 0) := (pg_216 64).trans rfl
theorem f_216_67 : fe0 216 67 = some (.aload_n 0, 1, 0, 0, 0, 0, 0) := (pg_216 67).trans rfl
theorem f_216_68 : fe0 216 68 = some (.iload_n 3, 1, 0, 0, 0, 0, 0) := (pg_216 68).trans rfl
theorem f_216_69 : fe0 216 69 = some (.iconst 1, 1, 0, 0, 0, 0, 0) := (pg_216 69).trans rfl
theorem f_216_70 : fe0 216 70 = some (.invokevirtual 105, 3, 139, 2, 0, 9, 5166) := (pg_216 70).trans rfl
theorem f_216_73 : fe0 216 73 = some (.goto 10, 3, 0, 0, 0, 0, 0) := (pg_216 73).trans rfl
theorem f_216_76 : fe0 216 76 = some (.iload 4, 2, 0, 0, 0, 0, 0) := (pg_216 76).trans rfl
theorem f_216_78 : fe0 216 78 = some (.bipush 99, 2, 0, 0, 0, 0, 0) := (pg_216 78).trans rfl
theorem f_216_80 : fe0 216 80 = some (.invokestatic 119, 3, 134, 2, 2, 0, 5193) := (pg_216 80).trans rfl
theorem f_216_83 : fe0 216 83 = some (.istore 5, 2, 0, 0, 0, 0, 0) := (pg_216 83).trans rfl
theorem f_216_85 : fe0 216 85 = some (.iload_n 2, 1, 0, 0, 0, 0, 0) := (pg_216 85).trans rfl
theorem f_216_86 : fe0 216 86 = some (.iload 5, 2, 0, 0, 0, 0, 0) := (pg_216 86).trans rfl
theorem f_216_88 : fe0 216 88 = some (.aload_n 0, 1, 0, 0, 0, 0, 0) := (pg_216 88).trans rfl
theorem f_216_89 : fe0 216 89 = some (.iconst 4, 1, 0, 0, 0, 0, 0) := (pg_216 89).trans rfl
theorem f_216_90 : fe0 216 90 = some (.iconst 5, 1, 0, 0, 0, 0, 0) := (pg_216 90).trans rfl
theorem f_216_91 : fe0 216 91 = some (.iload_n 3, 1, 0, 0, 0, 0, 0) := (pg_216 91).trans rfl
theorem f_216_92 : fe0 216 92 = some (.imul, 1, 0, 0, 0, 0, 0) := (pg_216 92).trans rfl
theorem f_216_93 : fe0 216 93 = some (.iadd, 1, 0, 0, 0, 0, 0) := (pg_216 93).trans rfl
theorem f_216_94 : fe0 216 94 = some (.iconst 1, 1, 0, 0, 0, 0, 0) := (pg_216 94).trans rfl
theorem f_216_95 : fe0 216 95 = some (.iadd, 1, 0, 0, 0, 0, 0) := (pg_216 95).trans rfl
theorem f_216_96 : fe0 216 96 = some (.iload 5, 2, 0, 0, 0, 0, 0) := (pg_216 96).trans rfl
theorem f_216_98 : fe0 216 98 = some (.invokevirtual 167, 3, 137, 2, 0, 9, 6009) := (pg_216 98).trans rfl
theorem f_216_101 : fe0 216 101 = some (.if_icmp .ne 7, 3, 0, 0, 0, 0, 0) := (pg_216 101).trans rfl
theorem f_216_104 : fe0 216 104 = some (.iconst 0, 1, 0, 0, 0, 0, 0) := (pg_216 104).trans rfl
theorem f_216_105 : fe0 216 105 = some (.goto 4, 3, 0, 0, 0, 0, 0) := (pg_216 105).trans rfl
theorem f_216_108 : fe0 216 108 = some (.iconst 1, 1, 0, 0, 0, 0, 0) := (pg_216 108).trans rfl
theorem f_216_109 : fe0 216 109 = some (.iadd, 1, 0, 0, 0, 0, 0) := (pg_216 109).trans rfl
theorem f_216_110 : fe0 216 110 = some (.istore_n 2, 1, 0, 0, 0, 0, 0) := (pg_216 110).trans rfl
theorem f_216_111 : fe0 216 111 = some (.iinc 3 1, 3, 0, 0, 0, 0, 0) := (pg_216 111).trans rfl
theorem f_216_114 : fe0 216 114 = some (.goto (-87), 3, 0, 0, 0, 0, 0) := (pg_216 114).trans rfl
theorem f_216_117 : fe0 216 117 = some (.iload_n 2, 1, 0, 0, 0, 0, 0) := (pg_216 117).trans rfl
theorem f_216_118 : fe0 216 118 = some (.ireturn, 1, 0, 0, 0, 0, 0) := (pg_216 118).trans rfl
theorem q_216_0 (d : Nat) (l0 : Nat) (x1 : Int32) (μ : aMem) : Rn (d + 1) 216 (0, [.ref l0, .int x1, un, un, un, un], [], μ) = (cI d 213 [.int x1] μ).bind fun p1 => if p1.1 = 0 then (some (some (.int (-1000000001)), p1.2)) else (if (mS p1.2 l0).1 = 9 then ((rdI p1.2 (mR p1.2 l0 4) x1).bind fun v4 => if 0 ≤ v4 then (Rn (d + 1) 216 (27, [.ref l0, .int x1, .int 0, .int 0, un, un], [], p1.2)) else (some (some (.int (-1000000011)), p1.2))) else none) :=
  (e_nx f_216_0 rfl).trans ((e_cI (L := [.ref l0, .int x1, un, un, un, un]) (st := [.int x1]) (μ := μ) (L' := [.ref l0, .int x1, un, un, un, un]) (st' := []) f_216_1 rfl rfl).trans (m_congr fun p1 => (e_ne f_216_4 rfl).trans (b_congr (fun h2 => (e_nx (q := (_, _, .int (-1000000001) :: _, _)) f_216_7 rfl).trans (e_rt f_216_9 rfl)) (fun h2 => (e_nx f_216_10 rfl).trans ((e_gd f_216_11 rfl).trans (g_congr (Iff.rfl) (fun h3 => (e_nx f_216_14 rfl).trans ((e_ia (L := [.ref l0, .int x1, un, un, un, un]) (r := []) (μ := p1.2) f_216_15).trans (m_congr fun v4 => (e_ge f_216_16 rfl).trans (b_congr (fun h5 => (e_nx (q := (_, _, .int 0 :: _, _)) f_216_23 rfl).trans ((e_nx (q := (_, [.ref l0, .int x1, .int 0, un, un, un], _, _)) f_216_24 rfl).trans ((e_nx (q := (_, _, .int 0 :: _, _)) f_216_25 rfl).trans (e_nx (q := (_, [.ref l0, .int x1, .int 0, .int 0, un, un], _, _)) f_216_26 rfl)))) (fun h5 => (e_nx (q := (_, _, .int (-1000000011) :: _, _)) f_216_19 rfl).trans (e_rt f_216_22 rfl))))))))))))
theorem q_216_27 (d : Nat) (l0 : Nat) (x1 : Int32) (x2 : Int32) (x3 : Int32) (w4 : Value) (w5 : Value) (μ : aMem) : Rn (d + 1) 216 (27, [.ref l0, .int x1, .int x2, .int x3, w4, w5], [], μ) = if (mS μ l0).1 = 9 then ((rdI μ (mR μ l0 5) x1).bind fun v2 => if v2 ≤ x3 then (some (some (.int x2), μ)) else ((rdI μ (mR μ l0 0) 0).bind fun v4 => if v4 ≤ x3 then (some (some (.int x2), μ)) else ((rdI μ (mR μ l0 6) ((24 * x1) + x3)).bind fun v6 => if v6 = (-1000000005) then (if (mS μ l0).1 = 9 ∧ l0 < 999999 then ((cI d 139 [.ref l0, .int x3, .int 1] μ).bind fun p8 => if (mS p8.2 l0).1 = 9 ∧ l0 < 999999 then ((cI d 137 [.ref l0, .int ((4 + (5 * x3)) + 1), .int p8.1] p8.2).bind fun p10 => if p8.1 = p10.1 then (Rn (d + 1) 216 (27, [.ref l0, .int x1, .int (x2 + 0), .int (x3 + 1), .int v6, .int p8.1], [], p10.2)) else (Rn (d + 1) 216 (27, [.ref l0, .int x1, .int (x2 + 1), .int (x3 + 1), .int v6, .int p8.1], [], p10.2))) else none) else none) else ((cI d 134 [.int v6, .int 99] μ).bind fun p13 => if (mS p13.2 l0).1 = 9 ∧ l0 < 999999 then ((cI d 137 [.ref l0, .int ((4 + (5 * x3)) + 1), .int p13.1] p13.2).bind fun p14 => if p13.1 = p14.1 then (Rn (d + 1) 216 (27, [.ref l0, .int x1, .int (x2 + 0), .int (x3 + 1), .int v6, .int p13.1], [], p14.2)) else (Rn (d + 1) 216 (27, [.ref l0, .int x1, .int (x2 + 1), .int (x3 + 1), .int v6, .int p13.1], [], p14.2))) else none)))) else none :=
  (e_nx f_216_27 rfl).trans ((e_nx f_216_28 rfl).trans ((e_gd f_216_29 rfl).trans (g_congr (Iff.rfl) (fun h1 => (e_nx f_216_32 rfl).trans ((e_ia (L := [.ref l0, .int x1, .int x2, .int x3, w4, w5]) (r := [.int x3]) (μ := μ) f_216_33).trans (m_congr fun v2 => (e_ge f_216_34 rfl).trans (b_congr (fun h3 => (e_nx f_216_117 rfl).trans (e_rt f_216_118 rfl)) (fun h3 => (e_nx f_216_37 rfl).trans ((e_nx f_216_38 rfl).trans ((e_gk f_216_39 (h1) rfl).trans ((e_nx (q := (_, _, .int 0 :: _, _)) f_216_42 rfl).trans ((e_ia (L := [.ref l0, .int x1, .int x2, .int x3, w4, w5]) (r := [.int x3]) (μ := μ) f_216_43).trans (m_congr fun v4 => (e_ge f_216_44 rfl).trans (b_congr (fun h5 => (e_nx f_216_117 rfl).trans (e_rt f_216_118 rfl)) (fun h5 => (e_nx f_216_47 rfl).trans ((e_gk f_216_48 (h1) rfl).trans ((e_nx (q := (_, _, .int 24 :: _, _)) f_216_51 rfl).trans ((e_nx f_216_53 rfl).trans ((e_nx f_216_54 rfl).trans ((e_nx f_216_55 rfl).trans ((e_nx f_216_56 rfl).trans ((e_ia (L := [.ref l0, .int x1, .int x2, .int x3, w4, w5]) (r := []) (μ := μ) f_216_57).trans (m_congr fun v6 => (e_nx (q := (_, [.ref l0, .int x1, .int x2, .int x3, .int v6, w5], _, _)) f_216_58 rfl).trans ((e_nx f_216_60 rfl).trans ((e_nx (q := (_, _, .int (-1000000005) :: _, _)) f_216_62 rfl).trans ((e_ne f_216_64 rfl).trans (b_congr (fun h7 => (e_nx f_216_67 rfl).trans ((e_nx f_216_68 rfl).trans ((e_nx (q := (_, _, .int 1 :: _, _)) f_216_69 rfl).trans ((e_gI (L := [.ref l0, .int x1, .int x2, .int x3, .int v6, w5]) (st := [.int 1, .int x3, .ref l0]) (μ := μ) (L' := [.ref l0, .int x1, .int x2, .int x3, .int v6, w5]) (st' := []) f_216_70 rfl rfl).trans (g_congr (v_c2 rfl (Nat.le_of_ble_eq_true rfl)) (fun h9 => m_congr fun p8 => (e_nx f_216_73 rfl).trans ((e_nx (q := (_, [.ref l0, .int x1, .int x2, .int x3, .int v6, .int p8.1], _, _)) f_216_83 rfl).trans ((e_nx f_216_85 rfl).trans ((e_nx f_216_86 rfl).trans ((e_nx f_216_88 rfl).trans ((e_nx (q := (_, _, .int 4 :: _, _)) f_216_89 rfl).trans ((e_nx (q := (_, _, .int 5 :: _, _)) f_216_90 rfl).trans ((e_nx f_216_91 rfl).trans ((e_nx f_216_92 rfl).trans ((e_nx f_216_93 rfl).trans ((e_nx (q := (_, _, .int 1 :: _, _)) f_216_94 rfl).trans ((e_nx f_216_95 rfl).trans ((e_nx f_216_96 rfl).trans ((e_gI (L := [.ref l0, .int x1, .int x2, .int x3, .int v6, .int p8.1]) (st := [.int p8.1, .int ((4 + (5 * x3)) + 1), .ref l0, .int p8.1, .int x2]) (μ := p8.2) (L' := [.ref l0, .int x1, .int x2, .int x3, .int v6, .int p8.1]) (st' := [.int p8.1, .int x2]) f_216_98 rfl rfl).trans (g_congr (v_c2 rfl (Nat.le_of_ble_eq_true rfl)) (fun h11 => m_congr fun p10 => (e_ne f_216_101 rfl).trans (b_congr (fun h12 => (e_nx (q := (_, _, .int 0 :: _, _)) f_216_104 rfl).trans ((e_nx f_216_105 rfl).trans ((e_nx f_216_109 rfl).trans ((e_nx (q := (_, [.ref l0, .int x1, .int (x2 + 0), .int x3, .int v6, .int p8.1], _, _)) f_216_110 rfl).trans ((e_nx (q := (_, [.ref l0, .int x1, .int (x2 + 0), .int (x3 + 1), .int v6, .int p8.1], _, _)) f_216_111 rfl).trans (e_nx f_216_114 rfl)))))) (fun h12 => (e_nx (q := (_, _, .int 1 :: _, _)) f_216_108 rfl).trans ((e_nx f_216_109 rfl).trans ((e_nx (q := (_, [.ref l0, .int x1, .int (x2 + 1), .int x3, .int v6, .int p8.1], _, _)) f_216_110 rfl).trans ((e_nx (q := (_, [.ref l0, .int x1, .int (x2 + 1), .int (x3 + 1), .int v6, .int p8.1], _, _)) f_216_111 rfl).trans (e_nx f_216_114 rfl))))))))))))))))))))))))))) (fun h7 => (e_nx f_216_76 rfl).trans ((e_nx (q := (_, _, .int 99 :: _, _)) f_216_78 rfl).trans ((e_cI (L := [.ref l0, .int x1, .int x2, .int x3, .int v6, w5]) (st := [.int 99, .int v6]) (μ := μ) (L' := [.ref l0, .int x1, .int x2, .int x3, .int v6, w5]) (st' := []) f_216_80 rfl rfl).trans (m_congr fun p13 => (e_nx (q := (_, [.ref l0, .int x1, .int x2, .int x3, .int v6, .int p13.1], _, _)) f_216_83 rfl).trans ((e_nx f_216_85 rfl).trans ((e_nx f_216_86 rfl).trans ((e_nx f_216_88 rfl).trans ((e_nx (q := (_, _, .int 4 :: _, _)) f_216_89 rfl).trans ((e_nx (q := (_, _, .int 5 :: _, _)) f_216_90 rfl).trans ((e_nx f_216_91 rfl).trans ((e_nx f_216_92 rfl).trans ((e_nx f_216_93 rfl).trans ((e_nx (q := (_, _, .int 1 :: _, _)) f_216_94 rfl).trans ((e_nx f_216_95 rfl).trans ((e_nx f_216_96 rfl).trans ((e_gI (L := [.ref l0, .int x1, .int x2, .int x3, .int v6, .int p13.1]) (st := [.int p13.1, .int ((4 + (5 * x3)) + 1), .ref l0, .int p13.1, .int x2]) (μ := p13.2) (L' := [.ref l0, .int x1, .int x2, .int x3, .int v6, .int p13.1]) (st' := [.int p13.1, .int x2]) f_216_98 rfl rfl).trans (g_congr (v_c2 rfl (Nat.le_of_ble_eq_true rfl)) (fun h15 => m_congr fun p14 => (e_ne f_216_101 rfl).trans (b_congr (fun h16 => (e_nx (q := (_, _, .int 0 :: _, _)) f_216_104 rfl).trans ((e_nx f_216_105 rfl).trans ((e_nx f_216_109 rfl).trans ((e_nx (q := (_, [.ref l0, .int x1, .int (x2 + 0), .int x3, .int v6, .int p13.1], _, _)) f_216_110 rfl).trans ((e_nx (q := (_, [.ref l0, .int x1, .int (x2 + 0), .int (x3 + 1), .int v6, .int p13.1], _, _)) f_216_111 rfl).trans (e_nx f_216_114 rfl)))))) (fun h16 => (e_nx (q := (_, _, .int 1 :: _, _)) f_216_108 rfl).trans ((e_nx f_216_109 rfl).trans ((e_nx (q := (_, [.ref l0, .int x1, .int (x2 + 1), .int x3, .int v6, .int p13.1], _, _)) f_216_110 rfl).trans ((e_nx (q := (_, [.ref l0, .int x1, .int (x2 + 1), .int (x3 + 1), .int v6, .int p13.1], _, _)) f_216_111 rfl).trans (e_nx f_216_114 rfl)))))))))))))))))))))))))))))))))))))))))))))))))))
theorem pg_217 (pc : Nat) : fe0 217 pc = lk prg_217 pc := rfl
theorem f_217_0 : fe0 217 0 = some (.iload_n 1, 1, 0, 0, 0, 0, 0) := (pg_217 0).trans rfl
theorem f_217_1 : fe0 217 1 = some (.invokestatic 334, 3, 213, 1, 2, 0, 6233) := (pg_217 1).trans rfl
theorem f_217_4 : fe0 217 4 = some (.ifCond .eq 15, 3, 0, 0, 0, 0, 0) := (pg_217 4).trans rfl
theorem f_217_7 : fe0 217 7 = some (.iload_n 2, 1, 0, 0, 0, 0, 0) := (pg_217 7).trans rfl
theorem f_217_8 : fe0 217 8 = some (.i2l, 1, 0, 0, 0, 0, 0) := (pg_217 8).trans rfl
theorem f_217_9 : fe0 217 9 = some (.lconst 0, 1, 0, 0, 0, 0, 0) := (pg_217 9).trans rfl
theorem f_217_10 : fe0 217 10 = some (.ldc2_w 170, 3, 0, 0, 3, 0, 6017) := (pg_217 10).trans rfl
theorem f_217_13 : fe0 217 13 = some (.invokestatic 84, 3, 133, 3, 2, 0, 5144) := (pg_217 13).trans rfl
theorem f_217_16 : fe0 217 16 = some (.ifCond .ne 6, 3, 0, 0, 0, 0, 0) := (pg_217 16).trans rfl
theorem f_217_19 : fe0 217 19 = some (.ldc 99, 2, 0, 0, 3294967295, 0, 5152) := (pg_217 19).trans rfl
theorem f_217_21 : fe0 217 21 = some (.ireturn, 1, 0, 0, 0, 0, 0) := (pg_217 21).trans rfl
theorem f_217_22 : fe0 217 22 = some (.aload_n 0, 1, 0, 0, 0, 0, 0) := (pg_217 22).trans rfl
theorem f_217_23 : fe0 217 23 = some (.getfield 19, 3, 9, 4, 1, 0, 5028) := (pg_217 23).trans rfl
theorem f_217_26 : fe0 217 26 = some (.iload_n 1, 1, 0, 0, 0, 0, 0) := (pg_217 26).trans rfl
theorem f_217_27 : fe0 217 27 = some (.iaload, 1, 0, 0, 0, 0, 0) := (pg_217 27).trans rfl
theorem f_217_28 : fe0 217 28 = some (.ifCond .ge 7, 3, 0, 0, 0, 0, 0) := (pg_217 28).trans rfl
theorem f_217_31 : fe0 217 31 = some (.ldc_w 338, 3, 0, 0, 3294967285, 0, 7001) := (pg_217 31).trans rfl
theorem f_217_34 : fe0 217 34 = some (.ireturn, 1, 0, 0, 0, 0, 0) := (pg_217 34).trans rfl
theorem f_217_35 : fe0 217 35 = some (.iconst 0, 1, 0, 0, 0, 0, 0) := (pg_217 35).trans rfl
theorem f_217_36 : fe0 217 36 = some (.istore_n 3, 1, 0, 0, 0, 0, 0) := (pg_217 36).trans rfl
theorem f_217_37 : fe0 217 37 = some (.iconst (-1), 1, 0, 0, 0, 0, 0) := (pg_217 37).trans rfl
theorem f_217_38 : fe0 217 38 = some (.istore 4, 2, 0, 0, 0, 0, 0) := (pg_217 38).trans rfl
theorem f_217_40 : fe0 217 40 = some (.iconst (-1), 1, 0, 0, 0, 0, 0) := (pg_217 40).trans rfl
theorem f_217_41 : fe0 217 41 = some (.istore 5, 2, 0, 0, 0, 0, 0) := (pg_217 41).trans rfl
theorem f_217_43 : fe0 217 43 = some (.iconst 0, 1, 0, 0, 0, 0, 0) := (pg_217 43).trans rfl
theorem f_217_44 : fe0 217 44 = some (.istore 6, 2, 0, 0, 0, 0, 0) := (pg_217 44).trans rfl
theorem f_217_46 : fe0 217 46 = some (.iconst 0, 1, 0, 0, 0, 0, 0) := (pg_217 46).trans rfl
theorem f_217_47 : fe0 217 47 = some (.istore 7, 2, 0, 0, 0, 0, 0) := (pg_217 47).trans rfl
theorem f_217_49 : fe0 217 49 = some (.iload 7, 2, 0, 0, 0, 0, 0) := (pg_217 49).trans rfl
theorem f_217_51 : fe0 217 51 = some (.aload_n 0, 1, 0, 0, 0, 0, 0) := (pg_217 51).trans rfl
theorem f_217_52 : fe0 217 52 = some (.getfield 22, 3, 9, 5, 1, 0, 5029) := (pg_217 52).trans rfl
theorem f_217_55 : fe0 217 55 = some (.iload_n 1, 1, 0, 0, 0, 0, 0) := (pg_217 55).trans rfl
theorem f_217_56 : fe0 217 56 = some (.iaload, 1, 0, 0, 0, 0, 0) := (pg_217 56).trans rfl
theorem f_217_57 : fe0 217 57 = some (.if_icmp .ge 173, 3, 0, 0, 0, 0, 0) := (pg_217 57).trans rfl
theorem f_217_60 : fe0 217 60 = some (.bipush 24, 2, 0, 0, 0, 0, 0) := (pg_217 60).trans rfl
theorem f_217_62 : fe0 217 62 = some (.iload_n 1, 1, 0, 0, 0, 0, 0) := (pg_217 62).trans rfl
theorem f_217_63 : fe0 217 63 = some (.imul, 1, 0, 0, 0, 0, 0) := (pg_217 63).trans rfl
theorem f_217_64 : fe0 217 64 = some (.istore 8, 2, 0, 0, 0, 0, 0) := (pg_217 64).trans rfl
theorem f_217_66 : fe0 217 66 = some (.aload_n 0, 1, 0, 0, 0, 0, 0) := (pg_217 66).trans rfl
theorem f_217_67 : fe0 217 67 = some (.getfield 25, 3, 9, 6, 1, 0, 5030) := (pg_217 67).trans rfl
theorem f_217_70 : fe0 217 70 = some (.iload 8, 2, 0, 0, 0, 0, 0) := (pg_217 70).trans rfl
theorem f_217_72 : fe0 217 72 = some (.iload 7, 2, 0, 0, 0, 0, 0) := (pg_217 72).trans rfl
theorem f_217_74 : fe0 217 74 = some (.iadd, 1, 0, 0, 0, 0, 0) := (pg_217 74).trans rfl
theorem f_217_75 : fe0 217 75 = some (.iaload, 1, 0, 0, 0, 0, 0) := (pg_217 75).trans rfl
theorem f_217_76 : fe0 217 76 = some (.istore 9, 2, 0, 0, 0, 0, 0) := (pg_217 76).trans rfl
theorem f_217_78 : fe0 217 78 = some (.iload 9, 2, 0, 0, 0, 0, 0) := (pg_217 78).trans rfl
theorem f_217_80 : fe0 217 80 = some (.ldc 83, 2, 0, 0, 3294967291, 0, 6036) := (pg_217 80).trans rfl
theorem f_217_82 : fe0 217 82 = some (.if_icmp .eq 142, 3, 0, 0, 0, 0, 0) := (pg_217 82).trans rfl
theorem f_217_85 : fe0 217 85 = some (.iload 4, 2, 0, 0, 0, 0, 0) := (pg_217 85).trans rfl
theorem f_217_87 : fe0 217 87 = some (.ifCond .lt 18, 3, 0, 0, 0, 0, 0) := (pg_217 87).trans rfl
theorem f_217_90 : fe0 217 90 = some (.iload 9, 2, 0, 0, 0, 0, 0) := (pg_217 90).trans rfl
theorem f_217_92 : fe0 217 92 = some (.aload_n 0, 1, 0, 0, 0, 0, 0) := (pg_217 92).trans rfl
theorem f_217_93 : fe0 217 93 = some (.getfield 25, 3, 9, 6, 1, 0, 5030) := (pg_217 93).trans rfl
theorem f_217_96 : fe0 217 96 = some (.iload 8, 2, 0, 0, 0, 0, 0) := (pg_217 96).trans rfl
theorem f_217_98 : fe0 217 98 = some (.iload 4, 2, 0, 0, 0, 0, 0) := (pg_217 98).trans rfl
theorem f_217_100 : fe0 217 100 = some (.iadd, 1, 0, 0, 0, 0, 0) := (pg_217 100).trans rfl
theorem f_217_101 : fe0 217 101 = some (.iaload, 1, 0, 0, 0, 0, 0) := (pg_217 101).trans rfl
theorem f_217_102 : fe0 217 102 = some (.if_icmp .ge 8, 3, 0, 0, 0, 0, 0) := (pg_217 102).trans rfl
theorem f_217_105 : fe0 217 105 = some (.iload 7, 2, 0, 0, 0, 0, 0) := (pg_217 105).trans rfl
theorem f_217_107 : fe0 217 107 = some (.goto 5, 3, 0, 0, 0, 0, 0) := (pg_217 107).trans rfl
theorem f_217_110 : fe0 217 110 = some (.iload 4, 2, 0, 0, 0, 0, 0) := (pg_217 110).trans rfl
theorem f_217_112 : fe0 217 112 = some (.istore 4, 2, 0, 0, 0, 0, 0) := (pg_217 112).trans rfl
theorem f_217_114 : fe0 217 114 = some (.iload 5, 2, 0, 0, 0, 0, 0) := (pg_217 114).trans rfl
theorem f_217_116 : fe0 217 116 = some (.ifCond .lt 18, 3, 0, 0, 0, 0, 0) := (pg_217 116).trans rfl
theorem f_217_119 : fe0 217 119 = some (.iload 9, 2, 0, 0, 0, 0, 0) := (pg_217 119).trans rfl
theorem f_217_121 : fe0 217 121 = some (.aload_n 0, 1, 0, 0, 0, 0, 0) := (pg_217 121).trans rfl
theorem f_217_122 : fe0 217 122 = some (.getfield 25, 3, 9, 6, 1, 0, 5030) := (pg_217 122).trans rfl
theorem f_217_125 : fe0 217 125 = some (.iload 8, 2, 0, 0, 0, 0, 0) := (pg_217 125).trans rfl
theorem f_217_127 : fe0 217 127 = some (.iload 5, 2, 0, 0, 0, 0, 0) := (pg_217 127).trans rfl
theorem f_217_129 : fe0 217 129 = some (.iadd, 1, 0, 0, 0, 0, 0) := (pg_217 129).trans rfl
theorem f_217_130 : fe0 217 130 = some (.iaload, 1, 0, 0, 0, 0, 0) := (pg_217 130).trans rfl
theorem f_217_131 : fe0 217 131 = some (.if_icmp .le 8, 3, 0, 0, 0, 0, 0) := (pg_217 131).trans rfl
theorem f_217_134 : fe0 217 134 = some (.iload 7, 2, 0, 0, 0, 0, 0) := (pg_217 134).trans rfl
theorem f_217_136 : fe0 217 136 = some (.goto 5, 3, 0, 0, 0, 0, 0) := (pg_217 136).trans rfl
theorem f_217_139 : fe0 217 139 = some (.iload 5, 2, 0, 0, 0, 0, 0) := (pg_217 139).trans rfl
theorem f_217_141 : fe0 217 141 = some (.istore 5, 2, 0, 0, 0, 0, 0) := (pg_217 141).trans rfl
theorem f_217_143 : fe0 217 143 = some (.iload 6, 2, 0, 0, 0, 0, 0) := (pg_217 143).trans rfl
theorem f_217_145 : fe0 217 145 = some (.iload 9, 2, 0, 0, 0, 0, 0) := (pg_217 145).trans rfl
theorem f_217_147 : fe0 217 147 = some (.ifCond .le 17, 3, 0, 0, 0, 0, 0) := (pg_217 147).trans rfl
theorem f_217_150 : fe0 217 150 = some (.iload 9, 2, 0, 0, 0, 0, 0) := (pg_217 150).trans rfl
theorem f_217_152 : fe0 217 152 = some (.invokestatic 122, 3, 148, 1, 2, 0, 5196) := (pg_217 152).trans rfl
theorem f_217_155 : fe0 217 155 = some (.iload 9, 2, 0, 0, 0, 0, 0) := (pg_217 155).trans rfl
theorem f_217_157 : fe0 217 157 = some (.if_icmp .ne 7, 3, 0, 0, 0, 0, 0) := (pg_217 157).trans rfl
theorem f_217_160 : fe0 217 160 = some (.iconst 1, 1, 0, 0, 0, 0, 0) := (pg_217 160).trans rfl
theorem f_217_161 : fe0 217 161 = some (.goto 4, 3, 0, 0, 0, 0, 0) := (pg_217 161).trans rfl
theorem f_217_164 : fe0 217 164 = some (.iconst 0, 1, 0, 0, 0, 0, 0) := (pg_217 164).trans rfl
theorem f_217_165 : fe0 217 165 = some (.iadd, 1, 0, 0, 0, 0, 0) := (pg_217 165).trans rfl
theorem f_217_166 : fe0 217 166 = some (.istore 6, 2, 0, 0, 0, 0, 0) := (pg_217 166).trans rfl
theorem f_217_168 : fe0 217 168 = some (.iload_n 3, 1, 0, 0, 0, 0, 0) := (pg_217 168).trans rfl
theorem f_217_169 : fe0 217 169 = some (.istore 10, 2, 0, 0, 0, 0, 0) := (pg_217 169).trans rfl
theorem f_217_171 : fe0 217 171 = some (.iload 10, 2, 0, 0, 0, 0, 0) := (pg_217 171).trans rfl
theorem f_217_173 : fe0 217 173 = some (.ifCond .le 39, 3, 0, 0, 0, 0, 0) := (pg_217 173).trans rfl
theorem f_217_176 : fe0 217 176 = some (.aload_n 0, 1, 0, 0, 0, 0, 0) := (pg_217 176).trans rfl
theorem f_217_177 : fe0 217 177 = some (.getfield 71, 3, 9, 33, 1, 0, 5057) := (pg_217 177).trans rfl
theorem f_217_180 : fe0 217 180 = some (.iload 10, 2, 0, 0, 0, 0, 0) := (pg_217 180).trans rfl
theorem f_217_182 : fe0 217 182 = some (.iconst 1, 1, 0, 0, 0, 0, 0) := (pg_217 182).trans rfl
theorem f_217_183 : fe0 217 183 = some (.isub, 1, 0, 0, 0, 0, 0) := (pg_217 183).trans rfl
theorem f_217_184 : fe0 217 184 = some (.iaload, 1, 0, 0, 0, 0, 0) := (pg_217 184).trans rfl
theorem f_217_185 : fe0 217 185 = some (.iload 9, 2, 0, 0, 0, 0, 0) := (pg_217 185).trans rfl
theorem f_217_187 : fe0 217 187 = some (.if_icmp .le 25, 3, 0, 0, 0, 0, 0) := (pg_217 187).trans rfl
theorem f_217_190 : fe0 217 190 = some (.aload_n 0, 1, 0, 0, 0, 0, 0) := (pg_217 190).trans rfl
theorem f_217_191 : fe0 217 191 = some (.getfield 71, 3, 9, 33, 1, 0, 5057) := (pg_217 191).trans rfl
theorem f_217_194 : fe0 217 194 = some (.iload 10, 2, 0, 0, 0, 0, 0) := (pg_217 194).trans rfl
theorem f_217_196 : fe0 217 196 = some (.aload_n 0, 1, 0, 0, 0, 0, 0) := (pg_217 196).trans rfl
theorem f_217_197 : fe0 217 197 = some (.getfield 71, 3, 9, 33, 1, 0, 5057) := (pg_217 197).trans rfl
theorem f_217_200 : fe0 217 200 = some (.iload 10, 2, 0, 0, 0, 0, 0) := (pg_217 200).trans rfl
theorem f_217_202 : fe0 217 202 = some (.iconst 1, 1, 0, 0, 0, 0, 0) := (pg_217 202).trans rfl
theorem f_217_203 : fe0 217 203 = some (.isub, 1, 0, 0, 0, 0, 0) := (pg_217 203).trans rfl
theorem f_217_204 : fe0 217 204 = some (.iaload, 1, 0, 0, 0, 0, 0) := (pg_217 204).trans rfl
theorem f_217_205 : fe0 217 205 = some (.iastore, 1, 0, 0, 0, 0, 0) := (pg_217 205).trans rfl
theorem f_217_206 : fe0 217 206 = some (.iinc 10 (-1), 3, 0, 0, 0, 0, 0) := (pg_217 206).trans rfl
theorem f_217_209 : fe0 217 209 = some (.goto (-38), 3, 0, 0, 0, 0, 0) := (pg_217 209).trans rfl
theorem f_217_212 : fe0 217 212 = some (.aload_n 0, 1, 0, 0, 0, 0, 0) := (pg_217 212).trans rfl
theorem f_217_213 : fe0 217 213 = some (.getfield 71, 3, 9, 33, 1, 0, 5057) := (pg_217 213).trans rfl
theorem f_217_216 : fe0 217 216 = some (.iload 10, 2, 0, 0, 0, 0, 0) := (pg_217 216).trans rfl
theorem f_217_218 : fe0 217 218 = some (.iload 9, 2, 0, 0, 0, 0, 0) := (pg_217 218).trans rfl
theorem f_217_220 : fe0 217 220 = some (.iastore, 1, 0, 0, 0, 0, 0) := (pg_217 220).trans rfl
theorem f_217_221 : fe0 217 221 = some (.iinc 3 1, 3, 0, 0, 0, 0, 0) := (pg_217 221).trans rfl
theorem f_217_224 : fe0 217 224 = some (.iinc 7 1, 3, 0, 0, 0, 0, 0) := (pg_217 224).trans rfl
theorem f_217_227 : fe0 217 227 = some (.goto (-178), 3, 0, 0, 0, 0, 0) := (pg_217 227).trans rfl
theorem f_217_230 : fe0 217 230 = some (.iload_n 3, 1, 0, 0, 0, 0, 0) := (pg_217 230).trans rfl
theorem f_217_231 : fe0 217 231 = some (.ifCond .ne 6, 3, 0, 0, 0, 0, 0) := (pg_217 231).trans rfl
theorem f_217_234 : fe0 217 234 = some (.ldc 83, 2, 0, 0, 3294967291, 0, 6036) := (pg_217 234).trans rfl
theorem f_217_236 : fe0 217 236 = some (.ireturn, 1, 0, 0, 0, 0, 0) := (pg_217 236).trans rfl
theorem f_217_237 : fe0 217 237 = some (.iload_n 2, 1, 0, 0, 0, 0, 0) := (pg_217 237).trans rfl
theorem f_217_238 : fe0 217 238 = some (.ifCond .ne 8, 3, 0, 0, 0, 0, 0) := (pg_217 238).trans rfl
theorem f_217_241 : fe0 217 241 = some (.iload 4, 2, 0, 0, 0, 0, 0) := (pg_217 241).trans rfl
theorem f_217_243 : fe0 217 243 = some (.goto 33, 3, 0, 0, 0, 0, 0) := (pg_217 243).trans rfl
theorem f_217_246 : fe0 217 246 = some (.iload_n 2, 1, 0, 0, 0, 0, 0) := (pg_217 246).trans rfl
theorem f_217_247 : fe0 217 247 = some (.iconst 1, 1, 0, 0, 0, 0, 0) := (pg_217 247).trans rfl
theorem f_217_248 : fe0 217 248 = some (.if_icmp .ne 8, 3, 0, 0, 0, 0, 0) := (pg_217 248).trans rfl
theorem f_217_251 : fe0 217 251 = some (.iload 5, 2, 0, 0, 0, 0, 0) := (pg_217 251).trans rfl
theorem f_217_253 : fe0 217 253 = some (.goto 23, 3, 0, 0, 0, 0, 0) := (pg_217 253).trans rfl
theorem f_217_256 : fe0 217 256 = some (.iload_n 2, 1, 0, 0, 0, 0, 0) := (pg_217 256).trans rfl
theorem f_217_257 : fe0 217 257 = some (.iconst 2, 1, 0, 0, 0, 0, 0) := (pg_217 257).trans rfl
theorem f_217_258 : fe0 217 258 = some (.if_icmp .ne 8, 3, 0, 0, 0, 0, 0) := (pg_217 258).trans rfl
theorem f_217_261 : fe0 217 261 = some (.iload 6, 2, 0, 0, 0, 0, 0) := (pg_217 261).trans rfl
theorem f_217_263 : fe0 217 263 = some (.goto 13, 3, 0, 0, 0, 0, 0) := (pg_217 263).trans rfl
theorem f_217_266 : fe0 217 266 = some (.aload_n 0, 1, 0, 0, 0, 0, 0) := (pg_217 266).trans rfl
theorem f_217_267 : fe0 217 267 = some (.getfield 71, 3, 9, 33, 1, 0, 5057) := (pg_217 267).trans rfl
theorem f_217_270 : fe0 217 270 = some (.iload_n 3, 1, 0, 0, 0, 0, 0) := (pg_217 270).trans rfl
theorem f_217_271 : fe0 217 271 = some (.iconst 1, 1, 0, 0, 0, 0, 0) := (pg_217 271).trans rfl
theorem f_217_272 : fe0 217 272 = some (.isub, 1, 0, 0, 0, 0, 0) := (pg_217 272).trans rfl
theorem f_217_273 : fe0 217 273 = some (.iconst 2, 1, 0, 0, 0, 0, 0) := (pg_217 273).trans rfl
theorem f_217_274 : fe0 217 274 = some (.idiv, 1, 0, 0, 0, 0, 0) := (pg_217 274).trans rfl
theorem f_217_275 : fe0 217 275 = some (.iaload, 1, 0, 0, 0, 0, 0) := (pg_217 275).trans rfl
theorem f_217_276 : fe0 217 276 = some (.ireturn, 1, 0, 0, 0, 0, 0) := (pg_217 276).trans rfl
theorem q_217_0 (d : Nat) (l0 : Nat) (x1 : Int32) (x2 : Int32) (μ : aMem) : Rn (d + 1) 217 (0, [.ref l0, .int x1, .int x2, un, un, un, un, un, un, un, un], [], μ) = (cI d 213 [.int x1] μ).bind fun p1 => if p1.1 = 0 then (Rn (d + 1) 217 (19, [.ref l0, .int x1, .int x2, un, un, un, un, un, un, un, un], [], p1.2)) else ((cI d 133 [.long ((x2 : Int32).toInt64), .long 0, .long 3] p1.2).bind fun p3 => if p3.1 = 0 then (Rn (d + 1) 217 (19, [.ref l0, .int x1, .int x2, un, un, un, un, un, un, un, un], [], p3.2)) else (if (mS p3.2 l0).1 = 9 then ((rdI p3.2 (mR p3.2 l0 4) x1).bind fun v6 => if 0 ≤ v6 then (Rn (d + 1) 217 (49, [.ref l0, .int x1, .int x2, .int 0, .int (-1), .int (-1), .int 0, .int 0, un, un, un], [], p3.2)) else (some (some (.int (-1000000011)), p3.2))) else none)) :=
  (e_nx f_217_0 rfl).trans ((e_cI (L := [.ref l0, .int x1, .int x2, un, un, un, un, un, un, un, un]) (st := [.int x1]) (μ := μ) (L' := [.ref l0, .int x1, .int x2, un, un, un, un, un, un, un, un]) (st' := []) f_217_1 rfl rfl).trans (m_congr fun p1 => (e_eq f_217_4 rfl).trans (b_congr (fun h2 => rfl) (fun h2 => (e_nx f_217_7 rfl).trans ((e_nx f_217_8 rfl).trans ((e_nx (q := (_, _, .long 0 :: _, _)) f_217_9 rfl).trans ((e_nx (q := (_, _, .long 3 :: _, _)) f_217_10 rfl).trans ((e_cI (L := [.ref l0, .int x1, .int x2, un, un, un, un, un, un, un, un]) (st := [.long 3, .long 0, .long ((x2 : Int32).toInt64)]) (μ := p1.2) (L' := [.ref l0, .int x1, .int x2, un, un, un, un, un, un, un, un]) (st' := []) f_217_13 rfl rfl).trans (m_congr fun p3 => (e_ne f_217_16 rfl).trans (b_congr (fun h4 => rfl) (fun h4 => (e_nx f_217_22 rfl).trans ((e_gd f_217_23 rfl).trans (g_congr (Iff.rfl) (fun h5 => (e_nx f_217_26 rfl).trans ((e_ia (L := [.ref l0, .int x1, .int x2, un, un, un, un, un, un, un, un]) (r := []) (μ := p3.2) f_217_27).trans (m_congr fun v6 => (e_ge f_217_28 rfl).trans (b_congr (fun h7 => (e_nx (q := (_, _, .int 0 :: _, _)) f_217_35 rfl).trans ((e_nx (q := (_, [.ref l0, .int x1, .int x2, .int 0, un, un, un, un, un, un, un], _, _)) f_217_36 rfl).trans ((e_nx (q := (_, _, .int (-1) :: _, _)) f_217_37 rfl).trans ((e_nx (q := (_, [.ref l0, .int x1, .int x2, .int 0, .int (-1), un, un, un, un, un, un], _, _)) f_217_38 rfl).trans ((e_nx (q := (_, _, .int (-1) :: _, _)) f_217_40 rfl).trans ((e_nx (q := (_, [.ref l0, .int x1, .int x2, .int 0, .int (-1), .int (-1), un, un, un, un, un], _, _)) f_217_41 rfl).trans ((e_nx (q := (_, _, .int 0 :: _, _)) f_217_43 rfl).trans ((e_nx (q := (_, [.ref l0, .int x1, .int x2, .int 0, .int (-1), .int (-1), .int 0, un, un, un, un], _, _)) f_217_44 rfl).trans ((e_nx (q := (_, _, .int 0 :: _, _)) f_217_46 rfl).trans (e_nx (q := (_, [.ref l0, .int x1, .int x2, .int 0, .int (-1), .int (-1), .int 0, .int 0, un, un, un], _, _)) f_217_47 rfl)))))))))) (fun h7 => (e_nx (q := (_, _, .int (-1000000011) :: _, _)) f_217_31 rfl).trans (e_rt f_217_34 rfl)))))))))))))))))))
theorem q_217_19 (d : Nat) (l0 : Nat) (x1 : Int32) (x2 : Int32) (w3 : Value) (w4 : Value) (w5 : Value) (w6 : Value) (w7 : Value) (w8 : Value) (w9 : Value) (w10 : Value) (μ : aMem) : Rn (d + 1) 217 (19, [.ref l0, .int x1, .int x2, w3, w4, w5, w6, w7, w8, w9, w10], [], μ) = some (some (.int (-1000000001)), μ) :=
  (e_nx (q := (_, _, .int (-1000000001) :: _, _)) f_217_19 rfl).trans (e_rt f_217_21 rfl)
theorem q_217_49 (d : Nat) (l0 : Nat) (x1 : Int32) (x2 : Int32) (x3 : Int32) (x4 : Int32) (x5 : Int32) (x6 : Int32) (x7 : Int32) (w8 : Value) (w9 : Value) (w10 : Value) (μ : aMem) : Rn (d + 1) 217 (49, [.ref l0, .int x1, .int x2, .int x3, .int x4, .int x5, .int x6, .int x7, w8, w9, w10], [], μ) = if (mS μ l0).1 = 9 then ((rdI μ (mR μ l0 5) x1).bind fun v2 => if v2 ≤ x7 then (if x3 = 0 then (some (some (.int (-1000000005)), μ)) else (if x2 = 0 then (Rn (d + 1) 217 (276, [.ref l0, .int x1, .int x2, .int x3, .int x4, .int x5, .int x6, .int x7, w8, w9, w10], [.int x4], μ)) else (if x2 = 1 then (Rn (d + 1) 217 (276, [.ref l0, .int x1, .int x2, .int x3, .int x4, .int x5, .int x6, .int x7, w8, w9, w10], [.int x5], μ)) else (if x2 = 2 then (Rn (d + 1) 217 (276, [.ref l0, .int x1, .int x2, .int x3, .int x4, .int x5, .int x6, .int x7, w8, w9, w10], [.int x6], μ)) else ((rdI μ (mR μ l0 33) ((x3 - 1) / 2)).bind fun v8 => Rn (d + 1) 217 (276, [.ref l0, .int x1, .int x2, .int x3, .int x4, .int x5, .int x6, .int x7, w8, w9, w10], [.int v8], μ)))))) else ((rdI μ (mR μ l0 6) ((24 * x1) + x7)).bind fun v9 => if v9 = (-1000000005) then (Rn (d + 1) 217 (224, [.ref l0, .int x1, .int x2, .int x3, .int x4, .int x5, .int x6, .int x7, .int (24 * x1), .int v9, w10], [], μ)) else (if x4 < 0 then (Rn (d + 1) 217 (105, [.ref l0, .int x1, .int x2, .int x3, .int x4, .int x5, .int x6, .int x7, .int (24 * x1), .int v9, w10], [], μ)) else ((rdI μ (mR μ l0 6) ((24 * x1) + x4)).bind fun v12 => if v12 ≤ v9 then (Rn (d + 1) 217 (112, [.ref l0, .int x1, .int x2, .int x3, .int x4, .int x5, .int x6, .int x7, .int (24 * x1), .int v9, w10], [.int x4], μ)) else (Rn (d + 1) 217 (105, [.ref l0, .int x1, .int x2, .int x3, .int x4, .int x5, .int x6, .int x7, .int (24 * x1), .int v9, w10], [], μ)))))) else none :=
  (e_nx f_217_49 rfl).trans ((e_nx f_217_51 rfl).trans ((e_gd f_217_52 rfl).trans (g_congr (Iff.rfl) (fun h1 => (e_nx f_217_55 rfl).trans ((e_ia (L := [.ref l0, .int x1, .int x2, .int x3, .int x4, .int x5, .int x6, .int x7, w8, w9, w10]) (r := [.int x7]) (μ := μ) f_217_56).trans (m_congr fun v2 => (e_ge f_217_57 rfl).trans (b_congr (fun h3 => (e_nx f_217_230 rfl).trans ((e_ne f_217_231 rfl).trans (b_congr (fun h4 => (e_nx (q := (_, _, .int (-1000000005) :: _, _)) f_217_234 rfl).trans (e_rt f_217_236 rfl)) (fun h4 => (e_nx f_217_237 rfl).trans ((e_ne f_217_238 rfl).trans (b_congr (fun h5 => (e_nx f_217_241 rfl).trans (e_nx f_217_243 rfl)) (fun h5 => (e_nx f_217_246 rfl).trans ((e_nx (q := (_, _, .int 1 :: _, _)) f_217_247 rfl).trans ((e_ne f_217_248 rfl).trans (b_congr (fun h6 => (e_nx f_217_251 rfl).trans (e_nx f_217_253 rfl)) (fun h6 => (e_nx f_217_256 rfl).trans ((e_nx (q := (_, _, .int 2 :: _, _)) f_217_257 rfl).trans ((e_ne f_217_258 rfl).trans (b_congr (fun h7 => (e_nx f_217_261 rfl).trans (e_nx f_217_263 rfl)) (fun h7 => (e_nx f_217_266 rfl).trans ((e_gk f_217_267 (h1) rfl).trans ((e_nx f_217_270 rfl).trans ((e_nx (q := (_, _, .int 1 :: _, _)) f_217_271 rfl).trans ((e_nx f_217_272 rfl).trans ((e_nx (q := (_, _, .int 2 :: _, _)) f_217_273 rfl).trans ((e_nx f_217_274 rfl).trans ((e_ia (L := [.ref l0, .int x1, .int x2, .int x3, .int x4, .int x5, .int x6, .int x7, w8, w9, w10]) (r := []) (μ := μ) f_217_275).trans (m_congr fun v8 => rfl))))))))))))))))))))))) (fun h3 => (e_nx (q := (_, _, .int 24 :: _, _)) f_217_60 rfl).trans ((e_nx f_217_62 rfl).trans ((e_nx f_217_63 rfl).trans ((e_nx (q := (_, [.ref l0, .int x1, .int x2, .int x3, .int x4, .int x5, .int x6, .int x7, .int (24 * x1), w9, w10], _, _)) f_217_64 rfl).trans ((e_nx f_217_66 rfl).trans ((e_gk f_217_67 (h1) rfl).trans ((e_nx f_217_70 rfl).trans ((e_nx f_217_72 rfl).trans ((e_nx f_217_74 rfl).trans ((e_ia (L := [.ref l0, .int x1, .int x2, .int x3, .int x4, .int x5, .int x6, .int x7, .int (24 * x1), w9, w10]) (r := []) (μ := μ) f_217_75).trans (m_congr fun v9 => (e_nx (q := (_, [.ref l0, .int x1, .int x2, .int x3, .int x4, .int x5, .int x6, .int x7, .int (24 * x1), .int v9, w10], _, _)) f_217_76 rfl).trans ((e_nx f_217_78 rfl).trans ((e_nx (q := (_, _, .int (-1000000005) :: _, _)) f_217_80 rfl).trans ((e_eq f_217_82 rfl).trans (b_congr (fun h10 => rfl) (fun h10 => (e_nx f_217_85 rfl).trans ((e_lt f_217_87 rfl).trans (b_congr (fun h11 => rfl) (fun h11 => (e_nx f_217_90 rfl).trans ((e_nx f_217_92 rfl).trans ((e_gk f_217_93 (h1) rfl).trans ((e_nx f_217_96 rfl).trans ((e_nx f_217_98 rfl).trans ((e_nx f_217_100 rfl).trans ((e_ia (L := [.ref l0, .int x1, .int x2, .int x3, .int x4, .int x5, .int x6, .int x7, .int (24 * x1), .int v9, w10]) (r := [.int v9]) (μ := μ) f_217_101).trans (m_congr fun v12 => (e_ge f_217_102 rfl).trans (b_congr (fun h13 => e_nx f_217_110 rfl) (fun h13 => rfl)))))))))))))))))))))))))))))))))))
theorem q_217_105 (d : Nat) (l0 : Nat) (x1 : Int32) (x2 : Int32) (x3 : Int32) (x4 : Int32) (x5 : Int32) (x6 : Int32) (x7 : Int32) (x8 : Int32) (x9 : Int32) (w10 : Value) (μ : aMem) : Rn (d + 1) 217 (105, [.ref l0, .int x1, .int x2, .int x3, .int x4, .int x5, .int x6, .int x7, .int x8, .int x9, w10], [], μ) = Rn (d + 1) 217 (112, [.ref l0, .int x1, .int x2, .int x3, .int x4, .int x5, .int x6, .int x7, .int x8, .int x9, w10], [.int x7], μ) :=
  (e_nx f_217_105 rfl).trans (e_nx f_217_107 rfl)
theorem q_217_112 (d : Nat) (l0 : Nat) (x1 : Int32) (x2 : Int32) (x3 : Int32) (x4 : Int32) (x5 : Int32) (x6 : Int32) (x7 : Int32) (x8 : Int32) (x9 : Int32) (w10 : Value) (xs0 : Int32) (μ : aMem) : Rn (d + 1) 217 (112, [.ref l0, .int x1, .int x2, .int x3, .int x4, .int x5, .int x6, .int x7, .int x8, .int x9, w10], [.int xs0], μ) = if x5 < 0 then (Rn (d + 1) 217 (134, [.ref l0, .int x1, .int x2, .int x3, .int xs0, .int x5, .int x6, .int x7, .int x8, .int x9, w10], [], μ)) else (if (mS μ l0).1 = 9 then ((rdI μ (mR μ l0 6) (x8 + x5)).bind fun v3 => if x9 ≤ v3 then (Rn (d + 1) 217 (141, [.ref l0, .int x1, .int x2, .int x3, .int xs0, .int x5, .int x6, .int x7, .int x8, .int x9, w10], [.int x5], μ)) else (Rn (d + 1) 217 (134, [.ref l0, .int x1, .int x2, .int x3, .int xs0, .int x5, .int x6, .int x7, .int x8, .int x9, w10], [], μ))) else none) :=
  (e_nx (q := (_, [.ref l0, .int x1, .int x2, .int x3, .int xs0, .int x5, .int x6, .int x7, .int x8, .int x9, w10], _, _)) f_217_112 rfl).trans ((e_nx f_217_114 rfl).trans ((e_lt f_217_116 rfl).trans (b_congr (fun h1 => rfl) (fun h1 => (e_nx f_217_119 rfl).trans ((e_nx f_217_121 rfl).trans ((e_gd f_217_122 rfl).trans (g_congr (Iff.rfl) (fun h2 => (e_nx f_217_125 rfl).trans ((e_nx f_217_127 rfl).trans ((e_nx f_217_129 rfl).trans ((e_ia (L := [.ref l0, .int x1, .int x2, .int x3, .int xs0, .int x5, .int x6, .int x7, .int x8, .int x9, w10]) (r := [.int x9]) (μ := μ) f_217_130).trans (m_congr fun v3 => (e_le f_217_131 rfl).trans (b_congr (fun h4 => e_nx f_217_139 rfl) (fun h4 => rfl))))))))))))))
theorem q_217_134 (d : Nat) (l0 : Nat) (x1 : Int32) (x2 : Int32) (x3 : Int32) (x4 : Int32) (x5 : Int32) (x6 : Int32) (x7 : Int32) (x8 : Int32) (x9 : Int32) (w10 : Value) (μ : aMem) : Rn (d + 1) 217 (134, [.ref l0, .int x1, .int x2, .int x3, .int x4, .int x5, .int x6, .int x7, .int x8, .int x9, w10], [], μ) = Rn (d + 1) 217 (141, [.ref l0, .int x1, .int x2, .int x3, .int x4, .int x5, .int x6, .int x7, .int x8, .int x9, w10], [.int x7], μ) :=
  (e_nx f_217_134 rfl).trans (e_nx f_217_136 rfl)
theorem q_217_141 (d : Nat) (l0 : Nat) (x1 : Int32) (x2 : Int32) (x3 : Int32) (x4 : Int32) (x5 : Int32) (x6 : Int32) (x7 : Int32) (x8 : Int32) (x9 : Int32) (w10 : Value) (xs0 : Int32) (μ : aMem) : Rn (d + 1) 217 (141, [.ref l0, .int x1, .int x2, .int x3, .int x4, .int x5, .int x6, .int x7, .int x8, .int x9, w10], [.int xs0], μ) = if x9 ≤ 0 then (Rn (d + 1) 217 (164, [.ref l0, .int x1, .int x2, .int x3, .int x4, .int xs0, .int x6, .int x7, .int x8, .int x9, w10], [.int x6], μ)) else ((cI d 148 [.int x9] μ).bind fun p2 => if p2.1 = x9 then (Rn (d + 1) 217 (165, [.ref l0, .int x1, .int x2, .int x3, .int x4, .int xs0, .int x6, .int x7, .int x8, .int x9, w10], [.int 1, .int x6], p2.2)) else (Rn (d + 1) 217 (164, [.ref l0, .int x1, .int x2, .int x3, .int x4, .int xs0, .int x6, .int x7, .int x8, .int x9, w10], [.int x6], p2.2))) :=
  (e_nx (q := (_, [.ref l0, .int x1, .int x2, .int x3, .int x4, .int xs0, .int x6, .int x7, .int x8, .int x9, w10], _, _)) f_217_141 rfl).trans ((e_nx f_217_143 rfl).trans ((e_nx f_217_145 rfl).trans ((e_le f_217_147 rfl).trans (b_congr (fun h1 => rfl) (fun h1 => (e_nx f_217_150 rfl).trans ((e_cI (L := [.ref l0, .int x1, .int x2, .int x3, .int x4, .int xs0, .int x6, .int x7, .int x8, .int x9, w10]) (st := [.int x9, .int x6]) (μ := μ) (L' := [.ref l0, .int x1, .int x2, .int x3, .int x4, .int xs0, .int x6, .int x7, .int x8, .int x9, w10]) (st' := [.int x6]) f_217_152 rfl rfl).trans (m_congr fun p2 => (e_nx f_217_155 rfl).trans ((e_ne f_217_157 rfl).trans (b_congr (fun h3 => (e_nx (q := (_, _, .int 1 :: _, _)) f_217_160 rfl).trans (e_nx f_217_161 rfl)) (fun h3 => rfl))))))))))
theorem q_217_164 (d : Nat) (l0 : Nat) (x1 : Int32) (x2 : Int32) (x3 : Int32) (x4 : Int32) (x5 : Int32) (x6 : Int32) (x7 : Int32) (x8 : Int32) (x9 : Int32) (w10 : Value) (xs0 : Int32) (μ : aMem) : Rn (d + 1) 217 (164, [.ref l0, .int x1, .int x2, .int x3, .int x4, .int x5, .int x6, .int x7, .int x8, .int x9, w10], [.int xs0], μ) = Rn (d + 1) 217 (165, [.ref l0, .int x1, .int x2, .int x3, .int x4, .int x5, .int x6, .int x7, .int x8, .int x9, w10], [.int 0, .int xs0], μ) :=
  e_nx (q := (_, _, .int 0 :: _, _)) f_217_164 rfl
theorem q_217_165 (d : Nat) (l0 : Nat) (x1 : Int32) (x2 : Int32) (x3 : Int32) (x4 : Int32) (x5 : Int32) (x6 : Int32) (x7 : Int32) (x8 : Int32) (x9 : Int32) (w10 : Value) (xs0 : Int32) (xs1 : Int32) (μ : aMem) : Rn (d + 1) 217 (165, [.ref l0, .int x1, .int x2, .int x3, .int x4, .int x5, .int x6, .int x7, .int x8, .int x9, w10], [.int xs0, .int xs1], μ) = Rn (d + 1) 217 (171, [.ref l0, .int x1, .int x2, .int x3, .int x4, .int x5, .int (xs1 + xs0), .int x7, .int x8, .int x9, .int x3], [], μ) :=
  (e_nx f_217_165 rfl).trans ((e_nx (q := (_, [.ref l0, .int x1, .int x2, .int x3, .int x4, .int x5, .int (xs1 + xs0), .int x7, .int x8, .int x9, w10], _, _)) f_217_166 rfl).trans ((e_nx f_217_168 rfl).trans (e_nx (q := (_, [.ref l0, .int x1, .int x2, .int x3, .int x4, .int x5, .int (xs1 + xs0), .int x7, .int x8, .int x9, .int x3], _, _)) f_217_169 rfl)))
theorem q_217_171 (d : Nat) (l0 : Nat) (x1 : Int32) (x2 : Int32) (x3 : Int32) (x4 : Int32) (x5 : Int32) (x6 : Int32) (x7 : Int32) (x8 : Int32) (x9 : Int32) (x10 : Int32) (μ : aMem) : Rn (d + 1) 217 (171, [.ref l0, .int x1, .int x2, .int x3, .int x4, .int x5, .int x6, .int x7, .int x8, .int x9, .int x10], [], μ) = if x10 ≤ 0 then (Rn (d + 1) 217 (212, [.ref l0, .int x1, .int x2, .int x3, .int x4, .int x5, .int x6, .int x7, .int x8, .int x9, .int x10], [], μ)) else (if (mS μ l0).1 = 9 then ((rdI μ (mR μ l0 33) (x10 - 1)).bind fun v3 => if v3 ≤ x9 then (Rn (d + 1) 217 (212, [.ref l0, .int x1, .int x2, .int x3, .int x4, .int x5, .int x6, .int x7, .int x8, .int x9, .int x10], [], μ)) else ((rdI μ (mR μ l0 33) (x10 - 1)).bind fun v5 => if (mS μ (mR μ l0 33)).1 = 10 ∧ inb x10 (mS μ (mR μ l0 33)).2 then (Rn (d + 1) 217 (171, [.ref l0, .int x1, .int x2, .int x3, .int x4, .int x5, .int x6, .int x7, .int x8, .int x9, .int (x10 + (-1))], [], setF μ (mR μ l0 33) (ix x10) v5)) else none)) else none) :=
  (e_nx f_217_171 rfl).trans ((e_le f_217_173 rfl).trans (b_congr (fun h1 => rfl) (fun h1 => (e_nx f_217_176 rfl).trans ((e_gd f_217_177 rfl).trans (g_congr (Iff.rfl) (fun h2 => (e_nx f_217_180 rfl).trans ((e_nx (q := (_, _, .int 1 :: _, _)) f_217_182 rfl).trans ((e_nx f_217_183 rfl).trans ((e_ia (L := [.ref l0, .int x1, .int x2, .int x3, .int x4, .int x5, .int x6, .int x7, .int x8, .int x9, .int x10]) (r := []) (μ := μ) f_217_184).trans (m_congr fun v3 => (e_nx f_217_185 rfl).trans ((e_le f_217_187 rfl).trans (b_congr (fun h4 => rfl) (fun h4 => (e_nx f_217_190 rfl).trans ((e_gk f_217_191 (h2) rfl).trans ((e_nx f_217_194 rfl).trans ((e_nx f_217_196 rfl).trans ((e_gk f_217_197 (h2) rfl).trans ((e_nx f_217_200 rfl).trans ((e_nx (q := (_, _, .int 1 :: _, _)) f_217_202 rfl).trans ((e_nx f_217_203 rfl).trans ((e_ia (L := [.ref l0, .int x1, .int x2, .int x3, .int x4, .int x5, .int x6, .int x7, .int x8, .int x9, .int x10]) (r := [.int x10, .ref (mR μ l0 33)]) (μ := μ) f_217_204).trans (m_congr fun v5 => (e_gd f_217_205 rfl).trans (g_congr (Iff.rfl) (fun h6 => (e_nx (q := (_, [.ref l0, .int x1, .int x2, .int x3, .int x4, .int x5, .int x6, .int x7, .int x8, .int x9, .int (x10 + (-1))], _, _)) f_217_206 rfl).trans (e_nx f_217_209 rfl)))))))))))))))))))))))))
theorem q_217_212 (d : Nat) (l0 : Nat) (x1 : Int32) (x2 : Int32) (x3 : Int32) (x4 : Int32) (x5 : Int32) (x6 : Int32) (x7 : Int32) (x8 : Int32) (x9 : Int32) (x10 : Int32) (μ : aMem) : Rn (d + 1) 217 (212, [.ref l0, .int x1, .int x2, .int x3, .int x4, .int x5, .int x6, .int x7, .int x8, .int x9, .int x10], [], μ) = if (mS μ l0).1 = 9 then (if (mS μ (mR μ l0 33)).1 = 10 ∧ inb x10 (mS μ (mR μ l0 33)).2 then (Rn (d + 1) 217 (224, [.ref l0, .int x1, .int x2, .int (x3 + 1), .int x4, .int x5, .int x6, .int x7, .int x8, .int x9, .int x10], [], setF μ (mR μ l0 33) (ix x10) x9)) else none) else none :=
  (e_nx f_217_212 rfl).trans ((e_gd f_217_213 rfl).trans (g_congr (Iff.rfl) (fun h1 => (e_nx f_217_216 rfl).trans ((e_nx f_217_218 rfl).trans ((e_gd f_217_220 rfl).trans (g_congr (Iff.rfl) (fun h2 => e_nx (q := (_, [.ref l0, .int x1, .int x2, .int (x3 + 1), .int x4, .int x5, .int x6, .int x7, .int x8, .int x9, .int x10], _, _)) f_217_221 rfl)))))))
theorem q_217_224 (d : Nat) (l0 : Nat) (x1 : Int32) (x2 : Int32) (x3 : Int32) (x4 : Int32) (x5 : Int32) (x6 : Int32) (x7 : Int32) (x8 : Int32) (x9 : Int32) (w10 : Value) (μ : aMem) : Rn (d + 1) 217 (224, [.ref l0, .int x1, .int x2, .int x3, .int x4, .int x5, .int x6, .int x7, .int x8, .int x9, w10], [], μ) = Rn (d + 1) 217 (49, [.ref l0, .int x1, .int x2, .int x3, .int x4, .int x5, .int x6, .int (x7 + 1), .int x8, .int x9, w10], [], μ) :=
  (e_nx (q := (_, [.ref l0, .int x1, .int x2, .int x3, .int x4, .int x5, .int x6, .int (x7 + 1), .int x8, .int x9, w10], _, _)) f_217_224 rfl).trans (e_nx f_217_227 rfl)
theorem q_217_276 (d : Nat) (l0 : Nat) (x1 : Int32) (x2 : Int32) (x3 : Int32) (x4 : Int32) (x5 : Int32) (x6 : Int32) (x7 : Int32) (w8 : Value) (w9 : Value) (w10 : Value) (xs0 : Int32) (μ : aMem) : Rn (d + 1) 217 (276, [.ref l0, .int x1, .int x2, .int x3, .int x4, .int x5, .int x6, .int x7, w8, w9, w10], [.int xs0], μ) = some (some (.int xs0), μ) :=
  e_rt f_217_276 rfl
theorem pg_218 (pc : Nat) : fe0 218 pc = lk prg_218 pc := rfl
theorem f_218_0 : fe0 218 0 = some (.iload_n 1, 1, 0, 0, 0, 0, 0) := (pg_218 0).trans rfl
theorem f_218_1 : fe0 218 1 = some (.invokestatic 334, 3, 213, 1, 2, 0, 6233) := (pg_218 1).trans rfl
theorem f_218_4 : fe0 218 4 = some (.ifCond .eq 10, 3, 0, 0, 0, 0, 0) := (pg_218 4).trans rfl
theorem f_218_7 : fe0 218 7 = some (.iload_n 3, 1, 0, 0, 0, 0, 0) := (pg_218 7).trans rfl
theorem f_218_8 : fe0 218 8 = some (.invokestatic 334, 3, 213, 1, 2, 0, 6233) := (pg_218 8).trans rfl
theorem f_218_11 : fe0 218 11 = some (.ifCond .ne 6, 3, 0, 0, 0, 0, 0) := (pg_218 11).trans rfl
theorem f_218_14 : fe0 218 14 = some (.ldc 99, 2, 0, 0, 3294967295, 0, 5152) := (pg_218 14).trans rfl
theorem f_218_16 : fe0 218 16 = some (.ireturn, 1, 0, 0, 0, 0, 0) := (pg_218 16).trans rfl
theorem f_218_17 : fe0 218 17 = some (.aload_n 0, 1, 0, 0, 0, 0, 0) := (pg_218 17).trans rfl
theorem f_218_18 : fe0 218 18 = some (.getfield 19, 3, 9, 4, 1, 0, 5028) := (pg_218 18).trans rfl
theorem f_218_21 : fe0 218 21 = some (.iload_n 1, 1, 0, 0, 0, 0, 0) := (pg_218 21).trans rfl
theorem f_218_22 : fe0 218 22 = some (.iaload, 1, 0, 0, 0, 0, 0) := (pg_218 22).trans rfl
theorem f_218_23 : fe0 218 23 = some (.ifCond .lt 12, 3, 0, 0, 0, 0, 0) := (pg_218 23).trans rfl
theorem f_218_26 : fe0 218 26 = some (.aload_n 0, 1, 0, 0, 0, 0, 0) := (pg_218 26).trans rfl
theorem f_218_27 : fe0 218 27 = some (.getfield 19, 3, 9, 4, 1, 0, 5028) := (pg_218 27).trans rfl
theorem f_218_30 : fe0 218 30 = some (.iload_n 3, 1, 0, 0, 0, 0, 0) := (pg_218 30).trans rfl
theorem f_218_31 : fe0 218 31 = some (.iaload, 1, 0, 0, 0, 0, 0) := (pg_218 31).trans rfl
theorem f_218_32 : fe0 218 32 = some (.ifCond .ge 7, 3, 0, 0, 0, 0, 0) := (pg_218 32).trans rfl
theorem f_218_35 : fe0 218 35 = some (.ldc_w 338, 3, 0, 0, 3294967285, 0, 7001) := (pg_218 35).trans rfl
theorem f_218_38 : fe0 218 38 = some (.ireturn, 1, 0, 0, 0, 0, 0) := (pg_218 38).trans rfl
theorem f_218_39 : fe0 218 39 = some (.aload_n 0, 1, 0, 0, 0, 0, 0) := (pg_218 39).trans rfl
theorem f_218_40 : fe0 218 40 = some (.getfield 19, 3, 9, 4, 1, 0, 5028) := (pg_218 40).trans rfl
theorem f_218_43 : fe0 218 43 = some (.iload_n 1, 1, 0, 0, 0, 0, 0) := (pg_218 43).trans rfl
theorem f_218_44 : fe0 218 44 = some (.iaload, 1, 0, 0, 0, 0, 0) := (pg_218 44).trans rfl
theorem f_218_45 : fe0 218 45 = some (.aload_n 0, 1, 0, 0, 0, 0, 0) := (pg_218 45).trans rfl
theorem f_218_46 : fe0 218 46 = some (.getfield 19, 3, 9, 4, 1, 0, 5028) := (pg_218 46).trans rfl
theorem f_218_49 : fe0 218 49 = some (.iload_n 3, 1, 0, 0, 0, 0, 0) := (pg_218 49).trans rfl
theorem f_218_50 : fe0 218 50 = some (.iaload, 1, 0, 0, 0, 0, 0) := (pg_218 50).trans rfl
theorem f_218_51 : fe0 218 51 = some (.if_icmp .eq 6, 3, 0, 0, 0, 0, 0) := (pg_218 51).trans rfl
theorem f_218_54 : fe0 218 54 = some (.ldc 166, 2, 0, 0, 3294967284, 0, 6004) := (pg_218 54).trans rfl
theorem f_218_56 : fe0 218 56 = some (.ireturn, 1, 0, 0, 0, 0, 0) := (pg_218 56).trans rfl
theorem f_218_57 : fe0 218 57 = some (.iload_n 2, 1, 0, 0, 0, 0, 0) := (pg_218 57).trans rfl
theorem f_218_58 : fe0 218 58 = some (.ifCond .lt 48, 3, 0, 0, 0, 0, 0) := (pg_218 58).trans rfl
theorem f_218_61 : fe0 218 61 = some (.iload 4, 2, 0, 0, 0, 0, 0) := (pg_218 61).trans rfl
theorem f_218_63 : fe0 218 63 = some (.ifCond .lt 43, 3, 0, 0, 0, 0, 0) := (pg_218 63).trans rfl
theorem f_218_66 : fe0 218 66 = some (.iload 5, 2, 0, 0, 0, 0, 0) := (pg_218 66).trans rfl
theorem f_218_68 : fe0 218 68 = some (.ifCond .lt 38, 3, 0, 0, 0, 0, 0) := (pg_218 68).trans rfl
theorem f_218_71 : fe0 218 71 = some (.iload_n 2, 1, 0, 0, 0, 0, 0) := (pg_218 71).trans rfl
theorem f_218_72 : fe0 218 72 = some (.i2l, 1, 0, 0, 0, 0, 0) := (pg_218 72).trans rfl
theorem f_218_73 : fe0 218 73 = some (.iload 5, 2, 0, 0, 0, 0, 0) := (pg_218 73).trans rfl
theorem f_218_75 : fe0 218 75 = some (.i2l, 1, 0, 0, 0, 0, 0) := (pg_218 75).trans rfl
theorem f_218_76 : fe0 218 76 = some (.ladd, 1, 0, 0, 0, 0, 0) := (pg_218 76).trans rfl
theorem f_218_77 : fe0 218 77 = some (.aload_n 0, 1, 0, 0, 0, 0, 0) := (pg_218 77).trans rfl
theorem f_218_78 : fe0 218 78 = some (.getfield 22, 3, 9, 5, 1, 0, 5029) := (pg_218 78).trans rfl
theorem f_218_81 : fe0 218 81 = some (.iload_n 1, 1, 0, 0, 0, 0, 0) := (pg_218 81).trans rfl
theorem f_218_82 : fe0 218 82 = some (.iaload, 1, 0, 0, 0, 0, 0) := (pg_218 82).trans rfl
theorem f_218_83 : fe0 218 83 = some (.i2l, 1, 0, 0, 0, 0, 0) := (pg_218 83).trans rfl
theorem f_218_84 : fe0 218 84 = some (.lcmp, 1, 0, 0, 0, 0, 0) := (pg_218 84).trans rfl
theorem f_218_85 : fe0 218 85 = some (.ifCond .gt 21, 3, 0, 0, 0, 0, 0) := (pg_218 85).trans rfl
theorem f_218_88 : fe0 218 88 = some (.iload 4, 2, 0, 0, 0, 0, 0) := (pg_218 88).trans rfl
theorem f_218_90 : fe0 218 90 = some (.i2l, 1, 0, 0, 0, 0, 0) := (pg_218 90).trans rfl
theorem f_218_91 : fe0 218 91 = some (.iload 5, 2, 0, 0, 0, 0, 0) := (pg_218 91).trans rfl
theorem f_218_93 : fe0 218 93 = some (.i2l, 1, 0, 0, 0, 0, 0) := (pg_218 93).trans rfl
theorem f_218_94 : fe0 218 94 = some (.ladd, 1, 0, 0, 0, 0, 0) := (pg_218 94).trans rfl
theorem f_218_95 : fe0 218 95 = some (.aload_n 0, 1, 0, 0, 0, 0, 0) := (pg_218 95).trans rfl
theorem f_218_96 : fe0 218 96 = some (.getfield 22, 3, 9, 5, 1, 0, 5029) := (pg_218 96).trans rfl
theorem f_218_99 : fe0 218 99 = some (.iload_n 3, 1, 0, 0, 0, 0, 0) := (pg_218 99).trans rfl
theorem f_218_100 : fe0 218 100 = some (.iaload, 1, 0, 0, 0, 0, 0) := (pg_218 100).trans rfl
theorem f_218_101 : fe0 218 101 = some (.i2l, 1, 0, 0, 0, 0, 0) := (pg_218 101).trans rfl
theorem f_218_102 : fe0 218 102 = some (.lcmp, 1, 0, 0, 0, 0, 0) := (pg_218 102).trans rfl
theorem f_218_103 : fe0 218 103 = some (.ifCond .le 7, 3, 0, 0, 0, 0, 0) := (pg_218 103).trans rfl
theorem f_218_106 : fe0 218 106 = some (.ldc_w 339, 3, 0, 0, 3294967283, 0, 7002) := (pg_218 106).trans rfl
theorem f_218_109 : fe0 218 109 = some (.ireturn, 1, 0, 0, 0, 0, 0) := (pg_218 109).trans rfl
theorem f_218_110 : fe0 218 110 = some (.iconst 0, 1, 0, 0, 0, 0, 0) := (pg_218 110).trans rfl
theorem f_218_111 : fe0 218 111 = some (.istore 6, 2, 0, 0, 0, 0, 0) := (pg_218 111).trans rfl
theorem f_218_113 : fe0 218 113 = some (.iload 6, 2, 0, 0, 0, 0, 0) := (pg_218 113).trans rfl
theorem f_218_115 : fe0 218 115 = some (.iload 5, 2, 0, 0, 0, 0, 0) := (pg_218 115).trans rfl
theorem f_218_117 : fe0 218 117 = some (.if_icmp .ge 30, 3, 0, 0, 0, 0, 0) := (pg_218 117).trans rfl
theorem f_218_120 : fe0 218 120 = some (.aload_n 0, 1, 0, 0, 0, 0, 0) := (pg_218 120).trans rfl
theorem f_218_121 : fe0 218 121 = some (.getfield 74, 3, 9, 34, 1, 0, 5058) := (pg_218 121).trans rfl
theorem f_218_124 : fe0 218 124 = some (.iload 6, 2, 0, 0, 0, 0, 0) := (pg_218 124).trans rfl
theorem f_218_126 : fe0 218 126 = some (.aload_n 0, 1, 0, 0, 0, 0, 0) := (pg_218 126).trans rfl
theorem f_218_127 : fe0 218 127 = some (.getfield 25, 3, 9, 6, 1, 0, 5030) := (pg_218 127).trans rfl
theorem f_218_130 : fe0 218 130 = some (.bipush 24, 2, 0, 0, 0, 0, 0) := (pg_218 130).trans rfl
theorem f_218_132 : fe0 218 132 = some (.iload_n 1, 1, 0, 0, 0, 0, 0) := (pg_218 132).trans rfl
theorem f_218_133 : fe0 218 133 = some (.imul, 1, 0, 0, 0, 0, 0) := (pg_218 133).trans rfl
theorem f_218_134 : fe0 218 134 = some (.iload_n 2, 1, 0, 0, 0, 0, 0) := (pg_218 134).trans rfl
theorem f_218_135 : fe0 218 135 = some (.iadd, 1, 0, 0, 0, 0, 0) := (pg_218 135).trans rfl
theorem f_218_136 : fe0 218 136 = some (.iload 6, 2, 0, 0, 0, 0, 0) := (pg_218 136).trans rfl
theorem f_218_138 : fe0 218 138 = some (.iadd, 1, 0, 0, 0, 0, 0) := (pg_218 138).trans rfl
theorem f_218_139 : fe0 218 139 = some (.iaload, 1, 0, 0, 0, 0, 0) := (pg_218 139).trans rfl
theorem f_218_140 : fe0 218 140 = some (.iastore, 1, 0, 0, 0, 0, 0) := (pg_218 140).trans rfl
theorem f_218_141 : fe0 218 141 = some (.iinc 6 1, 3, 0, 0, 0, 0, 0) := (pg_218 141).trans rfl
theorem f_218_144 : fe0 218 144 = some (.goto (-31), 3, 0, 0, 0, 0, 0) := (pg_218 144).trans rfl
theorem f_218_147 : fe0 218 147 = some (.iconst 0, 1, 0, 0, 0, 0, 0) := (pg_218 147).trans rfl
theorem f_218_148 : fe0 218 148 = some (.istore 6, 2, 0, 0, 0, 0, 0) := (pg_218 148).trans rfl
theorem f_218_150 : fe0 218 150 = some (.iload 6, 2, 0, 0, 0, 0, 0) := (pg_218 150).trans rfl
theorem f_218_152 : fe0 218 152 = some (.iload 5, 2, 0, 0, 0, 0, 0) := (pg_218 152).trans rfl
theorem f_218_154 : fe0 218 154 = some (.if_icmp .ge 31, 3, 0, 0, 0, 0, 0) := (pg_218 154).trans rfl
theorem f_218_157 : fe0 218 157 = some (.aload_n 0, 1, 0, 0, 0, 0, 0) := (pg_218 157).trans rfl
theorem f_218_158 : fe0 218 158 = some (.getfield 25, 3, 9, 6, 1, 0, 5030) := (pg_218 158).trans rfl
theorem f_218_161 : fe0 218 161 = some (.bipush 24, 2, 0, 0, 0, 0, 0) := (pg_218 161).trans rfl
theorem f_218_163 : fe0 218 163 = some (.iload_n 3, 1, 0, 0, 0, 0, 0) := (pg_218 163).trans rfl
theorem f_218_164 : fe0 218 164 = some (.imul, 1, 0, 0, 0, 0, 0) := (pg_218 164).trans rfl
theorem f_218_165 : fe0 218 165 = some (.iload 4, 2, 0, 0, 0, 0, 0) := (pg_218 165).trans rfl
theorem f_218_167 : fe0 218 167 = some (.iadd, 1, 0, 0, 0, 0, 0) := (pg_218 167).trans rfl
theorem f_218_168 : fe0 218 168 = some (.iload 6, 2, 0, 0, 0, 0, 0) := (pg_218 168).trans rfl
theorem f_218_170 : fe0 218 170 = some (.iadd, 1, 0, 0, 0, 0, 0) := (pg_218 170).trans rfl
theorem f_218_171 : fe0 218 171 = some (.aload_n 0, 1, 0, 0, 0, 0, 0) := (pg_218 171).trans rfl
theorem f_218_172 : fe0 218 172 = some (.getfield 74, 3, 9, 34, 1, 0, 5058) := (pg_218 172).trans rfl
theorem f_218_175 : fe0 218 175 = some (.iload 6, 2, 0, 0, 0, 0, 0) := (pg_218 175).trans rfl
theorem f_218_177 : fe0 218 177 = some (.iaload, 1, 0, 0, 0, 0, 0) := (pg_218 177).trans rfl
theorem f_218_178 : fe0 218 178 = some (.iastore, 1, 0, 0, 0, 0, 0) := (pg_218 178).trans rfl
theorem f_218_179 : fe0 218 179 = some (.iinc 6 1, 3, 0, 0, 0, 0, 0) := (pg_218 179).trans rfl
theorem f_218_182 : fe0 218 182 = some (.goto (-32), 3, 0, 0, 0, 0, 0) := (pg_218 182).trans rfl
theorem f_218_185 : fe0 218 185 = some (.iload 5, 2, 0, 0, 0, 0, 0) := (pg_218 185).trans rfl
theorem f_218_187 : fe0 218 187 = some (.ireturn, 1, 0, 0, 0, 0, 0) := (pg_218 187).trans rfl
theorem q_218_0 (d : Nat) (l0 : Nat) (x1 : Int32) (x2 : Int32) (x3 : Int32) (x4 : Int32) (x5 : Int32) (μ : aMem) : Rn (d + 1) 218 (0, [.ref l0, .int x1, .int x2, .int x3, .int x4, .int x5, un], [], μ) = (cI d 213 [.int x1] μ).bind fun p1 => if p1.1 = 0 then (some (some (.int (-1000000001)), p1.2)) else ((cI d 213 [.int x3] p1.2).bind fun p3 => if p3.1 = 0 then (some (some (.int (-1000000001)), p3.2)) else (if (mS p3.2 l0).1 = 9 then ((rdI p3.2 (mR p3.2 l0 4) x1).bind fun v6 => if v6 < 0 then (some (some (.int (-1000000011)), p3.2)) else ((rdI p3.2 (mR p3.2 l0 4) x3).bind fun v8 => if 0 ≤ v8 then ((rdI p3.2 (mR p3.2 l0 4) x1).bind fun v10 => (rdI p3.2 (mR p3.2 l0 4) x3).bind fun v11 => if v10 = v11 then (if x2 < 0 then (some (some (.int (-1000000013)), p3.2)) else (if x4 < 0 then (some (some (.int (-1000000013)), p3.2)) else (if x5 < 0 then (some (some (.int (-1000000013)), p3.2)) else ((rdI p3.2 (mR p3.2 l0 5) x1).bind fun v16 => if 0 < (lg_cmp (((x2 : Int32).toInt64) + ((x5 : Int32).toInt64)) ((v16 : Int32).toInt64)) then (some (some (.int (-1000000013)), p3.2)) else ((rdI p3.2 (mR p3.2 l0 5) x3).bind fun v18 => if (lg_cmp (((x4 : Int32).toInt64) + ((x5 : Int32).toInt64)) ((v18 : Int32).toInt64)) ≤ 0 then (Rn (d + 1) 218 (113, [.ref l0, .int x1, .int x2, .int x3, .int x4, .int x5, .int 0], [], p3.2)) else (some (some (.int (-1000000013)), p3.2))))))) else (some (some (.int (-1000000012)), p3.2))) else (some (some (.int (-1000000011)), p3.2)))) else none)) :=
  (e_nx f_218_0 rfl).trans ((e_cI (L := [.ref l0, .int x1, .int x2, .int x3, .int x4, .int x5, un]) (st := [.int x1]) (μ := μ) (L' := [.ref l0, .int x1, .int x2, .int x3, .int x4, .int x5, un]) (st' := []) f_218_1 rfl rfl).trans (m_congr fun p1 => (e_eq f_218_4 rfl).trans (b_congr (fun h2 => (e_nx (q := (_, _, .int (-1000000001) :: _, _)) f_218_14 rfl).trans (e_rt f_218_16 rfl)) (fun h2 => (e_nx f_218_7 rfl).trans ((e_cI (L := [.ref l0, .int x1, .int x2, .int x3, .int x4, .int x5, un]) (st := [.int x3]) (μ := p1.2) (L' := [.ref l0, .int x1, .int x2, .int x3, .int x4, .int x5, un]) (st' := []) f_218_8 rfl rfl).trans (m_congr fun p3 => (e_ne f_218_11 rfl).trans (b_congr (fun h4 => (e_nx (q := (_, _, .int (-1000000001) :: _, _)) f_218_14 rfl).trans (e_rt f_218_16 rfl)) (fun h4 => (e_nx f_218_17 rfl).trans ((e_gd f_218_18 rfl).trans (g_congr (Iff.rfl) (fun h5 => (e_nx f_218_21 rfl).trans ((e_ia (L := [.ref l0, .int x1, .int x2, .int x3, .int x4, .int x5, un]) (r := []) (μ := p3.2) f_218_22).trans (m_congr fun v6 => (e_lt f_218_23 rfl).trans (b_congr (fun h7 => (e_nx (q := (_, _, .int (-1000000011) :: _, _)) f_218_35 rfl).trans (e_rt f_218_38 rfl)) (fun h7 => (e_nx f_218_26 rfl).trans ((e_gk f_218_27 (h5) rfl).trans ((e_nx f_218_30 rfl).trans ((e_ia (L := [.ref l0, .int x1, .int x2, .int x3, .int x4, .int x5, un]) (r := []) (μ := p3.2) f_218_31).trans (m_congr fun v8 => (e_ge f_218_32 rfl).trans (b_congr (fun h9 => (e_nx f_218_39 rfl).trans ((e_gk f_218_40 (h5) rfl).trans ((e_nx f_218_43 rfl).trans ((e_ia (L := [.ref l0, .int x1, .int x2, .int x3, .int x4, .int x5, un]) (r := []) (μ := p3.2) f_218_44).trans (m_congr fun v10 => (e_nx f_218_45 rfl).trans ((e_gk f_218_46 (h5) rfl).trans ((e_nx f_218_49 rfl).trans ((e_ia (L := [.ref l0, .int x1, .int x2, .int x3, .int x4, .int x5, un]) (r := [.int v10]) (μ := p3.2) f_218_50).trans (m_congr fun v11 => (e_eq f_218_51 rfl).trans (b_congr (fun h12 => (e_nx f_218_57 rfl).trans ((e_lt f_218_58 rfl).trans (b_congr (fun h13 => (e_nx (q := (_, _, .int (-1000000013) :: _, _)) f_218_106 rfl).trans (e_rt f_218_109 rfl)) (fun h13 => (e_nx f_218_61 rfl).trans ((e_lt f_218_63 rfl).trans (b_congr (fun h14 => (e_nx (q := (_, _, .int (-1000000013) :: _, _)) f_218_106 rfl).trans (e_rt f_218_109 rfl)) (fun h14 => (e_nx f_218_66 rfl).trans ((e_lt f_218_68 rfl).trans (b_congr (fun h15 => (e_nx (q := (_, _, .int (-1000000013) :: _, _)) f_218_106 rfl).trans (e_rt f_218_109 rfl)) (fun h15 => (e_nx f_218_71 rfl).trans ((e_nx f_218_72 rfl).trans ((e_nx f_218_73 rfl).trans ((e_nx f_218_75 rfl).trans ((e_nx f_218_76 rfl).trans ((e_nx f_218_77 rfl).trans ((e_gk f_218_78 (h5) rfl).trans ((e_nx f_218_81 rfl).trans ((e_ia (L := [.ref l0, .int x1, .int x2, .int x3, .int x4, .int x5, un]) (r := [.long (((x2 : Int32).toInt64) + ((x5 : Int32).toInt64))]) (μ := p3.2) f_218_82).trans (m_congr fun v16 => (e_nx f_218_83 rfl).trans ((e_nx f_218_84 rfl).trans ((e_gt f_218_85 rfl).trans (b_congr (fun h17 => (e_nx (q := (_, _, .int (-1000000013) :: _, _)) f_218_106 rfl).trans (e_rt f_218_109 rfl)) (fun h17 => (e_nx f_218_88 rfl).trans ((e_nx f_218_90 rfl).trans ((e_nx f_218_91 rfl).trans ((e_nx f_218_93 rfl).trans ((e_nx f_218_94 rfl).trans ((e_nx f_218_95 rfl).trans ((e_gk f_218_96 (h5) rfl).trans ((e_nx f_218_99 rfl).trans ((e_ia (L := [.ref l0, .int x1, .int x2, .int x3, .int x4, .int x5, un]) (r := [.long (((x4 : Int32).toInt64) + ((x5 : Int32).toInt64))]) (μ := p3.2) f_218_100).trans (m_congr fun v18 => (e_nx f_218_101 rfl).trans ((e_nx f_218_102 rfl).trans ((e_le f_218_103 rfl).trans (b_congr (fun h19 => (e_nx (q := (_, _, .int 0 :: _, _)) f_218_110 rfl).trans (e_nx (q := (_, [.ref l0, .int x1, .int x2, .int x3, .int x4, .int x5, .int 0], _, _)) f_218_111 rfl)) (fun h19 => (e_nx (q := (_, _, .int (-1000000013) :: _, _)) f_218_106 rfl).trans (e_rt f_218_109 rfl))))))))))))))))))))))))))))))))))))) (fun h12 => (e_nx (q := (_, _, .int (-1000000012) :: _, _)) f_218_54 rfl).trans (e_rt f_218_56 rfl)))))))))))) (fun h9 => (e_nx (q := (_, _, .int (-1000000011) :: _, _)) f_218_35 rfl).trans (e_rt f_218_38 rfl))))))))))))))))))))))
theorem q_218_113 (d : Nat) (l0 : Nat) (x1 : Int32) (x2 : Int32) (x3 : Int32) (x4 : Int32) (x5 : Int32) (x6 : Int32) (μ : aMem) : Rn (d + 1) 218 (113, [.ref l0, .int x1, .int x2, .int x3, .int x4, .int x5, .int x6], [], μ) = if x5 ≤ x6 then (Rn (d + 1) 218 (150, [.ref l0, .int x1, .int x2, .int x3, .int x4, .int x5, .int 0], [], μ)) else (if (mS μ l0).1 = 9 then ((rdI μ (mR μ l0 6) (((24 * x1) + x2) + x6)).bind fun v3 => if (mS μ (mR μ l0 34)).1 = 10 ∧ inb x6 (mS μ (mR μ l0 34)).2 then (Rn (d + 1) 218 (113, [.ref l0, .int x1, .int x2, .int x3, .int x4, .int x5, .int (x6 + 1)], [], setF μ (mR μ l0 34) (ix x6) v3)) else none) else none) :=
  (e_nx f_218_113 rfl).trans ((e_nx f_218_115 rfl).trans ((e_ge f_218_117 rfl).trans (b_congr (fun h1 => (e_nx (q := (_, _, .int 0 :: _, _)) f_218_147 rfl).trans (e_nx (q := (_, [.ref l0, .int x1, .int x2, .int x3, .int x4, .int x5, .int 0], _, _)) f_218_148 rfl)) (fun h1 => (e_nx f_218_120 rfl).trans ((e_gd f_218_121 rfl).trans (g_congr (Iff.rfl) (fun h2 => (e_nx f_218_124 rfl).trans ((e_nx f_218_126 rfl).trans ((e_gk f_218_127 (h2) rfl).trans ((e_nx (q := (_, _, .int 24 :: _, _)) f_218_130 rfl).trans ((e_nx f_218_132 rfl).trans ((e_nx f_218_133 rfl).trans ((e_nx f_218_134 rfl).trans ((e_nx f_218_135 rfl).trans ((e_nx f_218_136 rfl).trans ((e_nx f_218_138 rfl).trans ((e_ia (L := [.ref l0, .int x1, .int x2, .int x3, .int x4, .int x5, .int x6]) (r := [.int x6, .ref (mR μ l0 34)]) (μ := μ) f_218_139).trans (m_congr fun v3 => (e_gd f_218_140 rfl).trans (g_congr (Iff.rfl) (fun h4 => (e_nx (q := (_, [.ref l0, .int x1, .int x2, .int x3, .int x4, .int x5, .int (x6 + 1)], _, _)) f_218_141 rfl).trans (e_nx f_218_144 rfl)))))))))))))))))))))
theorem q_218_150 (d : Nat) (l0 : Nat) (x1 : Int32) (x2 : Int32) (x3 : Int32) (x4 : Int32) (x5 : Int32) (x6 : Int32) (μ : aMem) : Rn (d + 1) 218 (150, [.ref l0, .int x1, .int x2, .int x3, .int x4, .int x5, .int x6], [], μ) = if x5 ≤ x6 then (some (some (.int x5), μ)) else (if (mS μ l0).1 = 9 then ((rdI μ (mR μ l0 34) x6).bind fun v3 => if (mS μ (mR μ l0 6)).1 = 10 ∧ inb (((24 * x3) + x4) + x6) (mS μ (mR μ l0 6)).2 then (Rn (d + 1) 218 (150, [.ref l0, .int x1, .int x2, .int x3, .int x4, .int x5, .int (x6 + 1)], [], setF μ (mR μ l0 6) (ix (((24 * x3) + x4) + x6)) v3)) else none) else none) :=
  (e_nx f_218_150 rfl).trans ((e_nx f_218_152 rfl).trans ((e_ge f_218_154 rfl).trans (b_congr (fun h1 => (e_nx f_218_185 rfl).trans (e_rt f_218_187 rfl)) (fun h1 => (e_nx f_218_157 rfl).trans ((e_gd f_218_158 rfl).trans (g_congr (Iff.rfl) (fun h2 => (e_nx (q := (_, _, .int 24 :: _, _)) f_218_161 rfl).trans ((e_nx f_218_163 rfl).trans ((e_nx f_218_164 rfl).trans ((e_nx f_218_165 rfl).trans ((e_nx f_218_167 rfl).trans ((e_nx f_218_168 rfl).trans ((e_nx f_218_170 rfl).trans ((e_nx f_218_171 rfl).trans ((e_gk f_218_172 (h2) rfl).trans ((e_nx f_218_175 rfl).trans ((e_ia (L := [.ref l0, .int x1, .int x2, .int x3, .int x4, .int x5, .int x6]) (r := [.int (((24 * x3) + x4) + x6), .ref (mR μ l0 6)]) (μ := μ) f_218_177).trans (m_congr fun v3 => (e_gd f_218_178 rfl).trans (g_congr (Iff.rfl) (fun h4 => (e_nx (q := (_, [.ref l0, .int x1, .int x2, .int x3, .int x4, .int x5, .int (x6 + 1)], _, _)) f_218_179 rfl).trans (e_nx f_218_182 rfl)))))))))))))))))))))
theorem pg_219 (pc : Nat) : fe0 219 pc = lk prg_219 pc := rfl
theorem f_219_0 : fe0 219 0 = some (.iload_n 0, 1, 0, 0, 0, 0, 0) := (pg_219 0).trans rfl
theorem f_219_1 : fe0 219 1 = some (.i2l, 1, 0, 0, 0, 0, 0) := (pg_219 1).trans rfl
theorem f_219_2 : fe0 219 2 = some (.lconst 0, 1, 0, 0, 0, 0, 0) := (pg_219 2).trans rfl
theorem f_219_3 : fe0 219 3 = some (.ldc2_w 344, 3, 0, 0, 4, 0, 7024) := (pg_219 3).trans rfl
theorem f_219_6 : fe0 219 6 = some (.invokestatic 84, 3, 133, 3, 2, 0, 5144) := (pg_219 6).trans rfl
theorem f_219_9 : fe0 219 9 = some (.ireturn, 1, 1, 0, 0, 0, 0) := (pg_219 9).trans rfl
theorem q_219_0 (d : Nat) (x0 : Int32) (μ : aMem) : Rn (d + 1) 219 (0, [.int x0], [], μ) = (cI d 133 [.long ((x0 : Int32).toInt64), .long 0, .long 4] μ).bind fun p1 => if p1.1 = 0 ∨ p1.1 = 1 then some (some (.int p1.1), p1.2) else none :=
  (e_nx f_219_0 rfl).trans ((e_nx f_219_1 rfl).trans ((e_nx (q := (_, _, .long 0 :: _, _)) f_219_2 rfl).trans ((e_nx (q := (_, _, .long 4 :: _, _)) f_219_3 rfl).trans ((e_cI (L := [.int x0]) (st := [.long 4, .long 0, .long ((x0 : Int32).toInt64)]) (μ := μ) (L' := [.int x0]) (st' := []) f_219_6 rfl rfl).trans (m_congr fun p1 => (e_rg f_219_9 rfl).trans (g_congr rt1_iff (fun _ => rfl)))))))
theorem pg_220 (pc : Nat) : fe0 220 pc = lk prg_220 pc := rfl
theorem f_220_0 : fe0 220 0 = some (.iload_n 2, 1, 0, 0, 0, 0, 0) := (pg_220 0).trans rfl
theorem f_220_1 : fe0 220 1 = some (.ifCond .eq 33, 3, 0, 0, 0, 0, 0) := (pg_220 1).trans rfl
theorem f_220_4 : fe0 220 4 = some (.iload_n 2, 1, 0, 0, 0, 0, 0) := (pg_220 4).trans rfl
theorem f_220_5 : fe0 220 5 = some (.iconst 3, 1, 0, 0, 0, 0, 0) := (pg_220 5).trans rfl
theorem f_220_6 : fe0 220 6 = some (.if_icmp .eq 28, 3, 0, 0, 0, 0, 0) := (pg_220 6).trans rfl
theorem f_220_9 : fe0 220 9 = some (.iload_n 2, 1, 0, 0, 0, 0, 0) := (pg_220 9).trans rfl
theorem f_220_10 : fe0 220 10 = some (.iconst 1, 1, 0, 0, 0, 0, 0) := (pg_220 10).trans rfl
theorem f_220_11 : fe0 220 11 = some (.if_icmp .ne 11, 3, 0, 0, 0, 0, 0) := (pg_220 11).trans rfl
theorem f_220_14 : fe0 220 14 = some (.aload_n 0, 1, 0, 0, 0, 0, 0) := (pg_220 14).trans rfl
theorem f_220_15 : fe0 220 15 = some (.iload_n 3, 1, 0, 0, 0, 0, 0) := (pg_220 15).trans rfl
theorem f_220_16 : fe0 220 16 = some (.invokevirtual 150, 3, 140, 1, 0, 9, 5162) := (pg_220 16).trans rfl
theorem f_220_19 : fe0 220 19 = some (.ifCond .ne 15, 3, 0, 0, 0, 0, 0) := (pg_220 19).trans rfl
theorem f_220_22 : fe0 220 22 = some (.iload_n 2, 1, 0, 0, 0, 0, 0) := (pg_220 22).trans rfl
theorem f_220_23 : fe0 220 23 = some (.iconst 2, 1, 0, 0, 0, 0, 0) := (pg_220 23).trans rfl
theorem f_220_24 : fe0 220 24 = some (.if_icmp .ne 14, 3, 0, 0, 0, 0, 0) := (pg_220 24).trans rfl
theorem f_220_27 : fe0 220 27 = some (.iload_n 3, 1, 0, 0, 0, 0, 0) := (pg_220 27).trans rfl
theorem f_220_28 : fe0 220 28 = some (.invokestatic 334, 3, 213, 1, 2, 0, 6233) := (pg_220 28).trans rfl
theorem f_220_31 : fe0 220 31 = some (.ifCond .eq 7, 3, 0, 0, 0, 0, 0) := (pg_220 31).trans rfl
theorem f_220_34 : fe0 220 34 = some (.iconst 1, 1, 0, 0, 0, 0, 0) := (pg_220 34).trans rfl
theorem f_220_35 : fe0 220 35 = some (.goto 4, 3, 0, 0, 0, 0, 0) := (pg_220 35).trans rfl
theorem f_220_38 : fe0 220 38 = some (.iconst 0, 1, 0, 0, 0, 0, 0) := (pg_220 38).trans rfl
theorem f_220_39 : fe0 220 39 = some (.istore 4, 2, 0, 0, 0, 0, 0) := (pg_220 39).trans rfl
theorem f_220_41 : fe0 220 41 = some (.iload_n 1, 1, 0, 0, 0, 0, 0) := (pg_220 41).trans rfl
theorem f_220_42 : fe0 220 42 = some (.invokestatic 346, 3, 219, 1, 2, 0, 7021) := (pg_220 42).trans rfl
theorem f_220_45 : fe0 220 45 = some (.ifCond .eq 8, 3, 0, 0, 0, 0, 0) := (pg_220 45).trans rfl
theorem f_220_48 : fe0 220 48 = some (.iload 4, 2, 0, 0, 0, 0, 0) := (pg_220 48).trans rfl
theorem f_220_50 : fe0 220 50 = some (.ifCond .ne 6, 3, 0, 0, 0, 0, 0) := (pg_220 50).trans rfl
theorem f_220_53 : fe0 220 53 = some (.ldc 99, 2, 0, 0, 3294967295, 0, 5152) := (pg_220 53).trans rfl
theorem f_220_55 : fe0 220 55 = some (.ireturn, 1, 0, 0, 0, 0, 0) := (pg_220 55).trans rfl
theorem f_220_56 : fe0 220 56 = some (.iload_n 2, 1, 0, 0, 0, 0, 0) := (pg_220 56).trans rfl
theorem f_220_57 : fe0 220 57 = some (.iconst 2, 1, 0, 0, 0, 0, 0) := (pg_220 57).trans rfl
theorem f_220_58 : fe0 220 58 = some (.if_icmp .ne 16, 3, 0, 0, 0, 0, 0) := (pg_220 58).trans rfl
theorem f_220_61 : fe0 220 61 = some (.aload_n 0, 1, 0, 0, 0, 0, 0) := (pg_220 61).trans rfl
theorem f_220_62 : fe0 220 62 = some (.getfield 19, 3, 9, 4, 1, 0, 5028) := (pg_220 62).trans rfl
theorem f_220_65 : fe0 220 65 = some (.iload_n 3, 1, 0, 0, 0, 0, 0) := (pg_220 65).trans rfl
theorem f_220_66 : fe0 220 66 = some (.iaload, 1, 0, 0, 0, 0, 0) := (pg_220 66).trans rfl
theorem f_220_67 : fe0 220 67 = some (.ifCond .ge 7, 3, 0, 0, 0, 0, 0) := (pg_220 67).trans rfl
theorem f_220_70 : fe0 220 70 = some (.ldc_w 338, 3, 0, 0, 3294967285, 0, 7001) := (pg_220 70).trans rfl
theorem f_220_73 : fe0 220 73 = some (.ireturn, 1, 0, 0, 0, 0, 0) := (pg_220 73).trans rfl
theorem f_220_74 : fe0 220 74 = some (.aload_n 0, 1, 0, 0, 0, 0, 0) := (pg_220 74).trans rfl
theorem f_220_75 : fe0 220 75 = some (.getfield 28, 3, 9, 7, 1, 0, 5031) := (pg_220 75).trans rfl
theorem f_220_78 : fe0 220 78 = some (.iload_n 1, 1, 0, 0, 0, 0, 0) := (pg_220 78).trans rfl
theorem f_220_79 : fe0 220 79 = some (.iaload, 1, 0, 0, 0, 0, 0) := (pg_220 79).trans rfl
theorem f_220_80 : fe0 220 80 = some (.istore 5, 2, 0, 0, 0, 0, 0) := (pg_220 80).trans rfl
theorem f_220_82 : fe0 220 82 = some (.aload_n 0, 1, 0, 0, 0, 0, 0) := (pg_220 82).trans rfl
theorem f_220_83 : fe0 220 83 = some (.getfield 28, 3, 9, 7, 1, 0, 5031) := (pg_220 83).trans rfl
theorem f_220_86 : fe0 220 86 = some (.iload_n 1, 1, 0, 0, 0, 0, 0) := (pg_220 86).trans rfl
theorem f_220_87 : fe0 220 87 = some (.iload_n 2, 1, 0, 0, 0, 0, 0) := (pg_220 87).trans rfl
theorem f_220_88 : fe0 220 88 = some (.iastore, 1, 0, 0, 0, 0, 0) := (pg_220 88).trans rfl
theorem f_220_89 : fe0 220 89 = some (.aload_n 0, 1, 0, 0, 0, 0, 0) := (pg_220 89).trans rfl
theorem f_220_90 : fe0 220 90 = some (.getfield 31, 3, 9, 8, 1, 0, 5032) := (pg_220 90).trans rfl
theorem f_220_93 : fe0 220 93 = some (.iload_n 1, 1, 0, 0, 0, 0, 0) := (pg_220 93).trans rfl
theorem f_220_94 : fe0 220 94 = some (.iload_n 2, 1, 0, 0, 0, 0, 0) := (pg_220 94).trans rfl
theorem f_220_95 : fe0 220 95 = some (.iconst 1, 1, 0, 0, 0, 0, 0) := (pg_220 95).trans rfl
theorem f_220_96 : fe0 220 96 = some (.if_icmp .ne 12, 3, 0, 0, 0, 0, 0) := (pg_220 96).trans rfl
theorem f_220_99 : fe0 220 99 = some (.aload_n 0, 1, 0, 0, 0, 0, 0) := (pg_220 99).trans rfl
theorem f_220_100 : fe0 220 100 = some (.iload_n 3, 1, 0, 0, 0, 0, 0) := (pg_220 100).trans rfl
theorem f_220_101 : fe0 220 101 = some (.iconst 0, 1, 0, 0, 0, 0, 0) := (pg_220 101).trans rfl
theorem f_220_102 : fe0 220 102 = some (.invokevirtual 105, 3, 139, 2, 0, 9, 5166) := (pg_220 102).trans rfl
theorem f_220_105 : fe0 220 105 = some (.goto 4, 3, 0, 0, 0, 0, 0) := (pg_220 105).trans rfl
theorem f_220_108 : fe0 220 108 = some (.iload_n 3, 1, 0, 0, 0, 0, 0) := (pg_220 108).trans rfl
theorem f_220_109 : fe0 220 109 = some (.iastore, 1, 0, 0, 0, 0, 0) := (pg_220 109).trans rfl
theorem f_220_110 : fe0 220 110 = some (.aload_n 0, 1, 0, 0, 0, 0, 0) := (pg_220 110).trans rfl
theorem f_220_111 : fe0 220 111 = some (.getfield 34, 3, 9, 9, 1, 0, 5033) := (pg_220 111).trans rfl
theorem f_220_114 : fe0 220 114 = some (.iload_n 1, 1, 0, 0, 0, 0, 0) := (pg_220 114).trans rfl
theorem f_220_115 : fe0 220 115 = some (.iload_n 2, 1, 0, 0, 0, 0, 0) := (pg_220 115).trans rfl
theorem f_220_116 : fe0 220 116 = some (.iconst 1, 1, 0, 0, 0, 0, 0) := (pg_220 116).trans rfl
theorem f_220_117 : fe0 220 117 = some (.if_icmp .ne 11, 3, 0, 0, 0, 0, 0) := (pg_220 117).trans rfl
theorem f_220_120 : fe0 220 120 = some (.aload_n 0, 1, 0, 0, 0, 0, 0) := (pg_220 120).trans rfl
theorem f_220_121 : fe0 220 121 = some (.iload_n 3, 1, 0, 0, 0, 0, 0) := (pg_220 121).trans rfl
theorem f_220_122 : fe0 220 122 = some (.invokevirtual 153, 3, 151, 1, 0, 9, 5206) := (pg_220 122).trans rfl
theorem f_220_125 : fe0 220 125 = some (.goto 4, 3, 0, 0, 0, 0, 0) := (pg_220 125).trans rfl
theorem f_220_128 : fe0 220 128 = some (.iconst 0, 1, 0, 0, 0, 0, 0) := (pg_220 128).trans rfl
theorem f_220_129 : fe0 220 129 = some (.iastore, 1, 0, 0, 0, 0, 0) := (pg_220 129).trans rfl
theorem f_220_130 : fe0 220 130 = some (.iload_n 2, 1, 0, 0, 0, 0, 0) := (pg_220 130).trans rfl
theorem f_220_131 : fe0 220 131 = some (.iconst 2, 1, 0, 0, 0, 0, 0) := (pg_220 131).trans rfl
theorem f_220_132 : fe0 220 132 = some (.if_icmp .ne 55, 3, 0, 0, 0, 0, 0) := (pg_220 132).trans rfl
theorem f_220_135 : fe0 220 135 = some (.aload_n 0, 1, 0, 0, 0, 0, 0) := (pg_220 135).trans rfl
theorem f_220_136 : fe0 220 136 = some (.getfield 37, 3, 9, 10, 1, 0, 5034) := (pg_220 136).trans rfl
theorem f_220_139 : fe0 220 139 = some (.iload_n 1, 1, 0, 0, 0, 0, 0) := (pg_220 139).trans rfl
theorem f_220_140 : fe0 220 140 = some (.aload_n 0, 1, 0, 0, 0, 0, 0) := (pg_220 140).trans rfl
theorem f_220_141 : fe0 220 141 = some (.getfield 22, 3, 9, 5, 1, 0, 5029) := (pg_220 141).trans rfl
theorem f_220_144 : fe0 220 144 = some (.iload_n 3, 1, 0, 0, 0, 0, 0) := (pg_220 144).trans rfl
theorem f_220_145 : fe0 220 145 = some (.iaload, 1, 0, 0, 0, 0, 0) := (pg_220 145).trans rfl
theorem f_220_146 : fe0 220 146 = some (.iastore, 1, 0, 0, 0, 0, 0) := (pg_220 146).trans rfl
theorem f_220_147 : fe0 220 147 = some (.iconst 0, 1, 0, 0, 0, 0, 0) := (pg_220 147).trans rfl
theorem f_220_148 : fe0 220 148 = some (.istore 6, 2, 0, 0, 0, 0, 0) := (pg_220 148).trans rfl
theorem f_220_150 : fe0 220 150 = some (.iload 6, 2, 0, 0, 0, 0, 0) := (pg_220 150).trans rfl
theorem f_220_152 : fe0 220 152 = some (.bipush 24, 2, 0, 0, 0, 0, 0) := (pg_220 152).trans rfl
theorem f_220_154 : fe0 220 154 = some (.if_icmp .ge 33, 3, 0, 0, 0, 0, 0) := (pg_220 154).trans rfl
theorem f_220_157 : fe0 220 157 = some (.aload_n 0, 1, 0, 0, 0, 0, 0) := (pg_220 157).trans rfl
theorem f_220_158 : fe0 220 158 = some (.getfield 40, 3, 9, 11, 1, 0, 5035) := (pg_220 158).trans rfl
theorem f_220_161 : fe0 220 161 = some (.bipush 24, 2, 0, 0, 0, 0, 0) := (pg_220 161).trans rfl
theorem f_220_163 : fe0 220 163 = some (.iload_n 1, 1, 0, 0, 0, 0, 0) := (pg_220 163).trans rfl
theorem f_220_164 : fe0 220 164 = some (.imul, 1, 0, 0, 0, 0, 0) := (pg_220 164).trans rfl
theorem f_220_165 : fe0 220 165 = some (.iload 6, 2, 0, 0, 0, 0, 0) := (pg_220 165).trans rfl
theorem f_220_167 : fe0 220 167 = some (.iadd, 1, 0, 0, 0, 0, 0) := (pg_220 167).trans rfl
theorem f_220_168 : fe0 220 168 = some (.aload_n 0, 1, 0, 0, 0, 0, 0) := (pg_220 168).trans rfl
theorem f_220_169 : fe0 220 169 = some (.getfield 25, 3, 9, 6, 1, 0, 5030) := (pg_220 169).trans rfl
theorem f_220_172 : fe0 220 172 = some (.bipush 24, 2, 0, 0, 0, 0, 0) := (pg_220 172).trans rfl
theorem f_220_174 : fe0 220 174 = some (.iload_n 3, 1, 0, 0, 0, 0, 0) := (pg_220 174).trans rfl
theorem f_220_175 : fe0 220 175 = some (.imul, 1, 0, 0, 0, 0, 0) := (pg_220 175).trans rfl
theorem f_220_176 : fe0 220 176 = some (.iload 6, 2, 0, 0, 0, 0, 0) := (pg_220 176).trans rfl
theorem f_220_178 : fe0 220 178 = some (.iadd, 1, 0, 0, 0, 0, 0) := (pg_220 178).trans rfl
theorem f_220_179 : fe0 220 179 = some (.iaload, 1, 0, 0, 0, 0, 0) := (pg_220 179).trans rfl
theorem f_220_180 : fe0 220 180 = some (.iastore, 1, 0, 0, 0, 0, 0) := (pg_220 180).trans rfl
theorem f_220_181 : fe0 220 181 = some (.iinc 6 1, 3, 0, 0, 0, 0, 0) := (pg_220 181).trans rfl
theorem f_220_184 : fe0 220 184 = some (.goto (-34), 3, 0, 0, 0, 0, 0) := (pg_220 184).trans rfl
theorem f_220_187 : fe0 220 187 = some (.iload 5, 2, 0, 0, 0, 0, 0) := (pg_220 187).trans rfl
theorem f_220_189 : fe0 220 189 = some (.ireturn, 1, 0, 0, 0, 0, 0) := (pg_220 189).trans rfl
theorem q_220_0 (d : Nat) (l0 : Nat) (x1 : Int32) (x2 : Int32) (x3 : Int32) (μ : aMem) : Rn (d + 1) 220 (0, [.ref l0, .int x1, .int x2, .int x3, un, un, un], [], μ) = if x2 = 0 then (Rn (d + 1) 220 (34, [.ref l0, .int x1, .int x2, .int x3, un, un, un], [], μ)) else (if x2 = 3 then (Rn (d + 1) 220 (34, [.ref l0, .int x1, .int x2, .int x3, un, un, un], [], μ)) else (if x2 = 1 then (if (mS μ l0).1 = 9 ∧ l0 < 999999 then ((cI d 140 [.ref l0, .int x3] μ).bind fun p4 => if p4.1 = 0 then (Rn (d + 1) 220 (22, [.ref l0, .int x1, .int x2, .int x3, un, un, un], [], p4.2)) else (Rn (d + 1) 220 (34, [.ref l0, .int x1, .int x2, .int x3, un, un, un], [], p4.2))) else none) else (Rn (d + 1) 220 (22, [.ref l0, .int x1, .int x2, .int x3, un, un, un], [], μ)))) :=
  (e_nx f_220_0 rfl).trans ((e_eq f_220_1 rfl).trans (b_congr (fun h1 => rfl) (fun h1 => (e_nx f_220_4 rfl).trans ((e_nx (q := (_, _, .int 3 :: _, _)) f_220_5 rfl).trans ((e_eq f_220_6 rfl).trans (b_congr (fun h2 => rfl) (fun h2 => (e_nx f_220_9 rfl).trans ((e_nx (q := (_, _, .int 1 :: _, _)) f_220_10 rfl).trans ((e_ne f_220_11 rfl).trans (b_congr (fun h3 => (e_nx f_220_14 rfl).trans ((e_nx f_220_15 rfl).trans ((e_gI (L := [.ref l0, .int x1, .int x2, .int x3, un, un, un]) (st := [.int x3, .ref l0]) (μ := μ) (L' := [.ref l0, .int x1, .int x2, .int x3, un, un, un]) (st' := []) f_220_16 rfl rfl).trans (g_congr (v_c2 rfl (Nat.le_of_ble_eq_true rfl)) (fun h5 => m_congr fun p4 => (e_ne f_220_19 rfl).trans (b_congr (fun h6 => rfl) (fun h6 => rfl))))))) (fun h3 => rfl)))))))))))
theorem q_220_22 (d : Nat) (l0 : Nat) (x1 : Int32) (x2 : Int32) (x3 : Int32) (w4 : Value) (w5 : Value) (w6 : Value) (μ : aMem) : Rn (d + 1) 220 (22, [.ref l0, .int x1, .int x2, .int x3, w4, w5, w6], [], μ) = if x2 = 2 then ((cI d 213 [.int x3] μ).bind fun p2 => if p2.1 = 0 then (Rn (d + 1) 220 (38, [.ref l0, .int x1, .int x2, .int x3, w4, w5, w6], [], p2.2)) else (Rn (d + 1) 220 (34, [.ref l0, .int x1, .int x2, .int x3, w4, w5, w6], [], p2.2))) else (Rn (d + 1) 220 (38, [.ref l0, .int x1, .int x2, .int x3, w4, w5, w6], [], μ)) :=
  (e_nx f_220_22 rfl).trans ((e_nx (q := (_, _, .int 2 :: _, _)) f_220_23 rfl).trans ((e_ne f_220_24 rfl).trans (b_congr (fun h1 => (e_nx f_220_27 rfl).trans ((e_cI (L := [.ref l0, .int x1, .int x2, .int x3, w4, w5, w6]) (st := [.int x3]) (μ := μ) (L' := [.ref l0, .int x1, .int x2, .int x3, w4, w5, w6]) (st' := []) f_220_28 rfl rfl).trans (m_congr fun p2 => (e_eq f_220_31 rfl).trans (b_congr (fun h3 => rfl) (fun h3 => rfl))))) (fun h1 => rfl))))
theorem q_220_34 (d : Nat) (l0 : Nat) (x1 : Int32) (x2 : Int32) (x3 : Int32) (w4 : Value) (w5 : Value) (w6 : Value) (μ : aMem) : Rn (d + 1) 220 (34, [.ref l0, .int x1, .int x2, .int x3, w4, w5, w6], [], μ) = Rn (d + 1) 220 (39, [.ref l0, .int x1, .int x2, .int x3, w4, w5, w6], [.int 1], μ) :=
  (e_nx (q := (_, _, .int 1 :: _, _)) f_220_34 rfl).trans (e_nx f_220_35 rfl)
theorem q_220_38 (d : Nat) (l0 : Nat) (x1 : Int32) (x2 : Int32) (x3 : Int32) (w4 : Value) (w5 : Value) (w6 : Value) (μ : aMem) : Rn (d + 1) 220 (38, [.ref l0, .int x1, .int x2, .int x3, w4, w5, w6], [], μ) = Rn (d + 1) 220 (39, [.ref l0, .int x1, .int x2, .int x3, w4, w5, w6], [.int 0], μ) :=
  e_nx (q := (_, _, .int 0 :: _, _)) f_220_38 rfl
theorem q_220_39 (d : Nat) (l0 : Nat) (x1 : Int32) (x2 : Int32) (x3 : Int32) (w4 : Value) (w5 : Value) (w6 : Value) (xs0 : Int32) (μ : aMem) : Rn (d + 1) 220 (39, [.ref l0, .int x1, .int x2, .int x3, w4, w5, w6], [.int xs0], μ) = (cI d 219 [.int x1] μ).bind fun p1 => if p1.1 = 0 then (Rn (d + 1) 220 (53, [.ref l0, .int x1, .int x2, .int x3, .int xs0, w5, w6], [], p1.2)) else (if xs0 = 0 then (Rn (d + 1) 220 (53, [.ref l0, .int x1, .int x2, .int x3, .int xs0, w5, w6], [], p1.2)) else (if x2 = 2 then (if (mS p1.2 l0).1 = 9 then ((rdI p1.2 (mR p1.2 l0 4) x3).bind fun v6 => if 0 ≤ v6 then (Rn (d + 1) 220 (74, [.ref l0, .int x1, .int x2, .int x3, .int xs0, w5, w6], [], p1.2)) else (some (some (.int (-1000000011)), p1.2))) else none) else (Rn (d + 1) 220 (74, [.ref l0, .int x1, .int x2, .int x3, .int xs0, w5, w6], [], p1.2)))) :=
  (e_nx (q := (_, [.ref l0, .int x1, .int x2, .int x3, .int xs0, w5, w6], _, _)) f_220_39 rfl).trans ((e_nx f_220_41 rfl).trans ((e_cI (L := [.ref l0, .int x1, .int x2, .int x3, .int xs0, w5, w6]) (st := [.int x1]) (μ := μ) (L' := [.ref l0, .int x1, .int x2, .int x3, .int xs0, w5, w6]) (st' := []) f_220_42 rfl rfl).trans (m_congr fun p1 => (e_eq f_220_45 rfl).trans (b_congr (fun h2 => rfl) (fun h2 => (e_nx f_220_48 rfl).trans ((e_ne f_220_50 rfl).trans (b_congr (fun h3 => rfl) (fun h3 => (e_nx f_220_56 rfl).trans ((e_nx (q := (_, _, .int 2 :: _, _)) f_220_57 rfl).trans ((e_ne f_220_58 rfl).trans (b_congr (fun h4 => (e_nx f_220_61 rfl).trans ((e_gd f_220_62 rfl).trans (g_congr (Iff.rfl) (fun h5 => (e_nx f_220_65 rfl).trans ((e_ia (L := [.ref l0, .int x1, .int x2, .int x3, .int xs0, w5, w6]) (r := []) (μ := p1.2) f_220_66).trans (m_congr fun v6 => (e_ge f_220_67 rfl).trans (b_congr (fun h7 => rfl) (fun h7 => (e_nx (q := (_, _, .int (-1000000011) :: _, _)) f_220_70 rfl).trans (e_rt f_220_73 rfl))))))))) (fun h4 => rfl))))))))))))
theorem q_220_53 (d : Nat) (l0 : Nat) (x1 : Int32) (x2 : Int32) (x3 : Int32) (x4 : Int32) (w5 : Value) (w6 : Value) (μ : aMem) : Rn (d + 1) 220 (53, [.ref l0, .int x1, .int x2, .int x3, .int x4, w5, w6], [], μ) = some (some (.int (-1000000001)), μ) :=
  (e_nx (q := (_, _, .int (-1000000001) :: _, _)) f_220_53 rfl).trans (e_rt f_220_55 rfl)
theorem q_220_74 (d : Nat) (l0 : Nat) (x1 : Int32) (x2 : Int32) (x3 : Int32) (x4 : Int32) (w5 : Value) (w6 : Value) (μ : aMem) : Rn (d + 1) 220 (74, [.ref l0, .int x1, .int x2, .int x3, .int x4, w5, w6], [], μ) = if (mS μ l0).1 = 9 then ((rdI μ (mR μ l0 7) x1).bind fun v2 => if (mS μ (mR μ l0 7)).1 = 10 ∧ inb x1 (mS μ (mR μ l0 7)).2 then (if x2 = 1 then (if (mS μ l0).1 = 9 ∧ l0 < 999999 then ((cI d 139 [.ref l0, .int x3, .int 0] (setF μ (mR μ l0 7) (ix x1) x2)).bind fun p5 => Rn (d + 1) 220 (109, [.ref l0, .int x1, .int x2, .int x3, .int x4, .int v2, w6], [.int p5.1, .int x1, .ref (mR μ l0 8)], p5.2)) else none) else (Rn (d + 1) 220 (109, [.ref l0, .int x1, .int x2, .int x3, .int x4, .int v2, w6], [.int x3, .int x1, .ref (mR μ l0 8)], setF μ (mR μ l0 7) (ix x1) x2))) else none) else none :=
  (e_nx f_220_74 rfl).trans ((e_gd f_220_75 rfl).trans (g_congr (Iff.rfl) (fun h1 => (e_nx f_220_78 rfl).trans ((e_ia (L := [.ref l0, .int x1, .int x2, .int x3, .int x4, w5, w6]) (r := []) (μ := μ) f_220_79).trans (m_congr fun v2 => (e_nx (q := (_, [.ref l0, .int x1, .int x2, .int x3, .int x4, .int v2, w6], _, _)) f_220_80 rfl).trans ((e_nx f_220_82 rfl).trans ((e_gk f_220_83 (h1) rfl).trans ((e_nx f_220_86 rfl).trans ((e_nx f_220_87 rfl).trans ((e_gd f_220_88 rfl).trans (g_congr (Iff.rfl) (fun h3 => (e_nx f_220_89 rfl).trans ((e_gk f_220_90 (h1) rfl).trans ((e_nx f_220_93 rfl).trans ((e_nx f_220_94 rfl).trans ((e_nx (q := (_, _, .int 1 :: _, _)) f_220_95 rfl).trans ((e_ne f_220_96 rfl).trans (b_congr (fun h4 => (e_nx f_220_99 rfl).trans ((e_nx f_220_100 rfl).trans ((e_nx (q := (_, _, .int 0 :: _, _)) f_220_101 rfl).trans ((e_gI (L := [.ref l0, .int x1, .int x2, .int x3, .int x4, .int v2, w6]) (st := [.int 0, .int x3, .ref l0, .int x1, .ref (mR μ l0 8)]) (μ := setF μ (mR μ l0 7) (ix x1) x2) (L' := [.ref l0, .int x1, .int x2, .int x3, .int x4, .int v2, w6]) (st' := [.int x1, .ref (mR μ l0 8)]) f_220_102 rfl rfl).trans (g_congr (v_c2 rfl (Nat.le_of_ble_eq_true rfl)) (fun h6 => m_congr fun p5 => e_nx f_220_105 rfl)))))) (fun h4 => e_nx f_220_108 rfl)))))))))))))))))))
theorem q_220_109 (d : Nat) (l0 : Nat) (x1 : Int32) (x2 : Int32) (x3 : Int32) (x4 : Int32) (x5 : Int32) (w6 : Value) (xs0 : Int32) (xs1 : Int32) (ls2 : Nat) (μ : aMem) : Rn (d + 1) 220 (109, [.ref l0, .int x1, .int x2, .int x3, .int x4, .int x5, w6], [.int xs0, .int xs1, .ref ls2], μ) = if (mS μ ls2).1 = 10 ∧ inb xs1 (mS μ ls2).2 then (if (mS μ l0).1 = 9 then (if x2 = 1 then (if (mS μ l0).1 = 9 ∧ l0 < 999999 then ((cI d 151 [.ref l0, .int x3] (setF μ ls2 (ix xs1) xs0)).bind fun p4 => Rn (d + 1) 220 (129, [.ref l0, .int x1, .int x2, .int x3, .int x4, .int x5, w6], [.int p4.1, .int x1, .ref (mR μ l0 9)], p4.2)) else none) else (Rn (d + 1) 220 (129, [.ref l0, .int x1, .int x2, .int x3, .int x4, .int x5, w6], [.int 0, .int x1, .ref (mR μ l0 9)], setF μ ls2 (ix xs1) xs0))) else none) else none :=
  (e_gd f_220_109 rfl).trans (g_congr (Iff.rfl) (fun h1 => (e_nx f_220_110 rfl).trans ((e_gd f_220_111 rfl).trans (g_congr (Iff.rfl) (fun h2 => (e_nx f_220_114 rfl).trans ((e_nx f_220_115 rfl).trans ((e_nx (q := (_, _, .int 1 :: _, _)) f_220_116 rfl).trans ((e_ne f_220_117 rfl).trans (b_congr (fun h3 => (e_nx f_220_120 rfl).trans ((e_nx f_220_121 rfl).trans ((e_gI (L := [.ref l0, .int x1, .int x2, .int x3, .int x4, .int x5, w6]) (st := [.int x3, .ref l0, .int x1, .ref (mR μ l0 9)]) (μ := setF μ ls2 (ix xs1) xs0) (L' := [.ref l0, .int x1, .int x2, .int x3, .int x4, .int x5, w6]) (st' := [.int x1, .ref (mR μ l0 9)]) f_220_122 rfl rfl).trans (g_congr (v_c2 rfl (Nat.le_of_ble_eq_true rfl)) (fun h5 => m_congr fun p4 => e_nx f_220_125 rfl))))) (fun h3 => e_nx (q := (_, _, .int 0 :: _, _)) f_220_128 rfl))))))))))
theorem q_220_129 (d : Nat) (l0 : Nat) (x1 : Int32) (x2 : Int32) (x3 : Int32) (x4 : Int32) (x5 : Int32) (w6 : Value) (xs0 : Int32) (xs1 : Int32) (ls2 : Nat) (μ : aMem) : Rn (d + 1) 220 (129, [.ref l0, .int x1, .int x2, .int x3, .int x4, .int x5, w6], [.int xs0, .int xs1, .ref ls2], μ) = if (mS μ ls2).1 = 10 ∧ inb xs1 (mS μ ls2).2 then (if x2 = 2 then (if (mS μ l0).1 = 9 then ((rdI (setF μ ls2 (ix xs1) xs0) (mR μ l0 5) x3).bind fun v4 => if (mS μ (mR μ l0 10)).1 = 10 ∧ inb x1 (mS μ (mR μ l0 10)).2 then (Rn (d + 1) 220 (150, [.ref l0, .int x1, .int x2, .int x3, .int x4, .int x5, .int 0], [], setF (setF μ ls2 (ix xs1) xs0) (mR μ l0 10) (ix x1) v4)) else none) else none) else (Rn (d + 1) 220 (187, [.ref l0, .int x1, .int x2, .int x3, .int x4, .int x5, w6], [], setF μ ls2 (ix xs1) xs0))) else none :=
  (e_gd f_220_129 rfl).trans (g_congr (Iff.rfl) (fun h1 => (e_nx f_220_130 rfl).trans ((e_nx (q := (_, _, .int 2 :: _, _)) f_220_131 rfl).trans ((e_ne f_220_132 rfl).trans (b_congr (fun h2 => (e_nx f_220_135 rfl).trans ((e_gd f_220_136 rfl).trans (g_congr (Iff.rfl) (fun h3 => (e_nx f_220_139 rfl).trans ((e_nx f_220_140 rfl).trans ((e_gk f_220_141 (h3) rfl).trans ((e_nx f_220_144 rfl).trans ((e_ia (L := [.ref l0, .int x1, .int x2, .int x3, .int x4, .int x5, w6]) (r := [.int x1, .ref (mR μ l0 10)]) (μ := setF μ ls2 (ix xs1) xs0) f_220_145).trans (m_congr fun v4 => (e_gd f_220_146 rfl).trans (g_congr (Iff.rfl) (fun h5 => (e_nx (q := (_, _, .int 0 :: _, _)) f_220_147 rfl).trans (e_nx (q := (_, [.ref l0, .int x1, .int x2, .int x3, .int x4, .int x5, .int 0], _, _)) f_220_148 rfl)))))))))))) (fun h2 => rfl))))))
theorem q_220_150 (d : Nat) (l0 : Nat) (x1 : Int32) (x2 : Int32) (x3 : Int32) (x4 : Int32) (x5 : Int32) (x6 : Int32) (μ : aMem) : Rn (d + 1) 220 (150, [.ref l0, .int x1, .int x2, .int x3, .int x4, .int x5, .int x6], [], μ) = if 24 ≤ x6 then (Rn (d + 1) 220 (187, [.ref l0, .int x1, .int x2, .int x3, .int x4, .int x5, .int x6], [], μ)) else (if (mS μ l0).1 = 9 then ((rdI μ (mR μ l0 6) ((24 * x3) + x6)).bind fun v3 => if (mS μ (mR μ l0 11)).1 = 10 ∧ inb ((24 * x1) + x6) (mS μ (mR μ l0 11)).2 then (Rn (d + 1) 220 (150, [.ref l0, .int x1, .int x2, .int x3, .int x4, .int x5, .int (x6 + 1)], [], setF μ (mR μ l0 11) (ix ((24 * x1) + x6)) v3)) else none) else none) :=
  (e_nx f_220_150 rfl).trans ((e_nx (q := (_, _, .int 24 :: _, _)) f_220_152 rfl).trans ((e_ge f_220_154 rfl).trans (b_congr (fun h1 => rfl) (fun h1 => (e_nx f_220_157 rfl).trans ((e_gd f_220_158 rfl).trans (g_congr (Iff.rfl) (fun h2 => (e_nx (q := (_, _, .int 24 :: _, _)) f_220_161 rfl).trans ((e_nx f_220_163 rfl).trans ((e_nx f_220_164 rfl).trans ((e_nx f_220_165 rfl).trans ((e_nx f_220_167 rfl).trans ((e_nx f_220_168 rfl).trans ((e_gk f_220_169 (h2) rfl).trans ((e_nx (q := (_, _, .int 24 :: _, _)) f_220_172 rfl).trans ((e_nx f_220_174 rfl).trans ((e_nx f_220_175 rfl).trans ((e_nx f_220_176 rfl).trans ((e_nx f_220_178 rfl).trans ((e_ia (L := [.ref l0, .int x1, .int x2, .int x3, .int x4, .int x5, .int x6]) (r := [.int ((24 * x1) + x6), .ref (mR μ l0 11)]) (μ := μ) f_220_179).trans (m_congr fun v3 => (e_gd f_220_180 rfl).trans (g_congr (Iff.rfl) (fun h4 => (e_nx (q := (_, [.ref l0, .int x1, .int x2, .int x3, .int x4, .int x5, .int (x6 + 1)], _, _)) f_220_181 rfl).trans (e_nx f_220_184 rfl)))))))))))))))))))))))
theorem q_220_187 (d : Nat) (l0 : Nat) (x1 : Int32) (x2 : Int32) (x3 : Int32) (x4 : Int32) (x5 : Int32) (w6 : Value) (μ : aMem) : Rn (d + 1) 220 (187, [.ref l0, .int x1, .int x2, .int x3, .int x4, .int x5, w6], [], μ) = some (some (.int x5), μ) :=
  (e_nx f_220_187 rfl).trans (e_rt f_220_189 rfl)
theorem pg_221 (pc : Nat) : fe0 221 pc = lk prg_221 pc := rfl
theorem f_221_0 : fe0 221 0 = some (.iload_n 1, 1, 0, 0, 0, 0, 0) := (pg_221 0).trans rfl
theorem f_221_1 : fe0 221 1 = some (.invokestatic 346, 3, 219, 1, 2, 0, 7021) := (pg_221 1).trans rfl
theorem f_221_4 : fe0 221 4 = some (.ifCond .eq 15, 3, 0, 0, 0, 0, 0) := (pg_221 4).trans rfl
theorem f_221_7 : fe0 221 7 = some (.iload_n 2, 1, 0, 0, 0, 0, 0) := (pg_221 7).trans rfl
theorem f_221_8 : fe0 221 8 = some (.i2l, 1, 0, 0, 0, 0, 0) := (pg_221 8).trans rfl
theorem f_221_9 : fe0 221 9 = some (.lconst 0, 1, 0, 0, 0, 0, 0) := (pg_221 9).trans rfl
theorem f_221_10 : fe0 221 10 = some (.ldc2_w 89, 3, 0, 0, 5, 0, 5143) := (pg_221 10).trans rfl
theorem f_221_13 : fe0 221 13 = some (.invokestatic 84, 3, 133, 3, 2, 0, 5144) := (pg_221 13).trans rfl
theorem f_221_16 : fe0 221 16 = some (.ifCond .ne 6, 3, 0, 0, 0, 0, 0) := (pg_221 16).trans rfl
theorem f_221_19 : fe0 221 19 = some (.ldc 99, 2, 0, 0, 3294967295, 0, 5152) := (pg_221 19).trans rfl
theorem f_221_21 : fe0 221 21 = some (.ireturn, 1, 0, 0, 0, 0, 0) := (pg_221 21).trans rfl
theorem f_221_22 : fe0 221 22 = some (.aload_n 0, 1, 0, 0, 0, 0, 0) := (pg_221 22).trans rfl
theorem f_221_23 : fe0 221 23 = some (.getfield 28, 3, 9, 7, 1, 0, 5031) := (pg_221 23).trans rfl
theorem f_221_26 : fe0 221 26 = some (.iload_n 1, 1, 0, 0, 0, 0, 0) := (pg_221 26).trans rfl
theorem f_221_27 : fe0 221 27 = some (.iaload, 1, 0, 0, 0, 0, 0) := (pg_221 27).trans rfl
theorem f_221_28 : fe0 221 28 = some (.ifCond .ne 7, 3, 0, 0, 0, 0, 0) := (pg_221 28).trans rfl
theorem f_221_31 : fe0 221 31 = some (.ldc_w 338, 3, 0, 0, 3294967285, 0, 7001) := (pg_221 31).trans rfl
theorem f_221_34 : fe0 221 34 = some (.ireturn, 1, 0, 0, 0, 0, 0) := (pg_221 34).trans rfl
theorem f_221_35 : fe0 221 35 = some (.aload_n 0, 1, 0, 0, 0, 0, 0) := (pg_221 35).trans rfl
theorem f_221_36 : fe0 221 36 = some (.getfield 28, 3, 9, 7, 1, 0, 5031) := (pg_221 36).trans rfl
theorem f_221_39 : fe0 221 39 = some (.iload_n 1, 1, 0, 0, 0, 0, 0) := (pg_221 39).trans rfl
theorem f_221_40 : fe0 221 40 = some (.iaload, 1, 0, 0, 0, 0, 0) := (pg_221 40).trans rfl
theorem f_221_41 : fe0 221 41 = some (.iconst 1, 1, 0, 0, 0, 0, 0) := (pg_221 41).trans rfl
theorem f_221_42 : fe0 221 42 = some (.if_icmp .ne 25, 3, 0, 0, 0, 0, 0) := (pg_221 42).trans rfl
theorem f_221_45 : fe0 221 45 = some (.aload_n 0, 1, 0, 0, 0, 0, 0) := (pg_221 45).trans rfl
theorem f_221_46 : fe0 221 46 = some (.getfield 31, 3, 9, 8, 1, 0, 5032) := (pg_221 46).trans rfl
theorem f_221_49 : fe0 221 49 = some (.iload_n 1, 1, 0, 0, 0, 0, 0) := (pg_221 49).trans rfl
theorem f_221_50 : fe0 221 50 = some (.iaload, 1, 0, 0, 0, 0, 0) := (pg_221 50).trans rfl
theorem f_221_51 : fe0 221 51 = some (.iload_n 2, 1, 0, 0, 0, 0, 0) := (pg_221 51).trans rfl
theorem f_221_52 : fe0 221 52 = some (.invokestatic 162, 3, 159, 2, 2, 0, 6001) := (pg_221 52).trans rfl
theorem f_221_55 : fe0 221 55 = some (.ifCond .eq 12, 3, 0, 0, 0, 0, 0) := (pg_221 55).trans rfl
theorem f_221_58 : fe0 221 58 = some (.aload_n 0, 1, 0, 0, 0, 0, 0) := (pg_221 58).trans rfl
theorem f_221_59 : fe0 221 59 = some (.getfield 34, 3, 9, 9, 1, 0, 5033) := (pg_221 59).trans rfl
theorem f_221_62 : fe0 221 62 = some (.iload_n 1, 1, 0, 0, 0, 0, 0) := (pg_221 62).trans rfl
theorem f_221_63 : fe0 221 63 = some (.iaload, 1, 0, 0, 0, 0, 0) := (pg_221 63).trans rfl
theorem f_221_64 : fe0 221 64 = some (.goto 5, 3, 0, 0, 0, 0, 0) := (pg_221 64).trans rfl
theorem f_221_67 : fe0 221 67 = some (.ldc 166, 2, 0, 0, 3294967284, 0, 6004) := (pg_221 67).trans rfl
theorem f_221_69 : fe0 221 69 = some (.ireturn, 1, 0, 0, 0, 0, 0) := (pg_221 69).trans rfl
theorem q_221_0 (d : Nat) (l0 : Nat) (x1 : Int32) (x2 : Int32) (μ : aMem) : Rn (d + 1) 221 (0, [.ref l0, .int x1, .int x2], [], μ) = (cI d 219 [.int x1] μ).bind fun p1 => if p1.1 = 0 then (some (some (.int (-1000000001)), p1.2)) else ((cI d 133 [.long ((x2 : Int32).toInt64), .long 0, .long 5] p1.2).bind fun p3 => if p3.1 = 0 then (some (some (.int (-1000000001)), p3.2)) else (if (mS p3.2 l0).1 = 9 then ((rdI p3.2 (mR p3.2 l0 7) x1).bind fun v6 => if v6 = 0 then (some (some (.int (-1000000011)), p3.2)) else ((rdI p3.2 (mR p3.2 l0 7) x1).bind fun v8 => if v8 = 1 then ((rdI p3.2 (mR p3.2 l0 8) x1).bind fun v10 => (cI d 159 [.int v10, .int x2] p3.2).bind fun p11 => if p11.1 = 0 then (some (some (.int (-1000000012)), p11.2)) else (if (mS p11.2 l0).1 = 9 then ((rdI p11.2 (mR p11.2 l0 9) x1).bind fun v14 => some (some (.int v14), p11.2)) else none)) else (some (some (.int (-1000000012)), p3.2)))) else none)) :=
  (e_nx f_221_0 rfl).trans ((e_cI (L := [.ref l0, .int x1, .int x2]) (st := [.int x1]) (μ := μ) (L' := [.ref l0, .int x1, .int x2]) (st' := []) f_221_1 rfl rfl).trans (m_congr fun p1 => (e_eq f_221_4 rfl).trans (b_congr (fun h2 => (e_nx (q := (_, _, .int (-1000000001) :: _, _)) f_221_19 rfl).trans (e_rt f_221_21 rfl)) (fun h2 => (e_nx f_221_7 rfl).trans ((e_nx f_221_8 rfl).trans ((e_nx (q := (_, _, .long 0 :: _, _)) f_221_9 rfl).trans ((e_nx (q := (_, _, .long 5 :: _, _)) f_221_10 rfl).trans ((e_cI (L := [.ref l0, .int x1, .int x2]) (st := [.long 5, .long 0, .long ((x2 : Int32).toInt64)]) (μ := p1.2) (L' := [.ref l0, .int x1, .int x2]) (st' := []) f_221_13 rfl rfl).trans (m_congr fun p3 => (e_ne f_221_16 rfl).trans (b_congr (fun h4 => (e_nx (q := (_, _, .int (-1000000001) :: _, _)) f_221_19 rfl).trans (e_rt f_221_21 rfl)) (fun h4 => (e_nx f_221_22 rfl).trans ((e_gd f_221_23 rfl).trans (g_congr (Iff.rfl) (fun h5 => (e_nx f_221_26 rfl).trans ((e_ia (L := [.ref l0, .int x1, .int x2]) (r := []) (μ := p3.2) f_221_27).trans (m_congr fun v6 => (e_ne f_221_28 rfl).trans (b_congr (fun h7 => (e_nx (q := (_, _, .int (-1000000011) :: _, _)) f_221_31 rfl).trans (e_rt f_221_34 rfl)) (fun h7 => (e_nx f_221_35 rfl).trans ((e_gk f_221_36 (h5) rfl).trans ((e_nx f_221_39 rfl).trans ((e_ia (L := [.ref l0, .int x1, .int x2]) (r := []) (μ := p3.2) f_221_40).trans (m_congr fun v8 => (e_nx (q := (_, _, .int 1 :: _, _)) f_221_41 rfl).trans ((e_ne f_221_42 rfl).trans (b_congr (fun h9 => (e_nx f_221_45 rfl).trans ((e_gk f_221_46 (h5) rfl).trans ((e_nx f_221_49 rfl).trans ((e_ia (L := [.ref l0, .int x1, .int x2]) (r := []) (μ := p3.2) f_221_50).trans (m_congr fun v10 => (e_nx f_221_51 rfl).trans ((e_cI (L := [.ref l0, .int x1, .int x2]) (st := [.int x2, .int v10]) (μ := p3.2) (L' := [.ref l0, .int x1, .int x2]) (st' := []) f_221_52 rfl rfl).trans (m_congr fun p11 => (e_eq f_221_55 rfl).trans (b_congr (fun h12 => (e_nx (q := (_, _, .int (-1000000012) :: _, _)) f_221_67 rfl).trans (e_rt f_221_69 rfl)) (fun h12 => (e_nx f_221_58 rfl).trans ((e_gd f_221_59 rfl).trans (g_congr (Iff.rfl) (fun h13 => (e_nx f_221_62 rfl).trans ((e_ia (L := [.ref l0, .int x1, .int x2]) (r := []) (μ := p11.2) f_221_63).trans (m_congr fun v14 => (e_nx f_221_64 rfl).trans (e_rt f_221_69 rfl))))))))))))))) (fun h9 => (e_nx (q := (_, _, .int (-1000000012) :: _, _)) f_221_67 rfl).trans (e_rt f_221_69 rfl))))))))))))))))))))))))))
theorem pg_222 (pc : Nat) : fe0 222 pc = lk prg_222 pc := rfl
theorem f_222_0 : fe0 222 0 = some (.iload_n 1, 1, 0, 0, 0, 0, 0) := (pg_222 0).trans rfl
theorem f_222_1 : fe0 222 1 = some (.invokestatic 346, 3, 219, 1, 2, 0, 7021) := (pg_222 1).trans rfl
theorem f_222_4 : fe0 222 4 = some (.ifCond .ne 6, 3, 0, 0, 0, 0, 0) := (pg_222 4).trans rfl
theorem f_222_7 : fe0 222 7 = some (.ldc 99, 2, 0, 0, 3294967295, 0, 5152) := (pg_222 7).trans rfl
theorem f_222_9 : fe0 222 9 = some (.ireturn, 1, 0, 0, 0, 0, 0) := (pg_222 9).trans rfl
theorem f_222_10 : fe0 222 10 = some (.aload_n 0, 1, 0, 0, 0, 0, 0) := (pg_222 10).trans rfl
theorem f_222_11 : fe0 222 11 = some (.getfield 28, 3, 9, 7, 1, 0, 5031) := (pg_222 11).trans rfl
theorem f_222_14 : fe0 222 14 = some (.iload_n 1, 1, 0, 0, 0, 0, 0) := (pg_222 14).trans rfl
theorem f_222_15 : fe0 222 15 = some (.iaload, 1, 0, 0, 0, 0, 0) := (pg_222 15).trans rfl
theorem f_222_16 : fe0 222 16 = some (.iconst 2, 1, 0, 0, 0, 0, 0) := (pg_222 16).trans rfl
theorem f_222_17 : fe0 222 17 = some (.if_icmp .eq 21, 3, 0, 0, 0, 0, 0) := (pg_222 17).trans rfl
theorem f_222_20 : fe0 222 20 = some (.aload_n 0, 1, 0, 0, 0, 0, 0) := (pg_222 20).trans rfl
theorem f_222_21 : fe0 222 21 = some (.getfield 28, 3, 9, 7, 1, 0, 5031) := (pg_222 21).trans rfl
theorem f_222_24 : fe0 222 24 = some (.iload_n 1, 1, 0, 0, 0, 0, 0) := (pg_222 24).trans rfl
theorem f_222_25 : fe0 222 25 = some (.iaload, 1, 0, 0, 0, 0, 0) := (pg_222 25).trans rfl
theorem f_222_26 : fe0 222 26 = some (.ifCond .ne 9, 3, 0, 0, 0, 0, 0) := (pg_222 26).trans rfl
theorem f_222_29 : fe0 222 29 = some (.ldc_w 338, 3, 0, 0, 3294967285, 0, 7001) := (pg_222 29).trans rfl
theorem f_222_32 : fe0 222 32 = some (.goto 5, 3, 0, 0, 0, 0, 0) := (pg_222 32).trans rfl
theorem f_222_35 : fe0 222 35 = some (.ldc 166, 2, 0, 0, 3294967284, 0, 6004) := (pg_222 35).trans rfl
theorem f_222_37 : fe0 222 37 = some (.ireturn, 1, 0, 0, 0, 0, 0) := (pg_222 37).trans rfl
theorem f_222_38 : fe0 222 38 = some (.iload_n 2, 1, 0, 0, 0, 0, 0) := (pg_222 38).trans rfl
theorem f_222_39 : fe0 222 39 = some (.i2l, 1, 0, 0, 0, 0, 0) := (pg_222 39).trans rfl
theorem f_222_40 : fe0 222 40 = some (.lconst 0, 1, 0, 0, 0, 0, 0) := (pg_222 40).trans rfl
theorem f_222_41 : fe0 222 41 = some (.aload_n 0, 1, 0, 0, 0, 0, 0) := (pg_222 41).trans rfl
theorem f_222_42 : fe0 222 42 = some (.getfield 37, 3, 9, 10, 1, 0, 5034) := (pg_222 42).trans rfl
theorem f_222_45 : fe0 222 45 = some (.iload_n 1, 1, 0, 0, 0, 0, 0) := (pg_222 45).trans rfl
theorem f_222_46 : fe0 222 46 = some (.iaload, 1, 0, 0, 0, 0, 0) := (pg_222 46).trans rfl
theorem f_222_47 : fe0 222 47 = some (.iconst 1, 1, 0, 0, 0, 0, 0) := (pg_222 47).trans rfl
theorem f_222_48 : fe0 222 48 = some (.isub, 1, 0, 0, 0, 0, 0) := (pg_222 48).trans rfl
theorem f_222_49 : fe0 222 49 = some (.i2l, 1, 0, 0, 0, 0, 0) := (pg_222 49).trans rfl
theorem f_222_50 : fe0 222 50 = some (.invokestatic 84, 3, 133, 3, 2, 0, 5144) := (pg_222 50).trans rfl
theorem f_222_53 : fe0 222 53 = some (.ifCond .ne 7, 3, 0, 0, 0, 0, 0) := (pg_222 53).trans rfl
theorem f_222_56 : fe0 222 56 = some (.ldc_w 339, 3, 0, 0, 3294967283, 0, 7002) := (pg_222 56).trans rfl
theorem f_222_59 : fe0 222 59 = some (.ireturn, 1, 0, 0, 0, 0, 0) := (pg_222 59).trans rfl
theorem f_222_60 : fe0 222 60 = some (.aload_n 0, 1, 0, 0, 0, 0, 0) := (pg_222 60).trans rfl
theorem f_222_61 : fe0 222 61 = some (.getfield 40, 3, 9, 11, 1, 0, 5035) := (pg_222 61).trans rfl
theorem f_222_64 : fe0 222 64 = some (.bipush 24, 2, 0, 0, 0, 0, 0) := (pg_222 64).trans rfl
theorem f_222_66 : fe0 222 66 = some (.iload_n 1, 1, 0, 0, 0, 0, 0) := (pg_222 66).trans rfl
theorem f_222_67 : fe0 222 67 = some (.imul, 1, 0, 0, 0, 0, 0) := (pg_222 67).trans rfl
theorem f_222_68 : fe0 222 68 = some (.iload_n 2, 1, 0, 0, 0, 0, 0) := (pg_222 68).trans rfl
theorem f_222_69 : fe0 222 69 = some (.iadd, 1, 0, 0, 0, 0, 0) := (pg_222 69).trans rfl
theorem f_222_70 : fe0 222 70 = some (.iaload, 1, 0, 0, 0, 0, 0) := (pg_222 70).trans rfl
theorem f_222_71 : fe0 222 71 = some (.istore_n 3, 1, 0, 0, 0, 0, 0) := (pg_222 71).trans rfl
theorem f_222_72 : fe0 222 72 = some (.iload_n 3, 1, 0, 0, 0, 0, 0) := (pg_222 72).trans rfl
theorem f_222_73 : fe0 222 73 = some (.ldc 83, 2, 0, 0, 3294967291, 0, 6036) := (pg_222 73).trans rfl
theorem f_222_75 : fe0 222 75 = some (.if_icmp .ne 8, 3, 0, 0, 0, 0, 0) := (pg_222 75).trans rfl
theorem f_222_78 : fe0 222 78 = some (.ldc 166, 2, 0, 0, 3294967284, 0, 6004) := (pg_222 78).trans rfl
theorem f_222_80 : fe0 222 80 = some (.goto 4, 3, 0, 0, 0, 0, 0) := (pg_222 80).trans rfl
theorem f_222_83 : fe0 222 83 = some (.iload_n 3, 1, 0, 0, 0, 0, 0) := (pg_222 83).trans rfl
theorem f_222_84 : fe0 222 84 = some (.ireturn, 1, 0, 0, 0, 0, 0) := (pg_222 84).trans rfl
theorem q_222_0 (d : Nat) (l0 : Nat) (x1 : Int32) (x2 : Int32) (μ : aMem) : Rn (d + 1) 222 (0, [.ref l0, .int x1, .int x2, un], [], μ) = (cI d 219 [.int x1] μ).bind fun p1 => if p1.1 = 0 then (some (some (.int (-1000000001)), p1.2)) else (if (mS p1.2 l0).1 = 9 then ((rdI p1.2 (mR p1.2 l0 7) x1).bind fun v4 => if v4 = 2 then ((rdI p1.2 (mR p1.2 l0 10) x1).bind fun v6 => (cI d 133 [.long ((x2 : Int32).toInt64), .long 0, .long ((v6 - 1 : Int32).toInt64)] p1.2).bind fun p7 => if p7.1 = 0 then (some (some (.int (-1000000013)), p7.2)) else (if (mS p7.2 l0).1 = 9 then ((rdI p7.2 (mR p7.2 l0 11) ((24 * x1) + x2)).bind fun v10 => if v10 = (-1000000005) then (some (some (.int (-1000000012)), p7.2)) else (some (some (.int v10), p7.2))) else none)) else ((rdI p1.2 (mR p1.2 l0 7) x1).bind fun v12 => if v12 = 0 then (some (some (.int (-1000000011)), p1.2)) else (some (some (.int (-1000000012)), p1.2)))) else none) :=
  (e_nx f_222_0 rfl).trans ((e_cI (L := [.ref l0, .int x1, .int x2, un]) (st := [.int x1]) (μ := μ) (L' := [.ref l0, .int x1, .int x2, un]) (st' := []) f_222_1 rfl rfl).trans (m_congr fun p1 => (e_ne f_222_4 rfl).trans (b_congr (fun h2 => (e_nx (q := (_, _, .int (-1000000001) :: _, _)) f_222_7 rfl).trans (e_rt f_222_9 rfl)) (fun h2 => (e_nx f_222_10 rfl).trans ((e_gd f_222_11 rfl).trans (g_congr (Iff.rfl) (fun h3 => (e_nx f_222_14 rfl).trans ((e_ia (L := [.ref l0, .int x1, .int x2, un]) (r := []) (μ := p1.2) f_222_15).trans (m_congr fun v4 => (e_nx (q := (_, _, .int 2 :: _, _)) f_222_16 rfl).trans ((e_eq f_222_17 rfl).trans (b_congr (fun h5 => (e_nx f_222_38 rfl).trans ((e_nx f_222_39 rfl).trans ((e_nx (q := (_, _, .long 0 :: _, _)) f_222_40 rfl).trans ((e_nx f_222_41 rfl).trans ((e_gk f_222_42 (h3) rfl).trans ((e_nx f_222_45 rfl).trans ((e_ia (L := [.ref l0, .int x1, .int x2, un]) (r := [.long 0, .long ((x2 : Int32).toInt64)]) (μ := p1.2) f_222_46).trans (m_congr fun v6 => (e_nx (q := (_, _, .int 1 :: _, _)) f_222_47 rfl).trans ((e_nx f_222_48 rfl).trans ((e_nx f_222_49 rfl).trans ((e_cI (L := [.ref l0, .int x1, .int x2, un]) (st := [.long ((v6 - 1 : Int32).toInt64), .long 0, .long ((x2 : Int32).toInt64)]) (μ := p1.2) (L' := [.ref l0, .int x1, .int x2, un]) (st' := []) f_222_50 rfl rfl).trans (m_congr fun p7 => (e_ne f_222_53 rfl).trans (b_congr (fun h8 => (e_nx (q := (_, _, .int (-1000000013) :: _, _)) f_222_56 rfl).trans (e_rt f_222_59 rfl)) (fun h8 => (e_nx f_222_60 rfl).trans ((e_gd f_222_61 rfl).trans (g_congr (Iff.rfl) (fun h9 => (e_nx (q := (_, _, .int 24 :: _, _)) f_222_64 rfl).trans ((e_nx f_222_66 rfl).trans ((e_nx f_222_67 rfl).trans ((e_nx f_222_68 rfl).trans ((e_nx f_222_69 rfl).trans ((e_ia (L := [.ref l0, .int x1, .int x2, un]) (r := []) (μ := p7.2) f_222_70).trans (m_congr fun v10 => (e_nx (q := (_, [.ref l0, .int x1, .int x2, .int v10], _, _)) f_222_71 rfl).trans ((e_nx f_222_72 rfl).trans ((e_nx (q := (_, _, .int (-1000000005) :: _, _)) f_222_73 rfl).trans ((e_ne f_222_75 rfl).trans (b_congr (fun h11 => (e_nx (q := (_, _, .int (-1000000012) :: _, _)) f_222_78 rfl).trans ((e_nx f_222_80 rfl).trans (e_rt f_222_84 rfl))) (fun h11 => (e_nx f_222_83 rfl).trans (e_rt f_222_84 rfl))))))))))))))))))))))))))))) (fun h5 => (e_nx f_222_20 rfl).trans ((e_gk f_222_21 (h3) rfl).trans ((e_nx f_222_24 rfl).trans ((e_ia (L := [.ref l0, .int x1, .int x2, un]) (r := []) (μ := p1.2) f_222_25).trans (m_congr fun v12 => (e_ne f_222_26 rfl).trans (b_congr (fun h13 => (e_nx (q := (_, _, .int (-1000000011) :: _, _)) f_222_29 rfl).trans ((e_nx f_222_32 rfl).trans (e_rt f_222_37 rfl))) (fun h13 => (e_nx (q := (_, _, .int (-1000000012) :: _, _)) f_222_35 rfl).trans (e_rt f_222_37 rfl)))))))))))))))))))
theorem pg_223 (pc : Nat) : fe0 223 pc = lk prg_223 pc := rfl
theorem f_223_0 : fe0 223 0 = some (.iload_n 1, 1, 0, 0, 0, 0, 0) := (pg_223 0).trans rfl
theorem f_223_1 : fe0 223 1 = some (.invokestatic 346, 3, 219, 1, 2, 0, 7021) := (pg_223 1).trans rfl
theorem f_223_4 : fe0 223 4 = some (.ifCond .ne 6, 3, 0, 0, 0, 0, 0) := (pg_223 4).trans rfl
theorem f_223_7 : fe0 223 7 = some (.ldc 99, 2, 0, 0, 3294967295, 0, 5152) := (pg_223 7).trans rfl
theorem f_223_9 : fe0 223 9 = some (.ireturn, 1, 0, 0, 0, 0, 0) := (pg_223 9).trans rfl
theorem f_223_10 : fe0 223 10 = some (.aload_n 0, 1, 0, 0, 0, 0, 0) := (pg_223 10).trans rfl
theorem f_223_11 : fe0 223 11 = some (.getfield 28, 3, 9, 7, 1, 0, 5031) := (pg_223 11).trans rfl
theorem f_223_14 : fe0 223 14 = some (.iload_n 1, 1, 0, 0, 0, 0, 0) := (pg_223 14).trans rfl
theorem f_223_15 : fe0 223 15 = some (.iaload, 1, 0, 0, 0, 0, 0) := (pg_223 15).trans rfl
theorem f_223_16 : fe0 223 16 = some (.iconst 3, 1, 0, 0, 0, 0, 0) := (pg_223 16).trans rfl
theorem f_223_17 : fe0 223 17 = some (.if_icmp .eq 21, 3, 0, 0, 0, 0, 0) := (pg_223 17).trans rfl
theorem f_223_20 : fe0 223 20 = some (.aload_n 0, 1, 0, 0, 0, 0, 0) := (pg_223 20).trans rfl
theorem f_223_21 : fe0 223 21 = some (.getfield 28, 3, 9, 7, 1, 0, 5031) := (pg_223 21).trans rfl
theorem f_223_24 : fe0 223 24 = some (.iload_n 1, 1, 0, 0, 0, 0, 0) := (pg_223 24).trans rfl
theorem f_223_25 : fe0 223 25 = some (.iaload, 1, 0, 0, 0, 0, 0) := (pg_223 25).trans rfl
theorem f_223_26 : fe0 223 26 = some (.ifCond .ne 9, 3, 0, 0, 0, 0, 0) := (pg_223 26).trans rfl
theorem f_223_29 : fe0 223 29 = some (.ldc_w 338, 3, 0, 0, 3294967285, 0, 7001) := (pg_223 29).trans rfl
theorem f_223_32 : fe0 223 32 = some (.goto 5, 3, 0, 0, 0, 0, 0) := (pg_223 32).trans rfl
theorem f_223_35 : fe0 223 35 = some (.ldc 166, 2, 0, 0, 3294967284, 0, 6004) := (pg_223 35).trans rfl
theorem f_223_37 : fe0 223 37 = some (.ireturn, 1, 0, 0, 0, 0, 0) := (pg_223 37).trans rfl
theorem f_223_38 : fe0 223 38 = some (.iload_n 2, 1, 0, 0, 0, 0, 0) := (pg_223 38).trans rfl
theorem f_223_39 : fe0 223 39 = some (.ifCond .ne 9, 3, 0, 0, 0, 0, 0) := (pg_223 39).trans rfl
theorem f_223_42 : fe0 223 42 = some (.ldc_w 349, 3, 0, 0, 3294967294, 0, 7037) := (pg_223 42).trans rfl
theorem f_223_45 : fe0 223 45 = some (.goto 11, 3, 0, 0, 0, 0, 0) := (pg_223 45).trans rfl
theorem f_223_48 : fe0 223 48 = some (.aload_n 0, 1, 0, 0, 0, 0, 0) := (pg_223 48).trans rfl
theorem f_223_49 : fe0 223 49 = some (.getfield 31, 3, 9, 8, 1, 0, 5032) := (pg_223 49).trans rfl
theorem f_223_52 : fe0 223 52 = some (.iload_n 1, 1, 0, 0, 0, 0, 0) := (pg_223 52).trans rfl
theorem f_223_53 : fe0 223 53 = some (.iaload, 1, 0, 0, 0, 0, 0) := (pg_223 53).trans rfl
theorem f_223_54 : fe0 223 54 = some (.iload_n 2, 1, 0, 0, 0, 0, 0) := (pg_223 54).trans rfl
theorem f_223_55 : fe0 223 55 = some (.irem, 1, 0, 0, 0, 0, 0) := (pg_223 55).trans rfl
theorem f_223_56 : fe0 223 56 = some (.ireturn, 1, 0, 0, 0, 0, 0) := (pg_223 56).trans rfl
theorem q_223_0 (d : Nat) (l0 : Nat) (x1 : Int32) (x2 : Int32) (μ : aMem) : Rn (d + 1) 223 (0, [.ref l0, .int x1, .int x2], [], μ) = (cI d 219 [.int x1] μ).bind fun p1 => if p1.1 = 0 then (some (some (.int (-1000000001)), p1.2)) else (if (mS p1.2 l0).1 = 9 then ((rdI p1.2 (mR p1.2 l0 7) x1).bind fun v4 => if v4 = 3 then (if x2 = 0 then (some (some (.int (-1000000002)), p1.2)) else ((rdI p1.2 (mR p1.2 l0 8) x1).bind fun v7 => if ¬ x2 = 0 then (some (some (.int (v7 - v7 / x2 * x2)), p1.2)) else none)) else ((rdI p1.2 (mR p1.2 l0 7) x1).bind fun v9 => if v9 = 0 then (some (some (.int (-1000000011)), p1.2)) else (some (some (.int (-1000000012)), p1.2)))) else none) :=
  (e_nx f_223_0 rfl).trans ((e_cI (L := [.ref l0, .int x1, .int x2]) (st := [.int x1]) (μ := μ) (L' := [.ref l0, .int x1, .int x2]) (st' := []) f_223_1 rfl rfl).trans (m_congr fun p1 => (e_ne f_223_4 rfl).trans (b_congr (fun h2 => (e_nx (q := (_, _, .int (-1000000001) :: _, _)) f_223_7 rfl).trans (e_rt f_223_9 rfl)) (fun h2 => (e_nx f_223_10 rfl).trans ((e_gd f_223_11 rfl).trans (g_congr (Iff.rfl) (fun h3 => (e_nx f_223_14 rfl).trans ((e_ia (L := [.ref l0, .int x1, .int x2]) (r := []) (μ := p1.2) f_223_15).trans (m_congr fun v4 => (e_nx (q := (_, _, .int 3 :: _, _)) f_223_16 rfl).trans ((e_eq f_223_17 rfl).trans (b_congr (fun h5 => (e_nx f_223_38 rfl).trans ((e_ne f_223_39 rfl).trans (b_congr (fun h6 => (e_nx (q := (_, _, .int (-1000000002) :: _, _)) f_223_42 rfl).trans ((e_nx f_223_45 rfl).trans (e_rt f_223_56 rfl))) (fun h6 => (e_nx f_223_48 rfl).trans ((e_gk f_223_49 (h3) rfl).trans ((e_nx f_223_52 rfl).trans ((e_ia (L := [.ref l0, .int x1, .int x2]) (r := []) (μ := p1.2) f_223_53).trans (m_congr fun v7 => (e_nx f_223_54 rfl).trans ((e_gd f_223_55 rfl).trans (g_congr (Iff.rfl) (fun h8 => e_rt f_223_56 rfl))))))))))) (fun h5 => (e_nx f_223_20 rfl).trans ((e_gk f_223_21 (h3) rfl).trans ((e_nx f_223_24 rfl).trans ((e_ia (L := [.ref l0, .int x1, .int x2]) (r := []) (μ := p1.2) f_223_25).trans (m_congr fun v9 => (e_ne f_223_26 rfl).trans (b_congr (fun h10 => (e_nx (q := (_, _, .int (-1000000011) :: _, _)) f_223_29 rfl).trans ((e_nx f_223_32 rfl).trans (e_rt f_223_37 rfl))) (fun h10 => (e_nx (q := (_, _, .int (-1000000012) :: _, _)) f_223_35 rfl).trans (e_rt f_223_37 rfl)))))))))))))))))))
theorem pg_224 (pc : Nat) : fe0 224 pc = lk prg_224 pc := rfl
theorem f_224_0 : fe0 224 0 = some (.aload_n 0, 1, 0, 0, 0, 0, 0) := (pg_224 0).trans rfl
theorem f_224_1 : fe0 224 1 = some (.getfield 350, 3, 9, 36, 0, 0, 5060) := (pg_224 1).trans rfl
theorem f_224_4 : fe0 224 4 = some (.bipush 60, 2, 0, 0, 0, 0, 0) := (pg_224 4).trans rfl
theorem f_224_6 : fe0 224 6 = some (.if_icmp .ne 6, 3, 0, 0, 0, 0, 0) := (pg_224 6).trans rfl
theorem f_224_9 : fe0 224 9 = some (.ldc 100, 2, 0, 0, 3294967293, 0, 5153) := (pg_224 9).trans rfl
theorem f_224_11 : fe0 224 11 = some (.ireturn, 1, 0, 0, 0, 0, 0) := (pg_224 11).trans rfl
theorem f_224_12 : fe0 224 12 = some (.aload_n 0, 1, 0, 0, 0, 0, 0) := (pg_224 12).trans rfl
theorem f_224_13 : fe0 224 13 = some (.getfield 77, 3, 9, 35, 1, 0, 5059) := (pg_224 13).trans rfl
theorem f_224_16 : fe0 224 16 = some (.aload_n 0, 1, 0, 0, 0, 0, 0) := (pg_224 16).trans rfl
theorem f_224_17 : fe0 224 17 = some (.getfield 350, 3, 9, 36, 0, 0, 5060) := (pg_224 17).trans rfl
theorem f_224_20 : fe0 224 20 = some (.iload_n 1, 1, 0, 0, 0, 0, 0) := (pg_224 20).trans rfl
theorem f_224_21 : fe0 224 21 = some (.iastore, 1, 0, 0, 0, 0, 0) := (pg_224 21).trans rfl
theorem f_224_22 : fe0 224 22 = some (.aload_n 0, 1, 0, 0, 0, 0, 0) := (pg_224 22).trans rfl
theorem f_224_23 : fe0 224 23 = some (.dup, 1, 0, 0, 0, 0, 0) := (pg_224 23).trans rfl
theorem f_224_24 : fe0 224 24 = some (.getfield 350, 3, 9, 36, 0, 0, 5060) := (pg_224 24).trans rfl
theorem f_224_27 : fe0 224 27 = some (.iconst 1, 1, 0, 0, 0, 0, 0) := (pg_224 27).trans rfl
theorem f_224_28 : fe0 224 28 = some (.iadd, 1, 0, 0, 0, 0, 0) := (pg_224 28).trans rfl
theorem f_224_29 : fe0 224 29 = some (.putfield 350, 3, 9, 36, 0, 0, 5060) := (pg_224 29).trans rfl
theorem f_224_32 : fe0 224 32 = some (.aload_n 0, 1, 0, 0, 0, 0, 0) := (pg_224 32).trans rfl
theorem f_224_33 : fe0 224 33 = some (.getfield 350, 3, 9, 36, 0, 0, 5060) := (pg_224 33).trans rfl
theorem f_224_36 : fe0 224 36 = some (.ireturn, 1, 0, 0, 0, 0, 0) := (pg_224 36).trans rfl
theorem q_224_0 (d : Nat) (l0 : Nat) (x1 : Int32) (μ : aMem) : Rn d 224 (0, [.ref l0, .int x1], [], μ) = if (mS μ l0).1 = 9 then (if (mF μ l0 36) = 60 then (some (some (.int (-1000000003)), μ)) else (if (mS μ (mR μ l0 35)).1 = 10 ∧ inb (mF μ l0 36) (mS μ (mR μ l0 35)).2 then (some (some (.int (mF (setF (setF μ (mR μ l0 35) (ix (mF μ l0 36)) x1) l0 36 ((mF (setF μ (mR μ l0 35) (ix (mF μ l0 36)) x1) l0 36) + 1)) l0 36)), setF (setF μ (mR μ l0 35) (ix (mF μ l0 36)) x1) l0 36 ((mF (setF μ (mR μ l0 35) (ix (mF μ l0 36)) x1) l0 36) + 1))) else none)) else none :=
  (e_nx f_224_0 rfl).trans ((e_gd f_224_1 rfl).trans (g_congr (Iff.rfl) (fun h1 => (e_nx (q := (_, _, .int 60 :: _, _)) f_224_4 rfl).trans ((e_ne f_224_6 rfl).trans (b_congr (fun h2 => (e_nx (q := (_, _, .int (-1000000003) :: _, _)) f_224_9 rfl).trans (e_rt f_224_11 rfl)) (fun h2 => (e_nx f_224_12 rfl).trans ((e_gk f_224_13 (h1) rfl).trans ((e_nx f_224_16 rfl).trans ((e_gk f_224_17 (h1) rfl).trans ((e_nx f_224_20 rfl).trans ((e_gd f_224_21 rfl).trans (g_congr (Iff.rfl) (fun h3 => (e_nx f_224_22 rfl).trans ((e_nx f_224_23 rfl).trans ((e_gk f_224_24 (h1) rfl).trans ((e_nx (q := (_, _, .int 1 :: _, _)) f_224_27 rfl).trans ((e_nx f_224_28 rfl).trans ((e_gk (L := [.ref l0, .int x1]) (st := [.int ((mF (setF μ (mR μ l0 35) (ix (mF μ l0 36)) x1) l0 36) + 1), .ref l0]) (μ := setF μ (mR μ l0 35) (ix (mF μ l0 36)) x1) f_224_29 ((pi_iff rfl).mpr h1) rfl).trans ((e_nx f_224_32 rfl).trans ((e_gk f_224_33 (h1) rfl).trans (e_rt f_224_36 rfl)))))))))))))))))))))
theorem pg_225 (pc : Nat) : fe0 225 pc = lk prg_225 pc := rfl
theorem f_225_0 : fe0 225 0 = some (.iconst 0, 1, 0, 0, 0, 0, 0) := (pg_225 0).trans rfl
theorem f_225_1 : fe0 225 1 = some (.istore_n 3, 1, 0, 0, 0, 0, 0) := (pg_225 1).trans rfl
theorem f_225_2 : fe0 225 2 = some (.iload_n 3, 1, 0, 0, 0, 0, 0) := (pg_225 2).trans rfl
theorem f_225_3 : fe0 225 3 = some (.sipush 2914, 3, 0, 0, 0, 0, 0) := (pg_225 3).trans rfl
theorem f_225_6 : fe0 225 6 = some (.if_icmp .ge 15, 3, 0, 0, 0, 0, 0) := (pg_225 6).trans rfl
theorem f_225_9 : fe0 225 9 = some (.aload_n 2, 1, 0, 0, 0, 0, 0) := (pg_225 9).trans rfl
theorem f_225_10 : fe0 225 10 = some (.iload_n 3, 1, 0, 0, 0, 0, 0) := (pg_225 10).trans rfl
theorem f_225_11 : fe0 225 11 = some (.aload_n 1, 1, 0, 0, 0, 0, 0) := (pg_225 11).trans rfl
theorem f_225_12 : fe0 225 12 = some (.iload_n 3, 1, 0, 0, 0, 0, 0) := (pg_225 12).trans rfl
theorem f_225_13 : fe0 225 13 = some (.iaload, 1, 0, 0, 0, 0, 0) := (pg_225 13).trans rfl
theorem f_225_14 : fe0 225 14 = some (.iastore, 1, 0, 0, 0, 0, 0) := (pg_225 14).trans rfl
theorem f_225_15 : fe0 225 15 = some (.iinc 3 1, 3, 0, 0, 0, 0, 0) := (pg_225 15).trans rfl
theorem f_225_18 : fe0 225 18 = some (.goto (-16), 3, 0, 0, 0, 0, 0) := (pg_225 18).trans rfl
theorem f_225_21 : fe0 225 21 = some (.return_, 1, 0, 0, 0, 0, 0) := (pg_225 21).trans rfl
theorem q_225_0 (d : Nat) (l0 : Nat) (l1 : Nat) (l2 : Nat) (μ : aMem) : Rn d 225 (0, [.ref l0, .ref l1, .ref l2, un], [], μ) = Rn d 225 (2, [.ref l0, .ref l1, .ref l2, .int 0], [], μ) :=
  (e_nx (q := (_, _, .int 0 :: _, _)) f_225_0 rfl).trans (e_nx (q := (_, [.ref l0, .ref l1, .ref l2, .int 0], _, _)) f_225_1 rfl)
theorem q_225_2 (d : Nat) (l0 : Nat) (l1 : Nat) (l2 : Nat) (x3 : Int32) (μ : aMem) : Rn d 225 (2, [.ref l0, .ref l1, .ref l2, .int x3], [], μ) = if 2914 ≤ x3 then (some (none, μ)) else ((rdI μ l1 x3).bind fun v2 => if (mS μ l2).1 = 10 ∧ inb x3 (mS μ l2).2 then (Rn d 225 (2, [.ref l0, .ref l1, .ref l2, .int (x3 + 1)], [], setF μ l2 (ix x3) v2)) else none) :=
  (e_nx f_225_2 rfl).trans ((e_nx (q := (_, _, .int 2914 :: _, _)) f_225_3 rfl).trans ((e_ge f_225_6 rfl).trans (b_congr (fun h1 => e_rt f_225_21 rfl) (fun h1 => (e_nx f_225_9 rfl).trans ((e_nx f_225_10 rfl).trans ((e_nx f_225_11 rfl).trans ((e_nx f_225_12 rfl).trans ((e_ia (L := [.ref l0, .ref l1, .ref l2, .int x3]) (r := [.int x3, .ref l2]) (μ := μ) f_225_13).trans (m_congr fun v2 => (e_gd f_225_14 rfl).trans (g_congr (Iff.rfl) (fun h3 => (e_nx (q := (_, [.ref l0, .ref l1, .ref l2, .int (x3 + 1)], _, _)) f_225_15 rfl).trans (e_nx f_225_18 rfl))))))))))))
theorem pg_226 (pc : Nat) : fe0 226 pc = lk prg_226 pc := rfl
theorem f_226_0 : fe0 226 0 = some (.aload_n 0, 1, 0, 0, 0, 0, 0) := (pg_226 0).trans rfl
theorem f_226_1 : fe0 226 1 = some (.getfield 350, 3, 9, 36, 0, 0, 5060) := (pg_226 1).trans rfl
theorem f_226_4 : fe0 226 4 = some (.istore_n 3, 1, 0, 0, 0, 0, 0) := (pg_226 4).trans rfl
theorem f_226_5 : fe0 226 5 = some (.aload_n 0, 1, 0, 0, 0, 0, 0) := (pg_226 5).trans rfl
theorem f_226_6 : fe0 226 6 = some (.iconst 0, 1, 0, 0, 0, 0, 0) := (pg_226 6).trans rfl
theorem f_226_7 : fe0 226 7 = some (.putfield 350, 3, 9, 36, 0, 0, 5060) := (pg_226 7).trans rfl
theorem f_226_10 : fe0 226 10 = some (.iload_n 1, 1, 0, 0, 0, 0, 0) := (pg_226 10).trans rfl
theorem f_226_11 : fe0 226 11 = some (.invokestatic 95, 3, 141, 1, 2, 0, 5149) := (pg_226 11).trans rfl
theorem f_226_14 : fe0 226 14 = some (.ifCond .eq 15, 3, 0, 0, 0, 0, 0) := (pg_226 14).trans rfl
theorem f_226_17 : fe0 226 17 = some (.iload_n 2, 1, 0, 0, 0, 0, 0) := (pg_226 17).trans rfl
theorem f_226_18 : fe0 226 18 = some (.i2l, 1, 0, 0, 0, 0, 0) := (pg_226 18).trans rfl
theorem f_226_19 : fe0 226 19 = some (.lconst 1, 1, 0, 0, 0, 0, 0) := (pg_226 19).trans rfl
theorem f_226_20 : fe0 226 20 = some (.ldc2_w 353, 3, 0, 0, 30, 0, 7046) := (pg_226 20).trans rfl
theorem f_226_23 : fe0 226 23 = some (.invokestatic 84, 3, 133, 3, 2, 0, 5144) := (pg_226 23).trans rfl
theorem f_226_26 : fe0 226 26 = some (.ifCond .ne 6, 3, 0, 0, 0, 0, 0) := (pg_226 26).trans rfl
theorem f_226_29 : fe0 226 29 = some (.ldc 99, 2, 0, 0, 3294967295, 0, 5152) := (pg_226 29).trans rfl
theorem f_226_31 : fe0 226 31 = some (.ireturn, 1, 0, 0, 0, 0, 0) := (pg_226 31).trans rfl
theorem f_226_32 : fe0 226 32 = some (.aload_n 0, 1, 0, 0, 0, 0, 0) := (pg_226 32).trans rfl
theorem f_226_33 : fe0 226 33 = some (.getfield 355, 3, 9, 3, 0, 0, 5027) := (pg_226 33).trans rfl
theorem f_226_36 : fe0 226 36 = some (.ifCond .ne 7, 3, 0, 0, 0, 0, 0) := (pg_226 36).trans rfl
theorem f_226_39 : fe0 226 39 = some (.ldc_w 349, 3, 0, 0, 3294967294, 0, 7037) := (pg_226 39).trans rfl
theorem f_226_42 : fe0 226 42 = some (.ireturn, 1, 0, 0, 0, 0, 0) := (pg_226 42).trans rfl
theorem f_226_43 : fe0 226 43 = some (.aload_n 0, 1, 0, 0, 0, 0, 0) := (pg_226 43).trans rfl
theorem f_226_44 : fe0 226 44 = some (.aload_n 0, 1, 0, 0, 0, 0, 0) := (pg_226 44).trans rfl
theorem f_226_45 : fe0 226 45 = some (.getfield 7, 3, 9, 0, 1, 0, 5024) := (pg_226 45).trans rfl
theorem f_226_48 : fe0 226 48 = some (.aload_n 0, 1, 0, 0, 0, 0, 0) := (pg_226 48).trans rfl
theorem f_226_49 : fe0 226 49 = some (.getfield 16, 3, 9, 2, 1, 0, 5026) := (pg_226 49).trans rfl
theorem f_226_52 : fe0 226 52 = some (.invokevirtual 359, 3, 225, 2, 0, 9, 7047) := (pg_226 52).trans rfl
theorem f_226_55 : fe0 226 55 = some (.aload_n 0, 1, 0, 0, 0, 0, 0) := (pg_226 55).trans rfl
theorem f_226_56 : fe0 226 56 = some (.aload_n 0, 1, 0, 0, 0, 0, 0) := (pg_226 56).trans rfl
theorem f_226_57 : fe0 226 57 = some (.getfield 13, 3, 9, 1, 1, 0, 5025) := (pg_226 57).trans rfl
theorem f_226_60 : fe0 226 60 = some (.aload_n 0, 1, 0, 0, 0, 0, 0) := (pg_226 60).trans rfl
theorem f_226_61 : fe0 226 61 = some (.getfield 7, 3, 9, 0, 1, 0, 5024) := (pg_226 61).trans rfl
theorem f_226_64 : fe0 226 64 = some (.invokevirtual 359, 3, 225, 2, 0, 9, 7047) := (pg_226 64).trans rfl
theorem f_226_67 : fe0 226 67 = some (.iconst 0, 1, 0, 0, 0, 0, 0) := (pg_226 67).trans rfl
theorem f_226_68 : fe0 226 68 = some (.istore 4, 2, 0, 0, 0, 0, 0) := (pg_226 68).trans rfl
theorem f_226_70 : fe0 226 70 = some (.iload 4, 2, 0, 0, 0, 0, 0) := (pg_226 70).trans rfl
theorem f_226_72 : fe0 226 72 = some (.iload_n 2, 1, 0, 0, 0, 0, 0) := (pg_226 72).trans rfl
theorem f_226_73 : fe0 226 73 = some (.if_icmp .ge 45, 3, 0, 0, 0, 0, 0) := (pg_226 73).trans rfl
theorem f_226_76 : fe0 226 76 = some (.aload_n 0, 1, 0, 0, 0, 0, 0) := (pg_226 76).trans rfl
theorem f_226_77 : fe0 226 77 = some (.iload_n 1, 1, 0, 0, 0, 0, 0) := (pg_226 77).trans rfl
theorem f_226_78 : fe0 226 78 = some (.invokevirtual 231, 3, 187, 1, 0, 9, 6131) := (pg_226 78).trans rfl
theorem f_226_81 : fe0 226 81 = some (.istore 5, 2, 0, 0, 0, 0, 0) := (pg_226 81).trans rfl
theorem f_226_83 : fe0 226 83 = some (.aload_n 0, 1, 0, 0, 0, 0, 0) := (pg_226 83).trans rfl
theorem f_226_84 : fe0 226 84 = some (.getfield 80, 3, 9, 37, 1, 0, 5061) := (pg_226 84).trans rfl
theorem f_226_87 : fe0 226 87 = some (.iconst 2, 1, 0, 0, 0, 0, 0) := (pg_226 87).trans rfl
theorem f_226_88 : fe0 226 88 = some (.iload 4, 2, 0, 0, 0, 0, 0) := (pg_226 88).trans rfl
theorem f_226_90 : fe0 226 90 = some (.imul, 1, 0, 0, 0, 0, 0) := (pg_226 90).trans rfl
theorem f_226_91 : fe0 226 91 = some (.aload_n 0, 1, 0, 0, 0, 0, 0) := (pg_226 91).trans rfl
theorem f_226_92 : fe0 226 92 = some (.getfield 225, 3, 9, 18, 0, 0, 5042) := (pg_226 92).trans rfl
theorem f_226_95 : fe0 226 95 = some (.iastore, 1, 0, 0, 0, 0, 0) := (pg_226 95).trans rfl
theorem f_226_96 : fe0 226 96 = some (.aload_n 0, 1, 0, 0, 0, 0, 0) := (pg_226 96).trans rfl
theorem f_226_97 : fe0 226 97 = some (.getfield 80, 3, 9, 37, 1, 0, 5061) := (pg_226 97).trans rfl
theorem f_226_100 : fe0 226 100 = some (.iconst 2, 1, 0, 0, 0, 0, 0) := (pg_226 100).trans rfl
theorem f_226_101 : fe0 226 101 = some (.iload 4, 2, 0, 0, 0, 0, 0) := (pg_226 101).trans rfl
theorem f_226_103 : fe0 226 103 = some (.imul, 1, 0, 0, 0, 0, 0) := (pg_226 103).trans rfl
theorem f_226_104 : fe0 226 104 = some (.iconst 1, 1, 0, 0, 0, 0, 0) := (pg_226 104).trans rfl
theorem f_226_105 : fe0 226 105 = some (.iadd, 1, 0, 0, 0, 0, 0) := (pg_226 105).trans rfl
theorem f_226_106 : fe0 226 106 = some (.aload_n 0, 1, 0, 0, 0, 0, 0) := (pg_226 106).trans rfl
theorem f_226_107 : fe0 226 107 = some (.iconst (-1), 1, 0, 0, 0, 0, 0) := (pg_226 107).trans rfl
theorem f_226_108 : fe0 226 108 = some (.invokevirtual 113, 3, 147, 1, 0, 9, 5182) := (pg_226 108).trans rfl
theorem f_226_111 : fe0 226 111 = some (.iastore, 1, 0, 0, 0, 0, 0) := (pg_226 111).trans rfl
theorem f_226_112 : fe0 226 112 = some (.iinc 4 1, 3, 0, 0, 0, 0, 0) := (pg_226 112).trans rfl
theorem f_226_115 : fe0 226 115 = some (.goto (-45), 3, 0, 0, 0, 0, 0) := (pg_226 115).trans rfl
theorem f_226_118 : fe0 226 118 = some (.aload_n 0, 1, 0, 0, 0, 0, 0) := (pg_226 118).trans rfl
theorem f_226_119 : fe0 226 119 = some (.aload_n 0, 1, 0, 0, 0, 0, 0) := (pg_226 119).trans rfl
theorem f_226_120 : fe0 226 120 = some (.getfield 16, 3, 9, 2, 1, 0, 5026) := (pg_226 120).trans rfl
theorem f_226_123 : fe0 226 123 = some (.aload_n 0, 1, 0, 0, 0, 0, 0) := (pg_226 123).trans rfl
theorem f_226_124 : fe0 226 124 = some (.getfield 7, 3, 9, 0, 1, 0, 5024) := (pg_226 124).trans rfl
theorem f_226_127 : fe0 226 127 = some (.invokevirtual 359, 3, 225, 2, 0, 9, 7047) := (pg_226 127).trans rfl
theorem f_226_130 : fe0 226 130 = some (.iconst 0, 1, 0, 0, 0, 0, 0) := (pg_226 130).trans rfl
theorem f_226_131 : fe0 226 131 = some (.istore 4, 2, 0, 0, 0, 0, 0) := (pg_226 131).trans rfl
theorem f_226_133 : fe0 226 133 = some (.iload 4, 2, 0, 0, 0, 0, 0) := (pg_226 133).trans rfl
theorem f_226_135 : fe0 226 135 = some (.iload_n 3, 1, 0, 0, 0, 0, 0) := (pg_226 135).trans rfl
theorem f_226_136 : fe0 226 136 = some (.if_icmp .ge 34, 3, 0, 0, 0, 0, 0) := (pg_226 136).trans rfl
theorem f_226_139 : fe0 226 139 = some (.iload 4, 2, 0, 0, 0, 0, 0) := (pg_226 139).trans rfl
theorem f_226_141 : fe0 226 141 = some (.iconst 2, 1, 0, 0, 0, 0, 0) := (pg_226 141).trans rfl
theorem f_226_142 : fe0 226 142 = some (.iload_n 2, 1, 0, 0, 0, 0, 0) := (pg_226 142).trans rfl
theorem f_226_143 : fe0 226 143 = some (.imul, 1, 0, 0, 0, 0, 0) := (pg_226 143).trans rfl
theorem f_226_144 : fe0 226 144 = some (.if_icmp .ge 26, 3, 0, 0, 0, 0, 0) := (pg_226 144).trans rfl
theorem f_226_147 : fe0 226 147 = some (.aload_n 0, 1, 0, 0, 0, 0, 0) := (pg_226 147).trans rfl
theorem f_226_148 : fe0 226 148 = some (.getfield 77, 3, 9, 35, 1, 0, 5059) := (pg_226 148).trans rfl
theorem f_226_151 : fe0 226 151 = some (.iload 4, 2, 0, 0, 0, 0, 0) := (pg_226 151).trans rfl
theorem f_226_153 : fe0 226 153 = some (.iaload, 1, 0, 0, 0, 0, 0) := (pg_226 153).trans rfl
theorem f_226_154 : fe0 226 154 = some (.aload_n 0, 1, 0, 0, 0, 0, 0) := (pg_226 154).trans rfl
theorem f_226_155 : fe0 226 155 = some (.getfield 80, 3, 9, 37, 1, 0, 5061) := (pg_226 155).trans rfl
theorem f_226_158 : fe0 226 158 = some (.iload 4, 2, 0, 0, 0, 0, 0) := (pg_226 158).trans rfl
theorem f_226_160 : fe0 226 160 = some (.iaload, 1, 0, 0, 0, 0, 0) := (pg_226 160).trans rfl
theorem f_226_161 : fe0 226 161 = some (.if_icmp .ne 9, 3, 0, 0, 0, 0, 0) := (pg_226 161).trans rfl
theorem f_226_164 : fe0 226 164 = some (.iinc 4 1, 3, 0, 0, 0, 0, 0) := (pg_226 164).trans rfl
theorem f_226_167 : fe0 226 167 = some (.goto (-34), 3, 0, 0, 0, 0, 0) := (pg_226 167).trans rfl
theorem f_226_170 : fe0 226 170 = some (.iload 4, 2, 0, 0, 0, 0, 0) := (pg_226 170).trans rfl
theorem f_226_172 : fe0 226 172 = some (.iload_n 3, 1, 0, 0, 0, 0, 0) := (pg_226 172).trans rfl
theorem f_226_173 : fe0 226 173 = some (.if_icmp .ne 15, 3, 0, 0, 0, 0, 0) := (pg_226 173).trans rfl
theorem f_226_176 : fe0 226 176 = some (.iload 4, 2, 0, 0, 0, 0, 0) := (pg_226 176).trans rfl
theorem f_226_178 : fe0 226 178 = some (.iconst 2, 1, 0, 0, 0, 0, 0) := (pg_226 178).trans rfl
theorem f_226_179 : fe0 226 179 = some (.iload_n 2, 1, 0, 0, 0, 0, 0) := (pg_226 179).trans rfl
theorem f_226_180 : fe0 226 180 = some (.imul, 1, 0, 0, 0, 0, 0) := (pg_226 180).trans rfl
theorem f_226_181 : fe0 226 181 = some (.if_icmp .ne 7, 3, 0, 0, 0, 0, 0) := (pg_226 181).trans rfl
theorem f_226_184 : fe0 226 184 = some (.iconst 0, 1, 0, 0, 0, 0, 0) := (pg_226 184).trans rfl
theorem f_226_185 : fe0 226 185 = some (.goto 7, 3, 0, 0, 0, 0, 0) := (pg_226 185).trans rfl
theorem f_226_188 : fe0 226 188 = some (.iconst 1, 1, 0, 0, 0, 0, 0) := (pg_226 188).trans rfl
theorem f_226_189 : fe0 226 189 = some (.iload 4, 2, 0, 0, 0, 0, 0) := (pg_226 189).trans rfl
theorem f_226_191 : fe0 226 191 = some (.iadd, 1, 0, 0, 0, 0, 0) := (pg_226 191).trans rfl
theorem f_226_192 : fe0 226 192 = some (.ireturn, 1, 0, 0, 0, 0, 0) := (pg_226 192).trans rfl
theorem q_226_0 (d : Nat) (l0 : Nat) (x1 : Int32) (x2 : Int32) (μ : aMem) : Rn (d + 1) 226 (0, [.ref l0, .int x1, .int x2, un, un, un], [], μ) = if (mS μ l0).1 = 9 then ((cI d 141 [.int x1] (setF μ l0 36 0)).bind fun p2 => if p2.1 = 0 then (some (some (.int (-1000000001)), p2.2)) else ((cI d 133 [.long ((x2 : Int32).toInt64), .long 1, .long 30] p2.2).bind fun p4 => if p4.1 = 0 then (some (some (.int (-1000000001)), p4.2)) else (if (mS p4.2 l0).1 = 9 then (if (mF p4.2 l0 3) = 0 then (some (some (.int (-1000000002)), p4.2)) else (if (mS p4.2 l0).1 = 9 ∧ l0 < 999999 then ((cV d 225 [.ref l0, .ref (mR p4.2 l0 0), .ref (mR p4.2 l0 2)] p4.2).bind fun p8 => if (mS p8 l0).1 = 9 then (if (mS p8 l0).1 = 9 ∧ l0 < 999999 then ((cV d 225 [.ref l0, .ref (mR p8 l0 1), .ref (mR p8 l0 0)] p8).bind fun p11 => Rn (d + 1) 226 (70, [.ref l0, .int x1, .int x2, .int (mF μ l0 36), .int 0, un], [], p11)) else none) else none) else none)) else none))) else none :=
  (e_nx f_226_0 rfl).trans ((e_gd f_226_1 rfl).trans (g_congr (Iff.rfl) (fun h1 => (e_nx (q := (_, [.ref l0, .int x1, .int x2, .int (mF μ l0 36), un, un], _, _)) f_226_4 rfl).trans ((e_nx f_226_5 rfl).trans ((e_nx (q := (_, _, .int 0 :: _, _)) f_226_6 rfl).trans ((e_gk (L := [.ref l0, .int x1, .int x2, .int (mF μ l0 36), un, un]) (st := [.int 0, .ref l0]) (μ := μ) f_226_7 ((pi_iff rfl).mpr h1) rfl).trans ((e_nx f_226_10 rfl).trans ((e_cI (L := [.ref l0, .int x1, .int x2, .int (mF μ l0 36), un, un]) (st := [.int x1]) (μ := setF μ l0 36 0) (L' := [.ref l0, .int x1, .int x2, .int (mF μ l0 36), un, un]) (st' := []) f_226_11 rfl rfl).trans (m_congr fun p2 => (e_eq f_226_14 rfl).trans (b_congr (fun h3 => (e_nx (q := (_, _, .int (-1000000001) :: _, _)) f_226_29 rfl).trans (e_rt f_226_31 rfl)) (fun h3 => (e_nx f_226_17 rfl).trans ((e_nx f_226_18 rfl).trans ((e_nx (q := (_, _, .long 1 :: _, _)) f_226_19 rfl).trans ((e_nx (q := (_, _, .long 30 :: _, _)) f_226_20 rfl).trans ((e_cI (L := [.ref l0, .int x1, .int x2, .int (mF μ l0 36), un, un]) (st := [.long 30, .long 1, .long ((x2 : Int32).toInt64)]) (μ := p2.2) (L' := [.ref l0, .int x1, .int x2, .int (mF μ l0 36), un, un]) (st' := []) f_226_23 rfl rfl).trans (m_congr fun p4 => (e_ne f_226_26 rfl).trans (b_congr (fun h5 => (e_nx (q := (_, _, .int (-1000000001) :: _, _)) f_226_29 rfl).trans (e_rt f_226_31 rfl)) (fun h5 => (e_nx f_226_32 rfl).trans ((e_gd f_226_33 rfl).trans (g_congr (Iff.rfl) (fun h6 => (e_ne f_226_36 rfl).trans (b_congr (fun h7 => (e_nx (q := (_, _, .int (-1000000002) :: _, _)) f_226_39 rfl).trans (e_rt f_226_42 rfl)) (fun h7 => (e_nx f_226_43 rfl).trans ((e_nx f_226_44 rfl).trans ((e_gk f_226_45 (h6) rfl).trans ((e_nx f_226_48 rfl).trans ((e_gk f_226_49 (h6) rfl).trans ((e_gV (L := [.ref l0, .int x1, .int x2, .int (mF μ l0 36), un, un]) (st := [.ref (mR p4.2 l0 2), .ref (mR p4.2 l0 0), .ref l0]) (μ := p4.2) (L' := [.ref l0, .int x1, .int x2, .int (mF μ l0 36), un, un]) (st' := []) f_226_52 rfl rfl).trans (g_congr (v_c2 rfl (Nat.le_of_ble_eq_true rfl)) (fun h9 => m_congr fun p8 => (e_nx f_226_55 rfl).trans ((e_nx f_226_56 rfl).trans ((e_gd f_226_57 rfl).trans (g_congr (Iff.rfl) (fun h10 => (e_nx f_226_60 rfl).trans ((e_gk f_226_61 (h10) rfl).trans ((e_gV (L := [.ref l0, .int x1, .int x2, .int (mF μ l0 36), un, un]) (st := [.ref (mR p8 l0 0), .ref (mR p8 l0 1), .ref l0]) (μ := p8) (L' := [.ref l0, .int x1, .int x2, .int (mF μ l0 36), un, un]) (st' := []) f_226_64 rfl rfl).trans (g_congr (v_c2 rfl (Nat.le_of_ble_eq_true rfl)) (fun h12 => m_congr fun p11 => (e_nx (q := (_, _, .int 0 :: _, _)) f_226_67 rfl).trans (e_nx (q := (_, [.ref l0, .int x1, .int x2, .int (mF μ l0 36), .int 0, un], _, _)) f_226_68 rfl)))))))))))))))))))))))))))))))))))))))
theorem q_226_70 (d : Nat) (l0 : Nat) (x1 : Int32) (x2 : Int32) (x3 : Int32) (x4 : Int32) (w5 : Value) (μ : aMem) : Rn (d + 1) 226 (70, [.ref l0, .int x1, .int x2, .int x3, .int x4, w5], [], μ) = if x2 ≤ x4 then (if (mS μ l0).1 = 9 then (if (mS μ l0).1 = 9 ∧ l0 < 999999 then ((cV d 225 [.ref l0, .ref (mR μ l0 2), .ref (mR μ l0 0)] μ).bind fun p3 => Rn (d + 1) 226 (133, [.ref l0, .int x1, .int x2, .int x3, .int 0, w5], [], p3)) else none) else none) else (if (mS μ l0).1 = 9 ∧ l0 < 999999 then ((cI d 187 [.ref l0, .int x1] μ).bind fun p5 => if (mS p5.2 l0).1 = 9 then (if (mS p5.2 (mR p5.2 l0 37)).1 = 10 ∧ inb (2 * x4) (mS p5.2 (mR p5.2 l0 37)).2 then (if (mS p5.2 l0).1 = 9 ∧ l0 < 999999 then ((cI d 147 [.ref l0, .int (-1)] (setF p5.2 (mR p5.2 l0 37) (ix (2 * x4)) (mF p5.2 l0 18))).bind fun p9 => if (mS p9.2 (mR p5.2 l0 37)).1 = 10 ∧ inb ((2 * x4) + 1) (mS p9.2 (mR p5.2 l0 37)).2 then (Rn (d + 1) 226 (70, [.ref l0, .int x1, .int x2, .int x3, .int (x4 + 1), .int p5.1], [], setF p9.2 (mR p5.2 l0 37) (ix ((2 * x4) + 1)) p9.1)) else none) else none) else none) else none) else none) :=
  (e_nx f_226_70 rfl).trans ((e_nx f_226_72 rfl).trans ((e_ge f_226_73 rfl).trans (b_congr (fun h1 => (e_nx f_226_118 rfl).trans ((e_nx f_226_119 rfl).trans ((e_gd f_226_120 rfl).trans (g_congr (Iff.rfl) (fun h2 => (e_nx f_226_123 rfl).trans ((e_gk f_226_124 (h2) rfl).trans ((e_gV (L := [.ref l0, .int x1, .int x2, .int x3, .int x4, w5]) (st := [.ref (mR μ l0 0), .ref (mR μ l0 2), .ref l0]) (μ := μ) (L' := [.ref l0, .int x1, .int x2, .int x3, .int x4, w5]) (st' := []) f_226_127 rfl rfl).trans (g_congr (v_c2 rfl (Nat.le_of_ble_eq_true rfl)) (fun h4 => m_congr fun p3 => (e_nx (q := (_, _, .int 0 :: _, _)) f_226_130 rfl).trans (e_nx (q := (_, [.ref l0, .int x1, .int x2, .int x3, .int 0, w5], _, _)) f_226_131 rfl)))))))))) (fun h1 => (e_nx f_226_76 rfl).trans ((e_nx f_226_77 rfl).trans ((e_gI (L := [.ref l0, .int x1, .int x2, .int x3, .int x4, w5]) (st := [.int x1, .ref l0]) (μ := μ) (L' := [.ref l0, .int x1, .int x2, .int x3, .int x4, w5]) (st' := []) f_226_78 rfl rfl).trans (g_congr (v_c2 rfl (Nat.le_of_ble_eq_true rfl)) (fun h6 => m_congr fun p5 => (e_nx (q := (_, [.ref l0, .int x1, .int x2, .int x3, .int x4, .int p5.1], _, _)) f_226_81 rfl).trans ((e_nx f_226_83 rfl).trans ((e_gd f_226_84 rfl).trans (g_congr (Iff.rfl) (fun h7 => (e_nx (q := (_, _, .int 2 :: _, _)) f_226_87 rfl).trans ((e_nx f_226_88 rfl).trans ((e_nx f_226_90 rfl).trans ((e_nx f_226_91 rfl).trans ((e_gk f_226_92 (h7) rfl).trans ((e_gd f_226_95 rfl).trans (g_congr (Iff.rfl) (fun h8 => (e_nx f_226_96 rfl).trans ((e_gk f_226_97 (h7) rfl).trans ((e_nx (q := (_, _, .int 2 :: _, _)) f_226_100 rfl).trans ((e_nx f_226_101 rfl).trans ((e_nx f_226_103 rfl).trans ((e_nx (q := (_, _, .int 1 :: _, _)) f_226_104 rfl).trans ((e_nx f_226_105 rfl).trans ((e_nx f_226_106 rfl).trans ((e_nx (q := (_, _, .int (-1) :: _, _)) f_226_107 rfl).trans ((e_gI (L := [.ref l0, .int x1, .int x2, .int x3, .int x4, .int p5.1]) (st := [.int (-1), .ref l0, .int ((2 * x4) + 1), .ref (mR p5.2 l0 37)]) (μ := setF p5.2 (mR p5.2 l0 37) (ix (2 * x4)) (mF p5.2 l0 18)) (L' := [.ref l0, .int x1, .int x2, .int x3, .int x4, .int p5.1]) (st' := [.int ((2 * x4) + 1), .ref (mR p5.2 l0 37)]) f_226_108 rfl rfl).trans (g_congr (v_c2 rfl (Nat.le_of_ble_eq_true rfl)) (fun h10 => m_congr fun p9 => (e_gd f_226_111 rfl).trans (g_congr (Iff.rfl) (fun h11 => (e_nx (q := (_, [.ref l0, .int x1, .int x2, .int x3, .int (x4 + 1), .int p5.1], _, _)) f_226_112 rfl).trans (e_nx f_226_115 rfl)))))))))))))))))))))))))))))))))
theorem q_226_133 (d : Nat) (l0 : Nat) (x1 : Int32) (x2 : Int32) (x3 : Int32) (x4 : Int32) (w5 : Value) (μ : aMem) : Rn (d + 1) 226 (133, [.ref l0, .int x1, .int x2, .int x3, .int x4, w5], [], μ) = if x3 ≤ x4 then (if x4 = x3 then (if x4 = (2 * x2) then (some (some (.int 0), μ)) else (some (some (.int (1 + x4)), μ))) else (some (some (.int (1 + x4)), μ))) else (if (2 * x2) ≤ x4 then (if x4 = x3 then (if x4 = (2 * x2) then (some (some (.int 0), μ)) else (some (some (.int (1 + x4)), μ))) else (some (some (.int (1 + x4)), μ))) else (if (mS μ l0).1 = 9 then ((rdI μ (mR μ l0 35) x4).bind fun v8 => (rdI μ (mR μ l0 37) x4).bind fun v9 => if v8 = v9 then (Rn (d + 1) 226 (133, [.ref l0, .int x1, .int x2, .int x3, .int (x4 + 1), w5], [], μ)) else (if x4 = x3 then (if x4 = (2 * x2) then (some (some (.int 0), μ)) else (some (some (.int (1 + x4)), μ))) else (some (some (.int (1 + x4)), μ)))) else none)) :=
  (e_nx f_226_133 rfl).trans ((e_nx f_226_135 rfl).trans ((e_ge f_226_136 rfl).trans (b_congr (fun h1 => (e_nx f_226_170 rfl).trans ((e_nx f_226_172 rfl).trans ((e_ne f_226_173 rfl).trans (b_congr (fun h2 => (e_nx f_226_176 rfl).trans ((e_nx (q := (_, _, .int 2 :: _, _)) f_226_178 rfl).trans ((e_nx f_226_179 rfl).trans ((e_nx f_226_180 rfl).trans ((e_ne f_226_181 rfl).trans (b_congr (fun h3 => (e_nx (q := (_, _, .int 0 :: _, _)) f_226_184 rfl).trans ((e_nx f_226_185 rfl).trans (e_rt f_226_192 rfl))) (fun h3 => (e_nx (q := (_, _, .int 1 :: _, _)) f_226_188 rfl).trans ((e_nx f_226_189 rfl).trans ((e_nx f_226_191 rfl).trans (e_rt f_226_192 rfl)))))))))) (fun h2 => (e_nx (q := (_, _, .int 1 :: _, _)) f_226_188 rfl).trans ((e_nx f_226_189 rfl).trans ((e_nx f_226_191 rfl).trans (e_rt f_226_192 rfl)))))))) (fun h1 => (e_nx f_226_139 rfl).trans ((e_nx (q := (_, _, .int 2 :: _, _)) f_226_141 rfl).trans ((e_nx f_226_142 rfl).trans ((e_nx f_226_143 rfl).trans ((e_ge f_226_144 rfl).trans (b_congr (fun h4 => (e_nx f_226_170 rfl).trans ((e_nx f_226_172 rfl).trans ((e_ne f_226_173 rfl).trans (b_congr (fun h5 => (e_nx f_226_176 rfl).trans ((e_nx (q := (_, _, .int 2 :: _, _)) f_226_178 rfl).trans ((e_nx f_226_179 rfl).trans ((e_nx f_226_180 rfl).trans ((e_ne f_226_181 rfl).trans (b_congr (fun h6 => (e_nx (q := (_, _, .int 0 :: _, _)) f_226_184 rfl).trans ((e_nx f_226_185 rfl).trans (e_rt f_226_192 rfl))) (fun h6 => (e_nx (q := (_, _, .int 1 :: _, _)) f_226_188 rfl).trans ((e_nx f_226_189 rfl).trans ((e_nx f_226_191 rfl).trans (e_rt f_226_192 rfl)))))))))) (fun h5 => (e_nx (q := (_, _, .int 1 :: _, _)) f_226_188 rfl).trans ((e_nx f_226_189 rfl).trans ((e_nx f_226_191 rfl).trans (e_rt f_226_192 rfl)))))))) (fun h4 => (e_nx f_226_147 rfl).trans ((e_gd f_226_148 rfl).trans (g_congr (Iff.rfl) (fun h7 => (e_nx f_226_151 rfl).trans ((e_ia (L := [.ref l0, .int x1, .int x2, .int x3, .int x4, w5]) (r := []) (μ := μ) f_226_153).trans (m_congr fun v8 => (e_nx f_226_154 rfl).trans ((e_gk f_226_155 (h7) rfl).trans ((e_nx f_226_158 rfl).trans ((e_ia (L := [.ref l0, .int x1, .int x2, .int x3, .int x4, w5]) (r := [.int v8]) (μ := μ) f_226_160).trans (m_congr fun v9 => (e_ne f_226_161 rfl).trans (b_congr (fun h10 => (e_nx (q := (_, [.ref l0, .int x1, .int x2, .int x3, .int (x4 + 1), w5], _, _)) f_226_164 rfl).trans (e_nx f_226_167 rfl)) (fun h10 => (e_nx f_226_170 rfl).trans ((e_nx f_226_172 rfl).trans ((e_ne f_226_173 rfl).trans (b_congr (fun h11 => (e_nx f_226_176 rfl).trans ((e_nx (q := (_, _, .int 2 :: _, _)) f_226_178 rfl).trans ((e_nx f_226_179 rfl).trans ((e_nx f_226_180 rfl).trans ((e_ne f_226_181 rfl).trans (b_congr (fun h12 => (e_nx (q := (_, _, .int 0 :: _, _)) f_226_184 rfl).trans ((e_nx f_226_185 rfl).trans (e_rt f_226_192 rfl))) (fun h12 => (e_nx (q := (_, _, .int 1 :: _, _)) f_226_188 rfl).trans ((e_nx f_226_189 rfl).trans ((e_nx f_226_191 rfl).trans (e_rt f_226_192 rfl)))))))))) (fun h11 => (e_nx (q := (_, _, .int 1 :: _, _)) f_226_188 rfl).trans ((e_nx f_226_189 rfl).trans ((e_nx f_226_191 rfl).trans (e_rt f_226_192 rfl))))))))))))))))))))))))))))
theorem pg_227 (pc : Nat) : fe0 227 pc = lk prg_227 pc := rfl
theorem f_227_0 : fe0 227 0 = some (.aload_n 0, 1, 0, 0, 0, 0, 0) := (pg_227 0).trans rfl
theorem f_227_1 : fe0 227 1 = some (.iconst 1, 1, 0, 0, 0, 0, 0) := (pg_227 1).trans rfl
theorem f_227_2 : fe0 227 2 = some (.putfield 355, 3, 9, 3, 2, 0, 5027) := (pg_227 2).trans rfl
theorem f_227_5 : fe0 227 5 = some (.aload_n 0, 1, 0, 0, 0, 0, 0) := (pg_227 5).trans rfl
theorem f_227_6 : fe0 227 6 = some (.aload_n 0, 1, 0, 0, 0, 0, 0) := (pg_227 6).trans rfl
theorem f_227_7 : fe0 227 7 = some (.getfield 7, 3, 9, 0, 1, 0, 5024) := (pg_227 7).trans rfl
theorem f_227_10 : fe0 227 10 = some (.aload_n 0, 1, 0, 0, 0, 0, 0) := (pg_227 10).trans rfl
theorem f_227_11 : fe0 227 11 = some (.getfield 13, 3, 9, 1, 1, 0, 5025) := (pg_227 11).trans rfl
theorem f_227_14 : fe0 227 14 = some (.invokevirtual 359, 3, 225, 2, 0, 9, 7047) := (pg_227 14).trans rfl
theorem f_227_17 : fe0 227 17 = some (.aload_n 0, 1, 0, 0, 0, 0, 0) := (pg_227 17).trans rfl
theorem f_227_18 : fe0 227 18 = some (.getfield 7, 3, 9, 0, 1, 0, 5024) := (pg_227 18).trans rfl
theorem f_227_21 : fe0 227 21 = some (.iconst 0, 1, 0, 0, 0, 0, 0) := (pg_227 21).trans rfl
theorem f_227_22 : fe0 227 22 = some (.iaload, 1, 0, 0, 0, 0, 0) := (pg_227 22).trans rfl
theorem f_227_23 : fe0 227 23 = some (.ireturn, 1, 0, 0, 0, 0, 0) := (pg_227 23).trans rfl
theorem q_227_0 (d : Nat) (l0 : Nat) (μ : aMem) : Rn (d + 1) 227 (0, [.ref l0], [], μ) = if (mS μ l0).1 = 9 then (if (mS μ l0).1 = 9 ∧ l0 < 999999 then ((cV d 225 [.ref l0, .ref (mR μ l0 0), .ref (mR μ l0 1)] (setF μ l0 3 1)).bind fun p2 => if (mS p2 l0).1 = 9 then ((rdI p2 (mR p2 l0 0) 0).bind fun v5 => some (some (.int v5), p2)) else none) else none) else none :=
  (e_nx f_227_0 rfl).trans ((e_nx (q := (_, _, .int 1 :: _, _)) f_227_1 rfl).trans ((e_gd (L := [.ref l0]) (st := [.int 1, .ref l0]) (μ := μ) f_227_2 rfl).trans (g_congr (pb_iff rfl (by decide)) (fun h1 => (e_nx f_227_5 rfl).trans ((e_nx f_227_6 rfl).trans ((e_gk f_227_7 (h1) rfl).trans ((e_nx f_227_10 rfl).trans ((e_gk f_227_11 (h1) rfl).trans ((e_gV (L := [.ref l0]) (st := [.ref (mR μ l0 1), .ref (mR μ l0 0), .ref l0]) (μ := setF μ l0 3 1) (L' := [.ref l0]) (st' := []) f_227_14 rfl rfl).trans (g_congr (v_c2 rfl (Nat.le_of_ble_eq_true rfl)) (fun h3 => m_congr fun p2 => (e_nx f_227_17 rfl).trans ((e_gd f_227_18 rfl).trans (g_congr (Iff.rfl) (fun h4 => (e_nx (q := (_, _, .int 0 :: _, _)) f_227_21 rfl).trans ((e_ia (L := [.ref l0]) (r := []) (μ := p2) f_227_22).trans (m_congr fun v5 => e_rt f_227_23 rfl))))))))))))))))
theorem pg_228 (pc : Nat) : fe0 228 pc = lk prg_228 pc := rfl
theorem f_228_0 : fe0 228 0 = some (.aload_n 0, 1, 0, 0, 0, 0, 0) := (pg_228 0).trans rfl
theorem f_228_1 : fe0 228 1 = some (.getfield 355, 3, 9, 3, 0, 0, 5027) := (pg_228 1).trans rfl
theorem f_228_4 : fe0 228 4 = some (.ifCond .ne 7, 3, 0, 0, 0, 0, 0) := (pg_228 4).trans rfl
theorem f_228_7 : fe0 228 7 = some (.ldc_w 349, 3, 0, 0, 3294967294, 0, 7037) := (pg_228 7).trans rfl
theorem f_228_10 : fe0 228 10 = some (.ireturn, 1, 0, 0, 0, 0, 0) := (pg_228 10).trans rfl
theorem f_228_11 : fe0 228 11 = some (.aload_n 0, 1, 0, 0, 0, 0, 0) := (pg_228 11).trans rfl
theorem f_228_12 : fe0 228 12 = some (.aload_n 0, 1, 0, 0, 0, 0, 0) := (pg_228 12).trans rfl
theorem f_228_13 : fe0 228 13 = some (.getfield 13, 3, 9, 1, 1, 0, 5025) := (pg_228 13).trans rfl
theorem f_228_16 : fe0 228 16 = some (.aload_n 0, 1, 0, 0, 0, 0, 0) := (pg_228 16).trans rfl
theorem f_228_17 : fe0 228 17 = some (.getfield 7, 3, 9, 0, 1, 0, 5024) := (pg_228 17).trans rfl
theorem f_228_20 : fe0 228 20 = some (.invokevirtual 359, 3, 225, 2, 0, 9, 7047) := (pg_228 20).trans rfl
theorem f_228_23 : fe0 228 23 = some (.aload_n 0, 1, 0, 0, 0, 0, 0) := (pg_228 23).trans rfl
theorem f_228_24 : fe0 228 24 = some (.getfield 7, 3, 9, 0, 1, 0, 5024) := (pg_228 24).trans rfl
theorem f_228_27 : fe0 228 27 = some (.iconst 0, 1, 0, 0, 0, 0, 0) := (pg_228 27).trans rfl
theorem f_228_28 : fe0 228 28 = some (.iaload, 1, 0, 0, 0, 0, 0) := (pg_228 28).trans rfl
theorem f_228_29 : fe0 228 29 = some (.ireturn, 1, 0, 0, 0, 0, 0) := (pg_228 29).trans rfl
theorem q_228_0 (d : Nat) (l0 : Nat) (μ : aMem) : Rn (d + 1) 228 (0, [.ref l0], [], μ) = if (mS μ l0).1 = 9 then (if (mF μ l0 3) = 0 then (some (some (.int (-1000000002)), μ)) else (if (mS μ l0).1 = 9 ∧ l0 < 999999 then ((cV d 225 [.ref l0, .ref (mR μ l0 1), .ref (mR μ l0 0)] μ).bind fun p3 => if (mS p3 l0).1 = 9 then ((rdI p3 (mR p3 l0 0) 0).bind fun v6 => some (some (.int v6), p3)) else none) else none)) else none :=
  (e_nx f_228_0 rfl).trans ((e_gd f_228_1 rfl).trans (g_congr (Iff.rfl) (fun h1 => (e_ne f_228_4 rfl).trans (b_congr (fun h2 => (e_nx (q := (_, _, .int (-1000000002) :: _, _)) f_228_7 rfl).trans (e_rt f_228_10 rfl)) (fun h2 => (e_nx f_228_11 rfl).trans ((e_nx f_228_12 rfl).trans ((e_gk f_228_13 (h1) rfl).trans ((e_nx f_228_16 rfl).trans ((e_gk f_228_17 (h1) rfl).trans ((e_gV (L := [.ref l0]) (st := [.ref (mR μ l0 0), .ref (mR μ l0 1), .ref l0]) (μ := μ) (L' := [.ref l0]) (st' := []) f_228_20 rfl rfl).trans (g_congr (v_c2 rfl (Nat.le_of_ble_eq_true rfl)) (fun h4 => m_congr fun p3 => (e_nx f_228_23 rfl).trans ((e_gd f_228_24 rfl).trans (g_congr (Iff.rfl) (fun h5 => (e_nx (q := (_, _, .int 0 :: _, _)) f_228_27 rfl).trans ((e_ia (L := [.ref l0]) (r := []) (μ := p3) f_228_28).trans (m_congr fun v6 => e_rt f_228_29 rfl)))))))))))))))))
theorem pg_229 (pc : Nat) : fe0 229 pc = lk prg_229 pc := rfl
theorem f_229_0 : fe0 229 0 = some (.iload_n 1, 1, 0, 0, 0, 0, 0) := (pg_229 0).trans rfl
theorem f_229_1 : fe0 229 1 = some (.tableswitch 89 0 6 #[43, 50, 57, 65, 72, 77, 82], 43, 0, 0, 0, 0, 0) := (pg_229 1).trans rfl
theorem f_229_44 : fe0 229 44 = some (.aload_n 0, 1, 0, 0, 0, 0, 0) := (pg_229 44).trans rfl
theorem f_229_45 : fe0 229 45 = some (.getfield 7, 3, 9, 0, 1, 0, 5024) := (pg_229 45).trans rfl
theorem f_229_48 : fe0 229 48 = some (.iconst 0, 1, 0, 0, 0, 0, 0) := (pg_229 48).trans rfl
theorem f_229_49 : fe0 229 49 = some (.iaload, 1, 0, 0, 0, 0, 0) := (pg_229 49).trans rfl
theorem f_229_50 : fe0 229 50 = some (.ireturn, 1, 0, 0, 0, 0, 0) := (pg_229 50).trans rfl
theorem f_229_51 : fe0 229 51 = some (.aload_n 0, 1, 0, 0, 0, 0, 0) := (pg_229 51).trans rfl
theorem f_229_52 : fe0 229 52 = some (.getfield 7, 3, 9, 0, 1, 0, 5024) := (pg_229 52).trans rfl
theorem f_229_55 : fe0 229 55 = some (.iconst 1, 1, 0, 0, 0, 0, 0) := (pg_229 55).trans rfl
theorem f_229_56 : fe0 229 56 = some (.iaload, 1, 0, 0, 0, 0, 0) := (pg_229 56).trans rfl
theorem f_229_57 : fe0 229 57 = some (.ireturn, 1, 0, 0, 0, 0, 0) := (pg_229 57).trans rfl
theorem f_229_58 : fe0 229 58 = some (.aload_n 0, 1, 0, 0, 0, 0, 0) := (pg_229 58).trans rfl
theorem f_229_59 : fe0 229 59 = some (.invokevirtual 185, 3, 172, 0, 0, 9, 6067) := (pg_229 59).trans rfl
theorem f_229_62 : fe0 229 62 = some (.invokestatic 125, 3, 144, 1, 2, 0, 5203) := (pg_229 62).trans rfl
theorem f_229_65 : fe0 229 65 = some (.ireturn, 1, 0, 0, 0, 0, 0) := (pg_229 65).trans rfl
theorem f_229_66 : fe0 229 66 = some (.aload_n 0, 1, 0, 0, 0, 0, 0) := (pg_229 66).trans rfl
theorem f_229_67 : fe0 229 67 = some (.getfield 7, 3, 9, 0, 1, 0, 5024) := (pg_229 67).trans rfl
theorem f_229_70 : fe0 229 70 = some (.iconst 2, 1, 0, 0, 0, 0, 0) := (pg_229 70).trans rfl
theorem f_229_71 : fe0 229 71 = some (.iaload, 1, 0, 0, 0, 0, 0) := (pg_229 71).trans rfl
theorem f_229_72 : fe0 229 72 = some (.ireturn, 1, 0, 0, 0, 0, 0) := (pg_229 72).trans rfl
theorem f_229_73 : fe0 229 73 = some (.aload_n 0, 1, 0, 0, 0, 0, 0) := (pg_229 73).trans rfl
theorem f_229_74 : fe0 229 74 = some (.getfield 350, 3, 9, 36, 0, 0, 5060) := (pg_229 74).trans rfl
theorem f_229_77 : fe0 229 77 = some (.ireturn, 1, 0, 0, 0, 0, 0) := (pg_229 77).trans rfl
theorem f_229_78 : fe0 229 78 = some (.aload_n 0, 1, 0, 0, 0, 0, 0) := (pg_229 78).trans rfl
theorem f_229_79 : fe0 229 79 = some (.getfield 234, 3, 9, 20, 0, 0, 5044) := (pg_229 79).trans rfl
theorem f_229_82 : fe0 229 82 = some (.ireturn, 1, 0, 0, 0, 0, 0) := (pg_229 82).trans rfl
theorem f_229_83 : fe0 229 83 = some (.aload_n 0, 1, 0, 0, 0, 0, 0) := (pg_229 83).trans rfl
theorem f_229_84 : fe0 229 84 = some (.getfield 7, 3, 9, 0, 1, 0, 5024) := (pg_229 84).trans rfl
theorem f_229_87 : fe0 229 87 = some (.iconst 3, 1, 0, 0, 0, 0, 0) := (pg_229 87).trans rfl
theorem f_229_88 : fe0 229 88 = some (.iaload, 1, 0, 0, 0, 0, 0) := (pg_229 88).trans rfl
theorem f_229_89 : fe0 229 89 = some (.ireturn, 1, 0, 0, 0, 0, 0) := (pg_229 89).trans rfl
theorem f_229_90 : fe0 229 90 = some (.ldc 99, 2, 0, 0, 3294967295, 0, 5152) := (pg_229 90).trans rfl
theorem f_229_92 : fe0 229 92 = some (.ireturn, 1, 0, 0, 0, 0, 0) := (pg_229 92).trans rfl
theorem q_229_0 (d : Nat) (l0 : Nat) (x1 : Int32) (μ : aMem) : Rn (d + 1) 229 (0, [.ref l0, .int x1], [], μ) = if x1 = 0 then (if (mS μ l0).1 = 9 then ((rdI μ (mR μ l0 0) 0).bind fun v2 => some (some (.int v2), μ)) else none) else (if x1 = 1 then (if (mS μ l0).1 = 9 then ((rdI μ (mR μ l0 0) 1).bind fun v4 => some (some (.int v4), μ)) else none) else (if x1 = 2 then (if (mS μ l0).1 = 9 ∧ l0 < 999999 then ((cI d 172 [.ref l0] μ).bind fun p5 => (cI d 144 [.int p5.1] p5.2).bind fun p7 => some (some (.int p7.1), p7.2)) else none) else (if x1 = 3 then (if (mS μ l0).1 = 9 then ((rdI μ (mR μ l0 0) 2).bind fun v9 => some (some (.int v9), μ)) else none) else (if x1 = 4 then (if (mS μ l0).1 = 9 then (some (some (.int (mF μ l0 36)), μ)) else none) else (if x1 = 5 then (if (mS μ l0).1 = 9 then (some (some (.int (mF μ l0 20)), μ)) else none) else (if x1 = 6 then (if (mS μ l0).1 = 9 then ((rdI μ (mR μ l0 0) 3).bind fun v13 => some (some (.int v13), μ)) else none) else (some (some (.int (-1000000001)), μ)))))))) :=
  (e_nx f_229_0 rfl).trans ((e_tab f_229_1 (ts := [44, 51, 58, 66, 73, 78, 83]) (df := 90) (lo := 0) rfl rfl rfl (by decide) (by decide)).trans (b_congr (fun _ => (e_nx f_229_44 rfl).trans ((e_gd f_229_45 rfl).trans (g_congr (Iff.rfl) (fun h1 => (e_nx (q := (_, _, .int 0 :: _, _)) f_229_48 rfl).trans ((e_ia (L := [.ref l0, .int x1]) (r := []) (μ := μ) f_229_49).trans (m_congr fun v2 => e_rt f_229_50 rfl)))))) (fun _ => b_congr (fun _ => (e_nx f_229_51 rfl).trans ((e_gd f_229_52 rfl).trans (g_congr (Iff.rfl) (fun h3 => (e_nx (q := (_, _, .int 1 :: _, _)) f_229_55 rfl).trans ((e_ia (L := [.ref l0, .int x1]) (r := []) (μ := μ) f_229_56).trans (m_congr fun v4 => e_rt f_229_57 rfl)))))) (fun _ => b_congr (fun _ => (e_nx f_229_58 rfl).trans ((e_gI (L := [.ref l0, .int x1]) (st := [.ref l0]) (μ := μ) (L' := [.ref l0, .int x1]) (st' := []) f_229_59 rfl rfl).trans (g_congr (v_c2 rfl (Nat.le_of_ble_eq_true rfl)) (fun h6 => m_congr fun p5 => (e_cI (L := [.ref l0, .int x1]) (st := [.int p5.1]) (μ := p5.2) (L' := [.ref l0, .int x1]) (st' := []) f_229_62 rfl rfl).trans (m_congr fun p7 => e_rt f_229_65 rfl))))) (fun _ => b_congr (fun _ => (e_nx f_229_66 rfl).trans ((e_gd f_229_67 rfl).trans (g_congr (Iff.rfl) (fun h8 => (e_nx (q := (_, _, .int 2 :: _, _)) f_229_70 rfl).trans ((e_ia (L := [.ref l0, .int x1]) (r := []) (μ := μ) f_229_71).trans (m_congr fun v9 => e_rt f_229_72 rfl)))))) (fun _ => b_congr (fun _ => (e_nx f_229_73 rfl).trans ((e_gd f_229_74 rfl).trans (g_congr (Iff.rfl) (fun h10 => e_rt f_229_77 rfl)))) (fun _ => b_congr (fun _ => (e_nx f_229_78 rfl).trans ((e_gd f_229_79 rfl).trans (g_congr (Iff.rfl) (fun h11 => e_rt f_229_82 rfl)))) (fun _ => b_congr (fun _ => (e_nx f_229_83 rfl).trans ((e_gd f_229_84 rfl).trans (g_congr (Iff.rfl) (fun h12 => (e_nx (q := (_, _, .int 3 :: _, _)) f_229_87 rfl).trans ((e_ia (L := [.ref l0, .int x1]) (r := []) (μ := μ) f_229_88).trans (m_congr fun v13 => e_rt f_229_89 rfl)))))) (fun _ => (e_nx (q := (_, _, .int (-1000000001) :: _, _)) f_229_90 rfl).trans (e_rt f_229_92 rfl))))))))))
