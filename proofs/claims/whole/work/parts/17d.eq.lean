theorem pg_111 (pc : Nat) : fe0 111 pc = lk prg_111 pc := rfl
theorem f_111_0 : fe0 111 0 = some (.aload_n 0, 1, 0, 0, 0, 0, 0) := (pg_111 0).trans rfl
theorem f_111_1 : fe0 111 1 = some (.iload_n 1, 1, 0, 0, 0, 0, 0) := (pg_111 1).trans rfl
theorem f_111_2 : fe0 111 2 = some (.invokevirtual 247, 3, 126, 1, 0, 8, 4117) := (pg_111 2).trans rfl
theorem f_111_5 : fe0 111 5 = some (.astore_n 3, 1, 0, 0, 0, 0, 0) := (pg_111 5).trans rfl
theorem f_111_6 : fe0 111 6 = some (.aload_n 3, 1, 0, 0, 0, 0, 0) := (pg_111 6).trans rfl
theorem f_111_7 : fe0 111 7 = some (.ifnull 12, 3, 0, 0, 0, 0, 0) := (pg_111 7).trans rfl
theorem f_111_10 : fe0 111 10 = some (.iload_n 2, 1, 0, 0, 0, 0, 0) := (pg_111 10).trans rfl
theorem f_111_11 : fe0 111 11 = some (.iconst 0, 1, 0, 0, 0, 0, 0) := (pg_111 11).trans rfl
theorem f_111_12 : fe0 111 12 = some (.iconst 3, 1, 0, 0, 0, 0, 0) := (pg_111 12).trans rfl
theorem f_111_13 : fe0 111 13 = some (.invokestatic 72, 3, 122, 3, 2, 0, 2057) := (pg_111 13).trans rfl
theorem f_111_16 : fe0 111 16 = some (.ifCond .ne 6, 3, 0, 0, 0, 0, 0) := (pg_111 16).trans rfl
theorem f_111_19 : fe0 111 19 = some (.ldc 79, 2, 0, 0, 3294967295, 0, 2063) := (pg_111 19).trans rfl
theorem f_111_21 : fe0 111 21 = some (.ireturn, 1, 0, 0, 0, 0, 0) := (pg_111 21).trans rfl
theorem f_111_22 : fe0 111 22 = some (.aload_n 3, 1, 0, 0, 0, 0, 0) := (pg_111 22).trans rfl
theorem f_111_23 : fe0 111 23 = some (.getfield 256, 3, 5, 1, 0, 0, 1216) := (pg_111 23).trans rfl
theorem f_111_26 : fe0 111 26 = some (.iconst (-1), 1, 0, 0, 0, 0, 0) := (pg_111 26).trans rfl
theorem f_111_27 : fe0 111 27 = some (.if_icmp .ne 7, 3, 0, 0, 0, 0, 0) := (pg_111 27).trans rfl
theorem f_111_30 : fe0 111 30 = some (.ldc_w 257, 3, 0, 0, 3294967285, 0, 4131) := (pg_111 30).trans rfl
theorem f_111_33 : fe0 111 33 = some (.ireturn, 1, 0, 0, 0, 0, 0) := (pg_111 33).trans rfl
theorem f_111_34 : fe0 111 34 = some (.aload_n 3, 1, 0, 0, 0, 0, 0) := (pg_111 34).trans rfl
theorem f_111_35 : fe0 111 35 = some (.invokevirtual 279, 3, 72, 0, 0, 5, 4154) := (pg_111 35).trans rfl
theorem f_111_38 : fe0 111 38 = some (.ifCond .ne 6, 3, 0, 0, 0, 0, 0) := (pg_111 38).trans rfl
theorem f_111_41 : fe0 111 41 = some (.ldc 246, 2, 0, 0, 3294967291, 0, 4112) := (pg_111 41).trans rfl
theorem f_111_43 : fe0 111 43 = some (.ireturn, 1, 0, 0, 0, 0, 0) := (pg_111 43).trans rfl
theorem f_111_44 : fe0 111 44 = some (.iload_n 2, 1, 0, 0, 0, 0, 0) := (pg_111 44).trans rfl
theorem f_111_45 : fe0 111 45 = some (.tableswitch 42 0 2 #[27, 32, 37], 27, 0, 0, 0, 0, 0) := (pg_111 45).trans rfl
theorem f_111_72 : fe0 111 72 = some (.aload_n 3, 1, 0, 0, 0, 0, 0) := (pg_111 72).trans rfl
theorem f_111_73 : fe0 111 73 = some (.invokevirtual 282, 3, 73, 0, 0, 5, 4159) := (pg_111 73).trans rfl
theorem f_111_76 : fe0 111 76 = some (.ireturn, 1, 0, 0, 0, 0, 0) := (pg_111 76).trans rfl
theorem f_111_77 : fe0 111 77 = some (.aload_n 3, 1, 0, 0, 0, 0, 0) := (pg_111 77).trans rfl
theorem f_111_78 : fe0 111 78 = some (.invokevirtual 285, 3, 74, 0, 0, 5, 4163) := (pg_111 78).trans rfl
theorem f_111_81 : fe0 111 81 = some (.ireturn, 1, 0, 0, 0, 0, 0) := (pg_111 81).trans rfl
theorem f_111_82 : fe0 111 82 = some (.aload_n 3, 1, 0, 0, 0, 0, 0) := (pg_111 82).trans rfl
theorem f_111_83 : fe0 111 83 = some (.invokevirtual 288, 3, 75, 0, 0, 5, 4167) := (pg_111 83).trans rfl
theorem f_111_86 : fe0 111 86 = some (.ireturn, 1, 0, 0, 0, 0, 0) := (pg_111 86).trans rfl
theorem f_111_87 : fe0 111 87 = some (.aload_n 3, 1, 0, 0, 0, 0, 0) := (pg_111 87).trans rfl
theorem f_111_88 : fe0 111 88 = some (.invokevirtual 291, 3, 77, 0, 0, 5, 4175) := (pg_111 88).trans rfl
theorem f_111_91 : fe0 111 91 = some (.ireturn, 1, 0, 0, 0, 0, 0) := (pg_111 91).trans rfl
theorem q_111_0 (d : Nat) (l0 : Nat) (x1 : Int32) (x2 : Int32) (μ : aMem) : Rn (d + 1) 111 (0, [.ref l0, .int x1, .int x2, un], [], μ) = if (mS μ l0).1 = 8 ∧ l0 < 999999 then ((cR d 126 [.ref l0, .int x1] μ).bind fun p1 => if p1.1 ≤ 999999 then (if p1.1 = 999999 then (some (some (.int (-1000000001)), p1.2)) else ((cI d 122 [.int x2, .int 0, .int 3] p1.2).bind fun p5 => if p5.1 = 0 then (some (some (.int (-1000000001)), p5.2)) else (if (mS p5.2 p1.1).1 = 5 then (if (mF p5.2 p1.1 1) = (-1) then (some (some (.int (-1000000011)), p5.2)) else (if (mS p5.2 p1.1).1 = 5 ∧ p1.1 < 999999 then ((cI d 72 [.ref p1.1] p5.2).bind fun p9 => if p9.1 = 0 then (some (some (.int (-1000000005)), p9.2)) else (if x2 = 0 then (if (mS p9.2 p1.1).1 = 5 ∧ p1.1 < 999999 then ((cI d 73 [.ref p1.1] p9.2).bind fun p12 => some (some (.int p12.1), p12.2)) else none) else (if x2 = 1 then (if (mS p9.2 p1.1).1 = 5 ∧ p1.1 < 999999 then ((cI d 74 [.ref p1.1] p9.2).bind fun p14 => some (some (.int p14.1), p14.2)) else none) else (if x2 = 2 then (if (mS p9.2 p1.1).1 = 5 ∧ p1.1 < 999999 then ((cI d 75 [.ref p1.1] p9.2).bind fun p16 => some (some (.int p16.1), p16.2)) else none) else (if (mS p9.2 p1.1).1 = 5 ∧ p1.1 < 999999 then ((cI d 77 [.ref p1.1] p9.2).bind fun p18 => some (some (.int p18.1), p18.2)) else none))))) else none)) else none))) else none) else none :=
  (e_nx f_111_0 rfl).trans ((e_nx f_111_1 rfl).trans ((e_gR (L := [.ref l0, .int x1, .int x2, un]) (st := [.int x1, .ref l0]) (μ := μ) (L' := [.ref l0, .int x1, .int x2, un]) (st' := []) f_111_2 rfl rfl).trans (g_congr (v_c2 rfl (Nat.le_of_ble_eq_true rfl)) (fun h2 => m_congr fun p1 => (e_nx (q := (_, [.ref l0, .int x1, .int x2, .ref p1.1], _, _)) f_111_5 rfl).trans ((e_nx f_111_6 rfl).trans ((e_gb f_111_7 rfl).trans (g_congr Iff.rfl (fun h4 => b_congr (fun h3 => (e_nx (q := (_, _, .int (-1000000001) :: _, _)) f_111_19 rfl).trans (e_rt f_111_21 rfl)) (fun h3 => (e_nx f_111_10 rfl).trans ((e_nx (q := (_, _, .int 0 :: _, _)) f_111_11 rfl).trans ((e_nx (q := (_, _, .int 3 :: _, _)) f_111_12 rfl).trans ((e_cI (L := [.ref l0, .int x1, .int x2, .ref p1.1]) (st := [.int 3, .int 0, .int x2]) (μ := p1.2) (L' := [.ref l0, .int x1, .int x2, .ref p1.1]) (st' := []) f_111_13 rfl rfl).trans (m_congr fun p5 => (e_ne f_111_16 rfl).trans (b_congr (fun h6 => (e_nx (q := (_, _, .int (-1000000001) :: _, _)) f_111_19 rfl).trans (e_rt f_111_21 rfl)) (fun h6 => (e_nx f_111_22 rfl).trans ((e_gd f_111_23 rfl).trans (g_congr (Iff.rfl) (fun h7 => (e_nx (q := (_, _, .int (-1) :: _, _)) f_111_26 rfl).trans ((e_ne f_111_27 rfl).trans (b_congr (fun h8 => (e_nx (q := (_, _, .int (-1000000011) :: _, _)) f_111_30 rfl).trans (e_rt f_111_33 rfl)) (fun h8 => (e_nx f_111_34 rfl).trans ((e_gI (L := [.ref l0, .int x1, .int x2, .ref p1.1]) (st := [.ref p1.1]) (μ := p5.2) (L' := [.ref l0, .int x1, .int x2, .ref p1.1]) (st' := []) f_111_35 rfl rfl).trans (g_congr (v_c2 rfl (Nat.le_of_ble_eq_true rfl)) (fun h10 => m_congr fun p9 => (e_ne f_111_38 rfl).trans (b_congr (fun h11 => (e_nx (q := (_, _, .int (-1000000005) :: _, _)) f_111_41 rfl).trans (e_rt f_111_43 rfl)) (fun h11 => (e_nx f_111_44 rfl).trans ((e_tab f_111_45 (ts := [72, 77, 82]) (df := 87) (lo := 0) rfl rfl rfl (by decide) (by decide)).trans (b_congr (fun _ => (e_nx f_111_72 rfl).trans ((e_gI (L := [.ref l0, .int x1, .int x2, .ref p1.1]) (st := [.ref p1.1]) (μ := p9.2) (L' := [.ref l0, .int x1, .int x2, .ref p1.1]) (st' := []) f_111_73 rfl rfl).trans (g_congr (v_c2 rfl (Nat.le_of_ble_eq_true rfl)) (fun h13 => m_congr fun p12 => e_rt f_111_76 rfl)))) (fun _ => b_congr (fun _ => (e_nx f_111_77 rfl).trans ((e_gI (L := [.ref l0, .int x1, .int x2, .ref p1.1]) (st := [.ref p1.1]) (μ := p9.2) (L' := [.ref l0, .int x1, .int x2, .ref p1.1]) (st' := []) f_111_78 rfl rfl).trans (g_congr (v_c2 rfl (Nat.le_of_ble_eq_true rfl)) (fun h15 => m_congr fun p14 => e_rt f_111_81 rfl)))) (fun _ => b_congr (fun _ => (e_nx f_111_82 rfl).trans ((e_gI (L := [.ref l0, .int x1, .int x2, .ref p1.1]) (st := [.ref p1.1]) (μ := p9.2) (L' := [.ref l0, .int x1, .int x2, .ref p1.1]) (st' := []) f_111_83 rfl rfl).trans (g_congr (v_c2 rfl (Nat.le_of_ble_eq_true rfl)) (fun h17 => m_congr fun p16 => e_rt f_111_86 rfl)))) (fun _ => (e_nx f_111_87 rfl).trans ((e_gI (L := [.ref l0, .int x1, .int x2, .ref p1.1]) (st := [.ref p1.1]) (μ := p9.2) (L' := [.ref l0, .int x1, .int x2, .ref p1.1]) (st' := []) f_111_88 rfl rfl).trans (g_congr (v_c2 rfl (Nat.le_of_ble_eq_true rfl)) (fun h19 => m_congr fun p18 => e_rt f_111_91 rfl))))))))))))))))))))))))))))))))))
theorem pg_112 (pc : Nat) : fe0 112 pc = lk prg_112 pc := rfl
theorem f_112_0 : fe0 112 0 = some (.aload_n 0, 1, 0, 0, 0, 0, 0) := (pg_112 0).trans rfl
theorem f_112_1 : fe0 112 1 = some (.iload_n 1, 1, 0, 0, 0, 0, 0) := (pg_112 1).trans rfl
theorem f_112_2 : fe0 112 2 = some (.invokevirtual 247, 3, 126, 1, 0, 8, 4117) := (pg_112 2).trans rfl
theorem f_112_5 : fe0 112 5 = some (.astore 6, 2, 0, 0, 0, 0, 0) := (pg_112 5).trans rfl
theorem f_112_7 : fe0 112 7 = some (.aload_n 0, 1, 0, 0, 0, 0, 0) := (pg_112 7).trans rfl
theorem f_112_8 : fe0 112 8 = some (.iload_n 3, 1, 0, 0, 0, 0, 0) := (pg_112 8).trans rfl
theorem f_112_9 : fe0 112 9 = some (.invokevirtual 247, 3, 126, 1, 0, 8, 4117) := (pg_112 9).trans rfl
theorem f_112_12 : fe0 112 12 = some (.astore 7, 2, 0, 0, 0, 0, 0) := (pg_112 12).trans rfl
theorem f_112_14 : fe0 112 14 = some (.aload 6, 2, 0, 0, 0, 0, 0) := (pg_112 14).trans rfl
theorem f_112_16 : fe0 112 16 = some (.ifnull 8, 3, 0, 0, 0, 0, 0) := (pg_112 16).trans rfl
theorem f_112_19 : fe0 112 19 = some (.aload 7, 2, 0, 0, 0, 0, 0) := (pg_112 19).trans rfl
theorem f_112_21 : fe0 112 21 = some (.ifnonnull 6, 3, 0, 0, 0, 0, 0) := (pg_112 21).trans rfl
theorem f_112_24 : fe0 112 24 = some (.ldc 79, 2, 0, 0, 3294967295, 0, 2063) := (pg_112 24).trans rfl
theorem f_112_26 : fe0 112 26 = some (.ireturn, 1, 0, 0, 0, 0, 0) := (pg_112 26).trans rfl
theorem f_112_27 : fe0 112 27 = some (.aload 6, 2, 0, 0, 0, 0, 0) := (pg_112 27).trans rfl
theorem f_112_29 : fe0 112 29 = some (.getfield 256, 3, 5, 1, 0, 0, 1216) := (pg_112 29).trans rfl
theorem f_112_32 : fe0 112 32 = some (.iconst (-1), 1, 0, 0, 0, 0, 0) := (pg_112 32).trans rfl
theorem f_112_33 : fe0 112 33 = some (.if_icmp .eq 12, 3, 0, 0, 0, 0, 0) := (pg_112 33).trans rfl
theorem f_112_36 : fe0 112 36 = some (.aload 7, 2, 0, 0, 0, 0, 0) := (pg_112 36).trans rfl
theorem f_112_38 : fe0 112 38 = some (.getfield 256, 3, 5, 1, 0, 0, 1216) := (pg_112 38).trans rfl
theorem f_112_41 : fe0 112 41 = some (.iconst (-1), 1, 0, 0, 0, 0, 0) := (pg_112 41).trans rfl
theorem f_112_42 : fe0 112 42 = some (.if_icmp .ne 7, 3, 0, 0, 0, 0, 0) := (pg_112 42).trans rfl
theorem f_112_45 : fe0 112 45 = some (.ldc_w 257, 3, 0, 0, 3294967285, 0, 4131) := (pg_112 45).trans rfl
theorem f_112_48 : fe0 112 48 = some (.ireturn, 1, 0, 0, 0, 0, 0) := (pg_112 48).trans rfl
theorem f_112_49 : fe0 112 49 = some (.aload 6, 2, 0, 0, 0, 0, 0) := (pg_112 49).trans rfl
theorem f_112_51 : fe0 112 51 = some (.getfield 256, 3, 5, 1, 0, 0, 1216) := (pg_112 51).trans rfl
theorem f_112_54 : fe0 112 54 = some (.aload 7, 2, 0, 0, 0, 0, 0) := (pg_112 54).trans rfl
theorem f_112_56 : fe0 112 56 = some (.getfield 256, 3, 5, 1, 0, 0, 1216) := (pg_112 56).trans rfl
theorem f_112_59 : fe0 112 59 = some (.if_icmp .eq 6, 3, 0, 0, 0, 0, 0) := (pg_112 59).trans rfl
theorem f_112_62 : fe0 112 62 = some (.ldc 129, 2, 0, 0, 3294967284, 0, 2173) := (pg_112 62).trans rfl
theorem f_112_64 : fe0 112 64 = some (.ireturn, 1, 0, 0, 0, 0, 0) := (pg_112 64).trans rfl
theorem f_112_65 : fe0 112 65 = some (.aload 6, 2, 0, 0, 0, 0, 0) := (pg_112 65).trans rfl
theorem f_112_67 : fe0 112 67 = some (.iload_n 2, 1, 0, 0, 0, 0, 0) := (pg_112 67).trans rfl
theorem f_112_68 : fe0 112 68 = some (.iload 5, 2, 0, 0, 0, 0, 0) := (pg_112 68).trans rfl
theorem f_112_70 : fe0 112 70 = some (.invokevirtual 294, 3, 70, 2, 0, 5, 4188) := (pg_112 70).trans rfl
theorem f_112_73 : fe0 112 73 = some (.ifCond .eq 15, 3, 0, 0, 0, 0, 0) := (pg_112 73).trans rfl
theorem f_112_76 : fe0 112 76 = some (.aload 7, 2, 0, 0, 0, 0, 0) := (pg_112 76).trans rfl
theorem f_112_78 : fe0 112 78 = some (.iload 4, 2, 0, 0, 0, 0, 0) := (pg_112 78).trans rfl
theorem f_112_80 : fe0 112 80 = some (.iload 5, 2, 0, 0, 0, 0, 0) := (pg_112 80).trans rfl
theorem f_112_82 : fe0 112 82 = some (.invokevirtual 294, 3, 70, 2, 0, 5, 4188) := (pg_112 82).trans rfl
theorem f_112_85 : fe0 112 85 = some (.ifCond .ne 7, 3, 0, 0, 0, 0, 0) := (pg_112 85).trans rfl
theorem f_112_88 : fe0 112 88 = some (.ldc_w 261, 3, 0, 0, 3294967283, 0, 4136) := (pg_112 88).trans rfl
theorem f_112_91 : fe0 112 91 = some (.ireturn, 1, 0, 0, 0, 0, 0) := (pg_112 91).trans rfl
theorem f_112_92 : fe0 112 92 = some (.aload 6, 2, 0, 0, 0, 0, 0) := (pg_112 92).trans rfl
theorem f_112_94 : fe0 112 94 = some (.getfield 262, 3, 5, 0, 1, 0, 1214) := (pg_112 94).trans rfl
theorem f_112_97 : fe0 112 97 = some (.iload_n 2, 1, 0, 0, 0, 0, 0) := (pg_112 97).trans rfl
theorem f_112_98 : fe0 112 98 = some (.aload 7, 2, 0, 0, 0, 0, 0) := (pg_112 98).trans rfl
theorem f_112_100 : fe0 112 100 = some (.getfield 262, 3, 5, 0, 1, 0, 1214) := (pg_112 100).trans rfl
theorem f_112_103 : fe0 112 103 = some (.iload 4, 2, 0, 0, 0, 0, 0) := (pg_112 103).trans rfl
theorem f_112_105 : fe0 112 105 = some (.iload 5, 2, 0, 0, 0, 0, 0) := (pg_112 105).trans rfl
theorem f_112_107 : fe0 112 107 = some (.invokestatic 298, 3, 0, 0, 9, 0, 4192) := (pg_112 107).trans rfl
theorem f_112_110 : fe0 112 110 = some (.iload 5, 2, 0, 0, 0, 0, 0) := (pg_112 110).trans rfl
theorem f_112_112 : fe0 112 112 = some (.ireturn, 1, 0, 0, 0, 0, 0) := (pg_112 112).trans rfl
theorem q_112_0 (d : Nat) (l0 : Nat) (x1 : Int32) (x2 : Int32) (x3 : Int32) (x4 : Int32) (x5 : Int32) (μ : aMem) : Rn (d + 1) 112 (0, [.ref l0, .int x1, .int x2, .int x3, .int x4, .int x5, un, un], [], μ) = if (mS μ l0).1 = 8 ∧ l0 < 999999 then ((cR d 126 [.ref l0, .int x1] μ).bind fun p1 => if (mS p1.2 l0).1 = 8 ∧ l0 < 999999 then ((cR d 126 [.ref l0, .int x3] p1.2).bind fun p3 => if p1.1 ≤ 999999 then (if p1.1 = 999999 then (some (some (.int (-1000000001)), p3.2)) else (if p3.1 ≤ 999999 then (if p3.1 = 999999 then (some (some (.int (-1000000001)), p3.2)) else (if (mS p3.2 p1.1).1 = 5 then (if (mF p3.2 p1.1 1) = (-1) then (some (some (.int (-1000000011)), p3.2)) else (if (mS p3.2 p3.1).1 = 5 then (if (mF p3.2 p3.1 1) = (-1) then (some (some (.int (-1000000011)), p3.2)) else (if (mF p3.2 p1.1 1) = (mF p3.2 p3.1 1) then (if (mS p3.2 p1.1).1 = 5 ∧ p1.1 < 999999 then ((cI d 70 [.ref p1.1, .int x2, .int x5] p3.2).bind fun p14 => if p14.1 = 0 then (some (some (.int (-1000000013)), p14.2)) else (if (mS p14.2 p3.1).1 = 5 ∧ p3.1 < 999999 then ((cI d 70 [.ref p3.1, .int x4, .int x5] p14.2).bind fun p17 => if p17.1 = 0 then (some (some (.int (-1000000013)), p17.2)) else (if (mS p17.2 p1.1).1 = 5 then (if (mS p17.2 p3.1).1 = 5 then (if (mS p17.2 (mR p17.2 p1.1 0)).1 = 10 ∧ (mS p17.2 (mR p17.2 p3.1 0)).1 = 10 ∧ ¬ (x2 : Int32) < 0 ∧ ¬ (x4 : Int32) < 0 ∧ ¬ (x5 : Int32) < 0 ∧ ix x2 + ix x5 ≤ (mS p17.2 (mR p17.2 p1.1 0)).2 ∧ ix x4 + ix x5 ≤ (mS p17.2 (mR p17.2 p3.1 0)).2 then (some (some (.int x5), cpyF p17.2 (mR p17.2 p1.1 0) (mR p17.2 p3.1 0) (ix x2) (ix x4) (ix x5))) else none) else none) else none)) else none)) else none) else (some (some (.int (-1000000012)), p3.2)))) else none)) else none)) else none)) else none) else none) else none :=
  (e_nx f_112_0 rfl).trans ((e_nx f_112_1 rfl).trans ((e_gR (L := [.ref l0, .int x1, .int x2, .int x3, .int x4, .int x5, un, un]) (st := [.int x1, .ref l0]) (μ := μ) (L' := [.ref l0, .int x1, .int x2, .int x3, .int x4, .int x5, un, un]) (st' := []) f_112_2 rfl rfl).trans (g_congr (v_c2 rfl (Nat.le_of_ble_eq_true rfl)) (fun h2 => m_congr fun p1 => (e_nx (q := (_, [.ref l0, .int x1, .int x2, .int x3, .int x4, .int x5, .ref p1.1, un], _, _)) f_112_5 rfl).trans ((e_nx f_112_7 rfl).trans ((e_nx f_112_8 rfl).trans ((e_gR (L := [.ref l0, .int x1, .int x2, .int x3, .int x4, .int x5, .ref p1.1, un]) (st := [.int x3, .ref l0]) (μ := p1.2) (L' := [.ref l0, .int x1, .int x2, .int x3, .int x4, .int x5, .ref p1.1, un]) (st' := []) f_112_9 rfl rfl).trans (g_congr (v_c2 rfl (Nat.le_of_ble_eq_true rfl)) (fun h4 => m_congr fun p3 => (e_nx (q := (_, [.ref l0, .int x1, .int x2, .int x3, .int x4, .int x5, .ref p1.1, .ref p3.1], _, _)) f_112_12 rfl).trans ((e_nx f_112_14 rfl).trans ((e_gb f_112_16 rfl).trans (g_congr Iff.rfl (fun h6 => b_congr (fun h5 => (e_nx (q := (_, _, .int (-1000000001) :: _, _)) f_112_24 rfl).trans (e_rt f_112_26 rfl)) (fun h5 => (e_nx f_112_19 rfl).trans ((e_gb f_112_21 rfl).trans (g_congr Iff.rfl (fun h8 => b_congr (fun h7 => (e_nx (q := (_, _, .int (-1000000001) :: _, _)) f_112_24 rfl).trans (e_rt f_112_26 rfl)) (fun h7 => (e_nx f_112_27 rfl).trans ((e_gd f_112_29 rfl).trans (g_congr (Iff.rfl) (fun h9 => (e_nx (q := (_, _, .int (-1) :: _, _)) f_112_32 rfl).trans ((e_eq f_112_33 rfl).trans (b_congr (fun h10 => (e_nx (q := (_, _, .int (-1000000011) :: _, _)) f_112_45 rfl).trans (e_rt f_112_48 rfl)) (fun h10 => (e_nx f_112_36 rfl).trans ((e_gd f_112_38 rfl).trans (g_congr (Iff.rfl) (fun h11 => (e_nx (q := (_, _, .int (-1) :: _, _)) f_112_41 rfl).trans ((e_ne f_112_42 rfl).trans (b_congr (fun h12 => (e_nx (q := (_, _, .int (-1000000011) :: _, _)) f_112_45 rfl).trans (e_rt f_112_48 rfl)) (fun h12 => (e_nx f_112_49 rfl).trans ((e_gk f_112_51 (h9) rfl).trans ((e_nx f_112_54 rfl).trans ((e_gk f_112_56 (h11) rfl).trans ((e_eq f_112_59 rfl).trans (b_congr (fun h13 => (e_nx f_112_65 rfl).trans ((e_nx f_112_67 rfl).trans ((e_nx f_112_68 rfl).trans ((e_gI (L := [.ref l0, .int x1, .int x2, .int x3, .int x4, .int x5, .ref p1.1, .ref p3.1]) (st := [.int x5, .int x2, .ref p1.1]) (μ := p3.2) (L' := [.ref l0, .int x1, .int x2, .int x3, .int x4, .int x5, .ref p1.1, .ref p3.1]) (st' := []) f_112_70 rfl rfl).trans (g_congr (v_c2 rfl (Nat.le_of_ble_eq_true rfl)) (fun h15 => m_congr fun p14 => (e_eq f_112_73 rfl).trans (b_congr (fun h16 => (e_nx (q := (_, _, .int (-1000000013) :: _, _)) f_112_88 rfl).trans (e_rt f_112_91 rfl)) (fun h16 => (e_nx f_112_76 rfl).trans ((e_nx f_112_78 rfl).trans ((e_nx f_112_80 rfl).trans ((e_gI (L := [.ref l0, .int x1, .int x2, .int x3, .int x4, .int x5, .ref p1.1, .ref p3.1]) (st := [.int x5, .int x4, .ref p3.1]) (μ := p14.2) (L' := [.ref l0, .int x1, .int x2, .int x3, .int x4, .int x5, .ref p1.1, .ref p3.1]) (st' := []) f_112_82 rfl rfl).trans (g_congr (v_c2 rfl (Nat.le_of_ble_eq_true rfl)) (fun h18 => m_congr fun p17 => (e_ne f_112_85 rfl).trans (b_congr (fun h19 => (e_nx (q := (_, _, .int (-1000000013) :: _, _)) f_112_88 rfl).trans (e_rt f_112_91 rfl)) (fun h19 => (e_nx f_112_92 rfl).trans ((e_gd f_112_94 rfl).trans (g_congr (Iff.rfl) (fun h20 => (e_nx f_112_97 rfl).trans ((e_nx f_112_98 rfl).trans ((e_gd f_112_100 rfl).trans (g_congr (Iff.rfl) (fun h21 => (e_nx f_112_103 rfl).trans ((e_nx f_112_105 rfl).trans ((e_gd (L := [.ref l0, .int x1, .int x2, .int x3, .int x4, .int x5, .ref p1.1, .ref p3.1]) (st := [.int x5, .int x4, .ref (mR p17.2 p3.1 0), .int x2, .ref (mR p17.2 p1.1 0)]) (μ := p17.2) f_112_107 rfl).trans (g_congr (ac_iff (Nat.le_of_ble_eq_true rfl)) (fun h22 => (e_nx f_112_110 rfl).trans (e_rt f_112_112 rfl))))))))))))))))))))))))))) (fun h13 => (e_nx (q := (_, _, .int (-1000000012) :: _, _)) f_112_62 rfl).trans (e_rt f_112_64 rfl)))))))))))))))))))))))))))))))))))))
theorem pg_113 (pc : Nat) : fe0 113 pc = lk prg_113 pc := rfl
theorem f_113_0 : fe0 113 0 = some (.aload_n 0, 1, 0, 0, 0, 0, 0) := (pg_113 0).trans rfl
theorem f_113_1 : fe0 113 1 = some (.iload_n 1, 1, 0, 0, 0, 0, 0) := (pg_113 1).trans rfl
theorem f_113_2 : fe0 113 2 = some (.invokevirtual 304, 3, 127, 1, 0, 8, 4197) := (pg_113 2).trans rfl
theorem f_113_5 : fe0 113 5 = some (.astore 4, 2, 0, 0, 0, 0, 0) := (pg_113 5).trans rfl
theorem f_113_7 : fe0 113 7 = some (.aload 4, 2, 0, 0, 0, 0, 0) := (pg_113 7).trans rfl
theorem f_113_9 : fe0 113 9 = some (.ifnull 12, 3, 0, 0, 0, 0, 0) := (pg_113 9).trans rfl
theorem f_113_12 : fe0 113 12 = some (.iload_n 2, 1, 0, 0, 0, 0, 0) := (pg_113 12).trans rfl
theorem f_113_13 : fe0 113 13 = some (.iconst 0, 1, 0, 0, 0, 0, 0) := (pg_113 13).trans rfl
theorem f_113_14 : fe0 113 14 = some (.iconst 3, 1, 0, 0, 0, 0, 0) := (pg_113 14).trans rfl
theorem f_113_15 : fe0 113 15 = some (.invokestatic 72, 3, 122, 3, 2, 0, 2057) := (pg_113 15).trans rfl
theorem f_113_18 : fe0 113 18 = some (.ifCond .ne 6, 3, 0, 0, 0, 0, 0) := (pg_113 18).trans rfl
theorem f_113_21 : fe0 113 21 = some (.ldc 79, 2, 0, 0, 3294967295, 0, 2063) := (pg_113 21).trans rfl
theorem f_113_23 : fe0 113 23 = some (.ireturn, 1, 0, 0, 0, 0, 0) := (pg_113 23).trans rfl
theorem f_113_24 : fe0 113 24 = some (.iload_n 2, 1, 0, 0, 0, 0, 0) := (pg_113 24).trans rfl
theorem f_113_25 : fe0 113 25 = some (.iconst 1, 1, 0, 0, 0, 0, 0) := (pg_113 25).trans rfl
theorem f_113_26 : fe0 113 26 = some (.if_icmp .ne 34, 3, 0, 0, 0, 0, 0) := (pg_113 26).trans rfl
theorem f_113_29 : fe0 113 29 = some (.aload_n 0, 1, 0, 0, 0, 0, 0) := (pg_113 29).trans rfl
theorem f_113_30 : fe0 113 30 = some (.getfield 12, 3, 8, 0, 1, 0, 2013) := (pg_113 30).trans rfl
theorem f_113_33 : fe0 113 33 = some (.iload_n 3, 1, 0, 0, 0, 0, 0) := (pg_113 33).trans rfl
theorem f_113_34 : fe0 113 34 = some (.invokevirtual 84, 3, 12, 1, 0, 2, 2073) := (pg_113 34).trans rfl
theorem f_113_37 : fe0 113 37 = some (.astore 5, 2, 0, 0, 0, 0, 0) := (pg_113 37).trans rfl
theorem f_113_39 : fe0 113 39 = some (.aload 5, 2, 0, 0, 0, 0, 0) := (pg_113 39).trans rfl
theorem f_113_41 : fe0 113 41 = some (.ifnonnull 6, 3, 0, 0, 0, 0, 0) := (pg_113 41).trans rfl
theorem f_113_44 : fe0 113 44 = some (.ldc 79, 2, 0, 0, 3294967295, 0, 2063) := (pg_113 44).trans rfl
theorem f_113_46 : fe0 113 46 = some (.ireturn, 1, 0, 0, 0, 0, 0) := (pg_113 46).trans rfl
theorem f_113_47 : fe0 113 47 = some (.aload 4, 2, 0, 0, 0, 0, 0) := (pg_113 47).trans rfl
theorem f_113_49 : fe0 113 49 = some (.getfield 308, 3, 6, 1, 1, 0, 2000) := (pg_113 49).trans rfl
theorem f_113_52 : fe0 113 52 = some (.aload 5, 2, 0, 0, 0, 0, 0) := (pg_113 52).trans rfl
theorem f_113_54 : fe0 113 54 = some (.invokevirtual 312, 3, 6, 1, 0, 1, 4201) := (pg_113 54).trans rfl
theorem f_113_57 : fe0 113 57 = some (.goto 60, 3, 0, 0, 0, 0, 0) := (pg_113 57).trans rfl
theorem f_113_60 : fe0 113 60 = some (.iload_n 2, 1, 0, 0, 0, 0, 0) := (pg_113 60).trans rfl
theorem f_113_61 : fe0 113 61 = some (.iconst 2, 1, 0, 0, 0, 0, 0) := (pg_113 61).trans rfl
theorem f_113_62 : fe0 113 62 = some (.if_icmp .ne 44, 3, 0, 0, 0, 0, 0) := (pg_113 62).trans rfl
theorem f_113_65 : fe0 113 65 = some (.aload_n 0, 1, 0, 0, 0, 0, 0) := (pg_113 65).trans rfl
theorem f_113_66 : fe0 113 66 = some (.iload_n 3, 1, 0, 0, 0, 0, 0) := (pg_113 66).trans rfl
theorem f_113_67 : fe0 113 67 = some (.invokevirtual 247, 3, 126, 1, 0, 8, 4117) := (pg_113 67).trans rfl
theorem f_113_70 : fe0 113 70 = some (.astore 5, 2, 0, 0, 0, 0, 0) := (pg_113 70).trans rfl
theorem f_113_72 : fe0 113 72 = some (.aload 5, 2, 0, 0, 0, 0, 0) := (pg_113 72).trans rfl
theorem f_113_74 : fe0 113 74 = some (.ifnonnull 6, 3, 0, 0, 0, 0, 0) := (pg_113 74).trans rfl
theorem f_113_77 : fe0 113 77 = some (.ldc 79, 2, 0, 0, 3294967295, 0, 2063) := (pg_113 77).trans rfl
theorem f_113_79 : fe0 113 79 = some (.ireturn, 1, 0, 0, 0, 0, 0) := (pg_113 79).trans rfl
theorem f_113_80 : fe0 113 80 = some (.aload 5, 2, 0, 0, 0, 0, 0) := (pg_113 80).trans rfl
theorem f_113_82 : fe0 113 82 = some (.getfield 256, 3, 5, 1, 0, 0, 1216) := (pg_113 82).trans rfl
theorem f_113_85 : fe0 113 85 = some (.iconst (-1), 1, 0, 0, 0, 0, 0) := (pg_113 85).trans rfl
theorem f_113_86 : fe0 113 86 = some (.if_icmp .ne 7, 3, 0, 0, 0, 0, 0) := (pg_113 86).trans rfl
theorem f_113_89 : fe0 113 89 = some (.ldc_w 257, 3, 0, 0, 3294967285, 0, 4131) := (pg_113 89).trans rfl
theorem f_113_92 : fe0 113 92 = some (.ireturn, 1, 0, 0, 0, 0, 0) := (pg_113 92).trans rfl
theorem f_113_93 : fe0 113 93 = some (.aload 4, 2, 0, 0, 0, 0, 0) := (pg_113 93).trans rfl
theorem f_113_95 : fe0 113 95 = some (.getfield 316, 3, 6, 2, 1, 0, 2002) := (pg_113 95).trans rfl
theorem f_113_98 : fe0 113 98 = some (.aload 5, 2, 0, 0, 0, 0, 0) := (pg_113 98).trans rfl
theorem f_113_100 : fe0 113 100 = some (.invokevirtual 320, 3, 68, 1, 0, 5, 4205) := (pg_113 100).trans rfl
theorem f_113_103 : fe0 113 103 = some (.goto 14, 3, 0, 0, 0, 0, 0) := (pg_113 103).trans rfl
theorem f_113_106 : fe0 113 106 = some (.iload_n 2, 1, 0, 0, 0, 0, 0) := (pg_113 106).trans rfl
theorem f_113_107 : fe0 113 107 = some (.iconst 3, 1, 0, 0, 0, 0, 0) := (pg_113 107).trans rfl
theorem f_113_108 : fe0 113 108 = some (.if_icmp .ne 9, 3, 0, 0, 0, 0, 0) := (pg_113 108).trans rfl
theorem f_113_111 : fe0 113 111 = some (.aload 4, 2, 0, 0, 0, 0, 0) := (pg_113 111).trans rfl
theorem f_113_113 : fe0 113 113 = some (.iload_n 3, 1, 0, 0, 0, 0, 0) := (pg_113 113).trans rfl
theorem f_113_114 : fe0 113 114 = some (.putfield 323, 3, 6, 3, 0, 0, 2003) := (pg_113 114).trans rfl
theorem f_113_117 : fe0 113 117 = some (.aload 4, 2, 0, 0, 0, 0, 0) := (pg_113 117).trans rfl
theorem f_113_119 : fe0 113 119 = some (.getfield 326, 3, 6, 0, 0, 0, 1238) := (pg_113 119).trans rfl
theorem f_113_122 : fe0 113 122 = some (.istore 5, 2, 0, 0, 0, 0, 0) := (pg_113 122).trans rfl
theorem f_113_124 : fe0 113 124 = some (.aload 4, 2, 0, 0, 0, 0, 0) := (pg_113 124).trans rfl
theorem f_113_126 : fe0 113 126 = some (.iload_n 2, 1, 0, 0, 0, 0, 0) := (pg_113 126).trans rfl
theorem f_113_127 : fe0 113 127 = some (.putfield 326, 3, 6, 0, 0, 0, 1238) := (pg_113 127).trans rfl
theorem f_113_130 : fe0 113 130 = some (.iload 5, 2, 0, 0, 0, 0, 0) := (pg_113 130).trans rfl
theorem f_113_132 : fe0 113 132 = some (.ireturn, 1, 0, 0, 0, 0, 0) := (pg_113 132).trans rfl
theorem q_113_0 (d : Nat) (l0 : Nat) (x1 : Int32) (x2 : Int32) (x3 : Int32) (μ : aMem) : Rn (d + 1) 113 (0, [.ref l0, .int x1, .int x2, .int x3, un, un], [], μ) = if (mS μ l0).1 = 8 ∧ l0 < 999999 then ((cR d 127 [.ref l0, .int x1] μ).bind fun p1 => if p1.1 ≤ 999999 then (if p1.1 = 999999 then (some (some (.int (-1000000001)), p1.2)) else ((cI d 122 [.int x2, .int 0, .int 3] p1.2).bind fun p5 => if p5.1 = 0 then (some (some (.int (-1000000001)), p5.2)) else (if x2 = 1 then (if (mS p5.2 l0).1 = 8 then (if (mS p5.2 (mR p5.2 l0 0)).1 = 2 ∧ (mR p5.2 l0 0) < 999999 then ((cR d 12 [.ref (mR p5.2 l0 0), .int x3] p5.2).bind fun p9 => if p9.1 ≤ 999999 then (if p9.1 = 999999 then (some (some (.int (-1000000001)), p9.2)) else (if (mS p9.2 p1.1).1 = 6 then (if (mS p9.2 (mR p9.2 p1.1 1)).1 = 1 ∧ (mR p9.2 p1.1 1) < 999999 then ((cV d 6 [.ref (mR p9.2 p1.1 1), .ref p9.1] p9.2).bind fun p14 => if (mS p14 p1.1).1 = 6 then (some (some (.int (mF p14 p1.1 0)), setF p14 p1.1 0 x2)) else none) else none) else none)) else none) else none) else none) else (if x2 = 2 then (if (mS p5.2 l0).1 = 8 ∧ l0 < 999999 then ((cR d 126 [.ref l0, .int x3] p5.2).bind fun p18 => if p18.1 ≤ 999999 then (if p18.1 = 999999 then (some (some (.int (-1000000001)), p18.2)) else (if (mS p18.2 p18.1).1 = 5 then (if (mF p18.2 p18.1 1) = (-1) then (some (some (.int (-1000000011)), p18.2)) else (if (mS p18.2 p1.1).1 = 6 then (if (mS p18.2 (mR p18.2 p1.1 2)).1 = 5 ∧ (mR p18.2 p1.1 2) < 999999 then ((cV d 68 [.ref (mR p18.2 p1.1 2), .ref p18.1] p18.2).bind fun p25 => if (mS p25 p1.1).1 = 6 then (some (some (.int (mF p25 p1.1 0)), setF p25 p1.1 0 x2)) else none) else none) else none)) else none)) else none) else none) else (if x2 = 3 then (if (mS p5.2 p1.1).1 = 6 then (some (some (.int (mF (setF p5.2 p1.1 3 x3) p1.1 0)), setF (setF p5.2 p1.1 3 x3) p1.1 0 x2)) else none) else (if (mS p5.2 p1.1).1 = 6 then (some (some (.int (mF p5.2 p1.1 0)), setF p5.2 p1.1 0 x2)) else none)))))) else none) else none :=
  (e_nx f_113_0 rfl).trans ((e_nx f_113_1 rfl).trans ((e_gR (L := [.ref l0, .int x1, .int x2, .int x3, un, un]) (st := [.int x1, .ref l0]) (μ := μ) (L' := [.ref l0, .int x1, .int x2, .int x3, un, un]) (st' := []) f_113_2 rfl rfl).trans (g_congr (v_c2 rfl (Nat.le_of_ble_eq_true rfl)) (fun h2 => m_congr fun p1 => (e_nx (q := (_, [.ref l0, .int x1, .int x2, .int x3, .ref p1.1, un], _, _)) f_113_5 rfl).trans ((e_nx f_113_7 rfl).trans ((e_gb f_113_9 rfl).trans (g_congr Iff.rfl (fun h4 => b_congr (fun h3 => (e_nx (q := (_, _, .int (-1000000001) :: _, _)) f_113_21 rfl).trans (e_rt f_113_23 rfl)) (fun h3 => (e_nx f_113_12 rfl).trans ((e_nx (q := (_, _, .int 0 :: _, _)) f_113_13 rfl).trans ((e_nx (q := (_, _, .int 3 :: _, _)) f_113_14 rfl).trans ((e_cI (L := [.ref l0, .int x1, .int x2, .int x3, .ref p1.1, un]) (st := [.int 3, .int 0, .int x2]) (μ := p1.2) (L' := [.ref l0, .int x1, .int x2, .int x3, .ref p1.1, un]) (st' := []) f_113_15 rfl rfl).trans (m_congr fun p5 => (e_ne f_113_18 rfl).trans (b_congr (fun h6 => (e_nx (q := (_, _, .int (-1000000001) :: _, _)) f_113_21 rfl).trans (e_rt f_113_23 rfl)) (fun h6 => (e_nx f_113_24 rfl).trans ((e_nx (q := (_, _, .int 1 :: _, _)) f_113_25 rfl).trans ((e_ne f_113_26 rfl).trans (b_congr (fun h7 => (e_nx f_113_29 rfl).trans ((e_gd f_113_30 rfl).trans (g_congr (Iff.rfl) (fun h8 => (e_nx f_113_33 rfl).trans ((e_gR (L := [.ref l0, .int x1, .int x2, .int x3, .ref p1.1, un]) (st := [.int x3, .ref (mR p5.2 l0 0)]) (μ := p5.2) (L' := [.ref l0, .int x1, .int x2, .int x3, .ref p1.1, un]) (st' := []) f_113_34 rfl rfl).trans (g_congr (v_c2 rfl (Nat.le_of_ble_eq_true rfl)) (fun h10 => m_congr fun p9 => (e_nx (q := (_, [.ref l0, .int x1, .int x2, .int x3, .ref p1.1, .ref p9.1], _, _)) f_113_37 rfl).trans ((e_nx f_113_39 rfl).trans ((e_gb f_113_41 rfl).trans (g_congr Iff.rfl (fun h12 => b_congr (fun h11 => (e_nx (q := (_, _, .int (-1000000001) :: _, _)) f_113_44 rfl).trans (e_rt f_113_46 rfl)) (fun h11 => (e_nx f_113_47 rfl).trans ((e_gd f_113_49 rfl).trans (g_congr (Iff.rfl) (fun h13 => (e_nx f_113_52 rfl).trans ((e_gV (L := [.ref l0, .int x1, .int x2, .int x3, .ref p1.1, .ref p9.1]) (st := [.ref p9.1, .ref (mR p9.2 p1.1 1)]) (μ := p9.2) (L' := [.ref l0, .int x1, .int x2, .int x3, .ref p1.1, .ref p9.1]) (st' := []) f_113_54 rfl rfl).trans (g_congr (v_c2 rfl (Nat.le_of_ble_eq_true rfl)) (fun h15 => m_congr fun p14 => (e_nx f_113_57 rfl).trans ((e_nx f_113_117 rfl).trans ((e_gd f_113_119 rfl).trans (g_congr (Iff.rfl) (fun h16 => (e_nx (q := (_, [.ref l0, .int x1, .int x2, .int x3, .ref p1.1, .int (mF p14 p1.1 0)], _, _)) f_113_122 rfl).trans ((e_nx f_113_124 rfl).trans ((e_nx f_113_126 rfl).trans ((e_gk (L := [.ref l0, .int x1, .int x2, .int x3, .ref p1.1, .int (mF p14 p1.1 0)]) (st := [.int x2, .ref p1.1]) (μ := p14) f_113_127 ((pi_iff rfl).mpr h16) rfl).trans ((e_nx f_113_130 rfl).trans (e_rt f_113_132 rfl))))))))))))))))))))))))))) (fun h7 => (e_nx f_113_60 rfl).trans ((e_nx (q := (_, _, .int 2 :: _, _)) f_113_61 rfl).trans ((e_ne f_113_62 rfl).trans (b_congr (fun h17 => (e_nx f_113_65 rfl).trans ((e_nx f_113_66 rfl).trans ((e_gR (L := [.ref l0, .int x1, .int x2, .int x3, .ref p1.1, un]) (st := [.int x3, .ref l0]) (μ := p5.2) (L' := [.ref l0, .int x1, .int x2, .int x3, .ref p1.1, un]) (st' := []) f_113_67 rfl rfl).trans (g_congr (v_c2 rfl (Nat.le_of_ble_eq_true rfl)) (fun h19 => m_congr fun p18 => (e_nx (q := (_, [.ref l0, .int x1, .int x2, .int x3, .ref p1.1, .ref p18.1], _, _)) f_113_70 rfl).trans ((e_nx f_113_72 rfl).trans ((e_gb f_113_74 rfl).trans (g_congr Iff.rfl (fun h21 => b_congr (fun h20 => (e_nx (q := (_, _, .int (-1000000001) :: _, _)) f_113_77 rfl).trans (e_rt f_113_79 rfl)) (fun h20 => (e_nx f_113_80 rfl).trans ((e_gd f_113_82 rfl).trans (g_congr (Iff.rfl) (fun h22 => (e_nx (q := (_, _, .int (-1) :: _, _)) f_113_85 rfl).trans ((e_ne f_113_86 rfl).trans (b_congr (fun h23 => (e_nx (q := (_, _, .int (-1000000011) :: _, _)) f_113_89 rfl).trans (e_rt f_113_92 rfl)) (fun h23 => (e_nx f_113_93 rfl).trans ((e_gd f_113_95 rfl).trans (g_congr (Iff.rfl) (fun h24 => (e_nx f_113_98 rfl).trans ((e_gV (L := [.ref l0, .int x1, .int x2, .int x3, .ref p1.1, .ref p18.1]) (st := [.ref p18.1, .ref (mR p18.2 p1.1 2)]) (μ := p18.2) (L' := [.ref l0, .int x1, .int x2, .int x3, .ref p1.1, .ref p18.1]) (st' := []) f_113_100 rfl rfl).trans (g_congr (v_c2 rfl (Nat.le_of_ble_eq_true rfl)) (fun h26 => m_congr fun p25 => (e_nx f_113_103 rfl).trans ((e_nx f_113_117 rfl).trans ((e_gd f_113_119 rfl).trans (g_congr (Iff.rfl) (fun h27 => (e_nx (q := (_, [.ref l0, .int x1, .int x2, .int x3, .ref p1.1, .int (mF p25 p1.1 0)], _, _)) f_113_122 rfl).trans ((e_nx f_113_124 rfl).trans ((e_nx f_113_126 rfl).trans ((e_gk (L := [.ref l0, .int x1, .int x2, .int x3, .ref p1.1, .int (mF p25 p1.1 0)]) (st := [.int x2, .ref p1.1]) (μ := p25) f_113_127 ((pi_iff rfl).mpr h27) rfl).trans ((e_nx f_113_130 rfl).trans (e_rt f_113_132 rfl))))))))))))))))))))))))))))))) (fun h17 => (e_nx f_113_106 rfl).trans ((e_nx (q := (_, _, .int 3 :: _, _)) f_113_107 rfl).trans ((e_ne f_113_108 rfl).trans (b_congr (fun h28 => (e_nx f_113_111 rfl).trans ((e_nx f_113_113 rfl).trans ((e_gd (L := [.ref l0, .int x1, .int x2, .int x3, .ref p1.1, un]) (st := [.int x3, .ref p1.1]) (μ := p5.2) f_113_114 rfl).trans (g_congr (pi_iff rfl) (fun h29 => (e_nx f_113_117 rfl).trans ((e_gk f_113_119 (h29) rfl).trans ((e_nx (q := (_, [.ref l0, .int x1, .int x2, .int x3, .ref p1.1, .int (mF (setF p5.2 p1.1 3 x3) p1.1 0)], _, _)) f_113_122 rfl).trans ((e_nx f_113_124 rfl).trans ((e_nx f_113_126 rfl).trans ((e_gk (L := [.ref l0, .int x1, .int x2, .int x3, .ref p1.1, .int (mF (setF p5.2 p1.1 3 x3) p1.1 0)]) (st := [.int x2, .ref p1.1]) (μ := setF p5.2 p1.1 3 x3) f_113_127 ((pi_iff rfl).mpr h29) rfl).trans ((e_nx f_113_130 rfl).trans (e_rt f_113_132 rfl)))))))))))) (fun h28 => (e_nx f_113_117 rfl).trans ((e_gd f_113_119 rfl).trans (g_congr (Iff.rfl) (fun h30 => (e_nx (q := (_, [.ref l0, .int x1, .int x2, .int x3, .ref p1.1, .int (mF p5.2 p1.1 0)], _, _)) f_113_122 rfl).trans ((e_nx f_113_124 rfl).trans ((e_nx f_113_126 rfl).trans ((e_gk (L := [.ref l0, .int x1, .int x2, .int x3, .ref p1.1, .int (mF p5.2 p1.1 0)]) (st := [.int x2, .ref p1.1]) (μ := p5.2) f_113_127 ((pi_iff rfl).mpr h30) rfl).trans ((e_nx f_113_130 rfl).trans (e_rt f_113_132 rfl)))))))))))))))))))))))))))))))))))
theorem pg_114 (pc : Nat) : fe0 114 pc = lk prg_114 pc := rfl
theorem f_114_0 : fe0 114 0 = some (.aload_n 0, 1, 0, 0, 0, 0, 0) := (pg_114 0).trans rfl
theorem f_114_1 : fe0 114 1 = some (.iload_n 1, 1, 0, 0, 0, 0, 0) := (pg_114 1).trans rfl
theorem f_114_2 : fe0 114 2 = some (.invokevirtual 304, 3, 127, 1, 0, 8, 4197) := (pg_114 2).trans rfl
theorem f_114_5 : fe0 114 5 = some (.astore_n 3, 1, 0, 0, 0, 0, 0) := (pg_114 5).trans rfl
theorem f_114_6 : fe0 114 6 = some (.aload_n 3, 1, 0, 0, 0, 0, 0) := (pg_114 6).trans rfl
theorem f_114_7 : fe0 114 7 = some (.ifnull 10, 3, 0, 0, 0, 0, 0) := (pg_114 7).trans rfl
theorem f_114_10 : fe0 114 10 = some (.iload_n 2, 1, 0, 0, 0, 0, 0) := (pg_114 10).trans rfl
theorem f_114_11 : fe0 114 11 = some (.invokestatic 68, 3, 124, 1, 2, 0, 2054) := (pg_114 11).trans rfl
theorem f_114_14 : fe0 114 14 = some (.ifCond .ne 6, 3, 0, 0, 0, 0, 0) := (pg_114 14).trans rfl
theorem f_114_17 : fe0 114 17 = some (.ldc 79, 2, 0, 0, 3294967295, 0, 2063) := (pg_114 17).trans rfl
theorem f_114_19 : fe0 114 19 = some (.ireturn, 1, 0, 0, 0, 0, 0) := (pg_114 19).trans rfl
theorem f_114_20 : fe0 114 20 = some (.aload_n 3, 1, 0, 0, 0, 0, 0) := (pg_114 20).trans rfl
theorem f_114_21 : fe0 114 21 = some (.getfield 326, 3, 6, 0, 0, 0, 1238) := (pg_114 21).trans rfl
theorem f_114_24 : fe0 114 24 = some (.ifCond .ne 7, 3, 0, 0, 0, 0, 0) := (pg_114 24).trans rfl
theorem f_114_27 : fe0 114 27 = some (.ldc_w 257, 3, 0, 0, 3294967285, 0, 4131) := (pg_114 27).trans rfl
theorem f_114_30 : fe0 114 30 = some (.ireturn, 1, 0, 0, 0, 0, 0) := (pg_114 30).trans rfl
theorem f_114_31 : fe0 114 31 = some (.aload_n 3, 1, 0, 0, 0, 0, 0) := (pg_114 31).trans rfl
theorem f_114_32 : fe0 114 32 = some (.getfield 326, 3, 6, 0, 0, 0, 1238) := (pg_114 32).trans rfl
theorem f_114_35 : fe0 114 35 = some (.iconst 1, 1, 0, 0, 0, 0, 0) := (pg_114 35).trans rfl
theorem f_114_36 : fe0 114 36 = some (.if_icmp .ne 14, 3, 0, 0, 0, 0, 0) := (pg_114 36).trans rfl
theorem f_114_39 : fe0 114 39 = some (.aload_n 3, 1, 0, 0, 0, 0, 0) := (pg_114 39).trans rfl
theorem f_114_40 : fe0 114 40 = some (.getfield 308, 3, 6, 1, 1, 0, 2000) := (pg_114 40).trans rfl
theorem f_114_43 : fe0 114 43 = some (.iload_n 2, 1, 0, 0, 0, 0, 0) := (pg_114 43).trans rfl
theorem f_114_44 : fe0 114 44 = some (.invokevirtual 126, 3, 7, 1, 0, 1, 2167) := (pg_114 44).trans rfl
theorem f_114_47 : fe0 114 47 = some (.ifCond .ne 6, 3, 0, 0, 0, 0, 0) := (pg_114 47).trans rfl
theorem f_114_50 : fe0 114 50 = some (.ldc 129, 2, 0, 0, 3294967284, 0, 2173) := (pg_114 50).trans rfl
theorem f_114_52 : fe0 114 52 = some (.ireturn, 1, 0, 0, 0, 0, 0) := (pg_114 52).trans rfl
theorem f_114_53 : fe0 114 53 = some (.aload_n 3, 1, 0, 0, 0, 0, 0) := (pg_114 53).trans rfl
theorem f_114_54 : fe0 114 54 = some (.getfield 308, 3, 6, 1, 1, 0, 2000) := (pg_114 54).trans rfl
theorem f_114_57 : fe0 114 57 = some (.invokevirtual 112, 3, 8, 0, 0, 1, 2126) := (pg_114 57).trans rfl
theorem f_114_60 : fe0 114 60 = some (.ireturn, 1, 0, 0, 0, 0, 0) := (pg_114 60).trans rfl
theorem q_114_0 (d : Nat) (l0 : Nat) (x1 : Int32) (x2 : Int32) (μ : aMem) : Rn (d + 1) 114 (0, [.ref l0, .int x1, .int x2, un], [], μ) = if (mS μ l0).1 = 8 ∧ l0 < 999999 then ((cR d 127 [.ref l0, .int x1] μ).bind fun p1 => if p1.1 ≤ 999999 then (if p1.1 = 999999 then (some (some (.int (-1000000001)), p1.2)) else ((cI d 124 [.int x2] p1.2).bind fun p5 => if p5.1 = 0 then (some (some (.int (-1000000001)), p5.2)) else (if (mS p5.2 p1.1).1 = 6 then (if (mF p5.2 p1.1 0) = 0 then (some (some (.int (-1000000011)), p5.2)) else (if (mF p5.2 p1.1 0) = 1 then (if (mS p5.2 (mR p5.2 p1.1 1)).1 = 1 ∧ (mR p5.2 p1.1 1) < 999999 then ((cI d 7 [.ref (mR p5.2 p1.1 1), .int x2] p5.2).bind fun p10 => if p10.1 = 0 then (some (some (.int (-1000000012)), p10.2)) else (if (mS p10.2 p1.1).1 = 6 then (if (mS p10.2 (mR p10.2 p1.1 1)).1 = 1 ∧ (mR p10.2 p1.1 1) < 999999 then ((cI d 8 [.ref (mR p10.2 p1.1 1)] p10.2).bind fun p14 => some (some (.int p14.1), p14.2)) else none) else none)) else none) else (some (some (.int (-1000000012)), p5.2)))) else none))) else none) else none :=
  (e_nx f_114_0 rfl).trans ((e_nx f_114_1 rfl).trans ((e_gR (L := [.ref l0, .int x1, .int x2, un]) (st := [.int x1, .ref l0]) (μ := μ) (L' := [.ref l0, .int x1, .int x2, un]) (st' := []) f_114_2 rfl rfl).trans (g_congr (v_c2 rfl (Nat.le_of_ble_eq_true rfl)) (fun h2 => m_congr fun p1 => (e_nx (q := (_, [.ref l0, .int x1, .int x2, .ref p1.1], _, _)) f_114_5 rfl).trans ((e_nx f_114_6 rfl).trans ((e_gb f_114_7 rfl).trans (g_congr Iff.rfl (fun h4 => b_congr (fun h3 => (e_nx (q := (_, _, .int (-1000000001) :: _, _)) f_114_17 rfl).trans (e_rt f_114_19 rfl)) (fun h3 => (e_nx f_114_10 rfl).trans ((e_cI (L := [.ref l0, .int x1, .int x2, .ref p1.1]) (st := [.int x2]) (μ := p1.2) (L' := [.ref l0, .int x1, .int x2, .ref p1.1]) (st' := []) f_114_11 rfl rfl).trans (m_congr fun p5 => (e_ne f_114_14 rfl).trans (b_congr (fun h6 => (e_nx (q := (_, _, .int (-1000000001) :: _, _)) f_114_17 rfl).trans (e_rt f_114_19 rfl)) (fun h6 => (e_nx f_114_20 rfl).trans ((e_gd f_114_21 rfl).trans (g_congr (Iff.rfl) (fun h7 => (e_ne f_114_24 rfl).trans (b_congr (fun h8 => (e_nx (q := (_, _, .int (-1000000011) :: _, _)) f_114_27 rfl).trans (e_rt f_114_30 rfl)) (fun h8 => (e_nx f_114_31 rfl).trans ((e_gk f_114_32 (h7) rfl).trans ((e_nx (q := (_, _, .int 1 :: _, _)) f_114_35 rfl).trans ((e_ne f_114_36 rfl).trans (b_congr (fun h9 => (e_nx f_114_39 rfl).trans ((e_gk f_114_40 (h7) rfl).trans ((e_nx f_114_43 rfl).trans ((e_gI (L := [.ref l0, .int x1, .int x2, .ref p1.1]) (st := [.int x2, .ref (mR p5.2 p1.1 1)]) (μ := p5.2) (L' := [.ref l0, .int x1, .int x2, .ref p1.1]) (st' := []) f_114_44 rfl rfl).trans (g_congr (v_c2 rfl (Nat.le_of_ble_eq_true rfl)) (fun h11 => m_congr fun p10 => (e_ne f_114_47 rfl).trans (b_congr (fun h12 => (e_nx (q := (_, _, .int (-1000000012) :: _, _)) f_114_50 rfl).trans (e_rt f_114_52 rfl)) (fun h12 => (e_nx f_114_53 rfl).trans ((e_gd f_114_54 rfl).trans (g_congr (Iff.rfl) (fun h13 => (e_gI (L := [.ref l0, .int x1, .int x2, .ref p1.1]) (st := [.ref (mR p10.2 p1.1 1)]) (μ := p10.2) (L' := [.ref l0, .int x1, .int x2, .ref p1.1]) (st' := []) f_114_57 rfl rfl).trans (g_congr (v_c2 rfl (Nat.le_of_ble_eq_true rfl)) (fun h15 => m_congr fun p14 => e_rt f_114_60 rfl))))))))))))) (fun h9 => (e_nx (q := (_, _, .int (-1000000012) :: _, _)) f_114_50 rfl).trans (e_rt f_114_52 rfl))))))))))))))))))))))))
theorem pg_115 (pc : Nat) : fe0 115 pc = lk prg_115 pc := rfl
theorem f_115_0 : fe0 115 0 = some (.aload_n 0, 1, 0, 0, 0, 0, 0) := (pg_115 0).trans rfl
theorem f_115_1 : fe0 115 1 = some (.iload_n 1, 1, 0, 0, 0, 0, 0) := (pg_115 1).trans rfl
theorem f_115_2 : fe0 115 2 = some (.invokevirtual 304, 3, 127, 1, 0, 8, 4197) := (pg_115 2).trans rfl
theorem f_115_5 : fe0 115 5 = some (.astore_n 3, 1, 0, 0, 0, 0, 0) := (pg_115 5).trans rfl
theorem f_115_6 : fe0 115 6 = some (.aload_n 3, 1, 0, 0, 0, 0, 0) := (pg_115 6).trans rfl
theorem f_115_7 : fe0 115 7 = some (.ifnonnull 6, 3, 0, 0, 0, 0, 0) := (pg_115 7).trans rfl
theorem f_115_10 : fe0 115 10 = some (.ldc 79, 2, 0, 0, 3294967295, 0, 2063) := (pg_115 10).trans rfl
theorem f_115_12 : fe0 115 12 = some (.ireturn, 1, 0, 0, 0, 0, 0) := (pg_115 12).trans rfl
theorem f_115_13 : fe0 115 13 = some (.aload_n 3, 1, 0, 0, 0, 0, 0) := (pg_115 13).trans rfl
theorem f_115_14 : fe0 115 14 = some (.getfield 326, 3, 6, 0, 0, 0, 1238) := (pg_115 14).trans rfl
theorem f_115_17 : fe0 115 17 = some (.ifCond .ne 7, 3, 0, 0, 0, 0, 0) := (pg_115 17).trans rfl
theorem f_115_20 : fe0 115 20 = some (.ldc_w 257, 3, 0, 0, 3294967285, 0, 4131) := (pg_115 20).trans rfl
theorem f_115_23 : fe0 115 23 = some (.ireturn, 1, 0, 0, 0, 0, 0) := (pg_115 23).trans rfl
theorem f_115_24 : fe0 115 24 = some (.aload_n 3, 1, 0, 0, 0, 0, 0) := (pg_115 24).trans rfl
theorem f_115_25 : fe0 115 25 = some (.getfield 326, 3, 6, 0, 0, 0, 1238) := (pg_115 25).trans rfl
theorem f_115_28 : fe0 115 28 = some (.iconst 2, 1, 0, 0, 0, 0, 0) := (pg_115 28).trans rfl
theorem f_115_29 : fe0 115 29 = some (.if_icmp .eq 6, 3, 0, 0, 0, 0, 0) := (pg_115 29).trans rfl
theorem f_115_32 : fe0 115 32 = some (.ldc 129, 2, 0, 0, 3294967284, 0, 2173) := (pg_115 32).trans rfl
theorem f_115_34 : fe0 115 34 = some (.ireturn, 1, 0, 0, 0, 0, 0) := (pg_115 34).trans rfl
theorem f_115_35 : fe0 115 35 = some (.aload_n 3, 1, 0, 0, 0, 0, 0) := (pg_115 35).trans rfl
theorem f_115_36 : fe0 115 36 = some (.getfield 316, 3, 6, 2, 1, 0, 2002) := (pg_115 36).trans rfl
theorem f_115_39 : fe0 115 39 = some (.iload_n 2, 1, 0, 0, 0, 0, 0) := (pg_115 39).trans rfl
theorem f_115_40 : fe0 115 40 = some (.invokevirtual 258, 3, 69, 1, 0, 5, 4132) := (pg_115 40).trans rfl
theorem f_115_43 : fe0 115 43 = some (.ifCond .ne 7, 3, 0, 0, 0, 0, 0) := (pg_115 43).trans rfl
theorem f_115_46 : fe0 115 46 = some (.ldc_w 261, 3, 0, 0, 3294967283, 0, 4136) := (pg_115 46).trans rfl
theorem f_115_49 : fe0 115 49 = some (.ireturn, 1, 0, 0, 0, 0, 0) := (pg_115 49).trans rfl
theorem f_115_50 : fe0 115 50 = some (.aload_n 3, 1, 0, 0, 0, 0, 0) := (pg_115 50).trans rfl
theorem f_115_51 : fe0 115 51 = some (.getfield 316, 3, 6, 2, 1, 0, 2002) := (pg_115 51).trans rfl
theorem f_115_54 : fe0 115 54 = some (.iload_n 2, 1, 0, 0, 0, 0, 0) := (pg_115 54).trans rfl
theorem f_115_55 : fe0 115 55 = some (.invokevirtual 272, 3, 71, 1, 0, 5, 4143) := (pg_115 55).trans rfl
theorem f_115_58 : fe0 115 58 = some (.ifCond .eq 15, 3, 0, 0, 0, 0, 0) := (pg_115 58).trans rfl
theorem f_115_61 : fe0 115 61 = some (.aload_n 3, 1, 0, 0, 0, 0, 0) := (pg_115 61).trans rfl
theorem f_115_62 : fe0 115 62 = some (.getfield 316, 3, 6, 2, 1, 0, 2002) := (pg_115 62).trans rfl
theorem f_115_65 : fe0 115 65 = some (.getfield 262, 3, 5, 0, 1, 0, 1214) := (pg_115 65).trans rfl
theorem f_115_68 : fe0 115 68 = some (.iload_n 2, 1, 0, 0, 0, 0, 0) := (pg_115 68).trans rfl
theorem f_115_69 : fe0 115 69 = some (.iaload, 1, 0, 0, 0, 0, 0) := (pg_115 69).trans rfl
theorem f_115_70 : fe0 115 70 = some (.goto 5, 3, 0, 0, 0, 0, 0) := (pg_115 70).trans rfl
theorem f_115_73 : fe0 115 73 = some (.ldc 129, 2, 0, 0, 3294967284, 0, 2173) := (pg_115 73).trans rfl
theorem f_115_75 : fe0 115 75 = some (.ireturn, 1, 0, 0, 0, 0, 0) := (pg_115 75).trans rfl
theorem q_115_0 (d : Nat) (l0 : Nat) (x1 : Int32) (x2 : Int32) (μ : aMem) : Rn (d + 1) 115 (0, [.ref l0, .int x1, .int x2, un], [], μ) = if (mS μ l0).1 = 8 ∧ l0 < 999999 then ((cR d 127 [.ref l0, .int x1] μ).bind fun p1 => if p1.1 ≤ 999999 then (if p1.1 = 999999 then (some (some (.int (-1000000001)), p1.2)) else (if (mS p1.2 p1.1).1 = 6 then (if (mF p1.2 p1.1 0) = 0 then (some (some (.int (-1000000011)), p1.2)) else (if (mF p1.2 p1.1 0) = 2 then (if (mS p1.2 (mR p1.2 p1.1 2)).1 = 5 ∧ (mR p1.2 p1.1 2) < 999999 then ((cI d 69 [.ref (mR p1.2 p1.1 2), .int x2] p1.2).bind fun p8 => if p8.1 = 0 then (some (some (.int (-1000000013)), p8.2)) else (if (mS p8.2 p1.1).1 = 6 then (if (mS p8.2 (mR p8.2 p1.1 2)).1 = 5 ∧ (mR p8.2 p1.1 2) < 999999 then ((cI d 71 [.ref (mR p8.2 p1.1 2), .int x2] p8.2).bind fun p12 => if p12.1 = 0 then (some (some (.int (-1000000012)), p12.2)) else (if (mS p12.2 p1.1).1 = 6 then (if (mS p12.2 (mR p12.2 p1.1 2)).1 = 5 then ((rdI p12.2 (mR p12.2 (mR p12.2 p1.1 2) 0) x2).bind fun v17 => some (some (.int v17), p12.2)) else none) else none)) else none) else none)) else none) else (some (some (.int (-1000000012)), p1.2)))) else none)) else none) else none :=
  (e_nx f_115_0 rfl).trans ((e_nx f_115_1 rfl).trans ((e_gR (L := [.ref l0, .int x1, .int x2, un]) (st := [.int x1, .ref l0]) (μ := μ) (L' := [.ref l0, .int x1, .int x2, un]) (st' := []) f_115_2 rfl rfl).trans (g_congr (v_c2 rfl (Nat.le_of_ble_eq_true rfl)) (fun h2 => m_congr fun p1 => (e_nx (q := (_, [.ref l0, .int x1, .int x2, .ref p1.1], _, _)) f_115_5 rfl).trans ((e_nx f_115_6 rfl).trans ((e_gb f_115_7 rfl).trans (g_congr Iff.rfl (fun h4 => b_congr (fun h3 => (e_nx (q := (_, _, .int (-1000000001) :: _, _)) f_115_10 rfl).trans (e_rt f_115_12 rfl)) (fun h3 => (e_nx f_115_13 rfl).trans ((e_gd f_115_14 rfl).trans (g_congr (Iff.rfl) (fun h5 => (e_ne f_115_17 rfl).trans (b_congr (fun h6 => (e_nx (q := (_, _, .int (-1000000011) :: _, _)) f_115_20 rfl).trans (e_rt f_115_23 rfl)) (fun h6 => (e_nx f_115_24 rfl).trans ((e_gk f_115_25 (h5) rfl).trans ((e_nx (q := (_, _, .int 2 :: _, _)) f_115_28 rfl).trans ((e_eq f_115_29 rfl).trans (b_congr (fun h7 => (e_nx f_115_35 rfl).trans ((e_gk f_115_36 (h5) rfl).trans ((e_nx f_115_39 rfl).trans ((e_gI (L := [.ref l0, .int x1, .int x2, .ref p1.1]) (st := [.int x2, .ref (mR p1.2 p1.1 2)]) (μ := p1.2) (L' := [.ref l0, .int x1, .int x2, .ref p1.1]) (st' := []) f_115_40 rfl rfl).trans (g_congr (v_c2 rfl (Nat.le_of_ble_eq_true rfl)) (fun h9 => m_congr fun p8 => (e_ne f_115_43 rfl).trans (b_congr (fun h10 => (e_nx (q := (_, _, .int (-1000000013) :: _, _)) f_115_46 rfl).trans (e_rt f_115_49 rfl)) (fun h10 => (e_nx f_115_50 rfl).trans ((e_gd f_115_51 rfl).trans (g_congr (Iff.rfl) (fun h11 => (e_nx f_115_54 rfl).trans ((e_gI (L := [.ref l0, .int x1, .int x2, .ref p1.1]) (st := [.int x2, .ref (mR p8.2 p1.1 2)]) (μ := p8.2) (L' := [.ref l0, .int x1, .int x2, .ref p1.1]) (st' := []) f_115_55 rfl rfl).trans (g_congr (v_c2 rfl (Nat.le_of_ble_eq_true rfl)) (fun h13 => m_congr fun p12 => (e_eq f_115_58 rfl).trans (b_congr (fun h14 => (e_nx (q := (_, _, .int (-1000000012) :: _, _)) f_115_73 rfl).trans (e_rt f_115_75 rfl)) (fun h14 => (e_nx f_115_61 rfl).trans ((e_gd f_115_62 rfl).trans (g_congr (Iff.rfl) (fun h15 => (e_gd f_115_65 rfl).trans (g_congr (Iff.rfl) (fun h16 => (e_nx f_115_68 rfl).trans ((e_ia (L := [.ref l0, .int x1, .int x2, .ref p1.1]) (r := []) (μ := p12.2) f_115_69).trans (m_congr fun v17 => (e_nx f_115_70 rfl).trans (e_rt f_115_75 rfl)))))))))))))))))))))))) (fun h7 => (e_nx (q := (_, _, .int (-1000000012) :: _, _)) f_115_32 rfl).trans (e_rt f_115_34 rfl))))))))))))))))))))
theorem pg_116 (pc : Nat) : fe0 116 pc = lk prg_116 pc := rfl
theorem f_116_0 : fe0 116 0 = some (.aload_n 0, 1, 0, 0, 0, 0, 0) := (pg_116 0).trans rfl
theorem f_116_1 : fe0 116 1 = some (.iload_n 1, 1, 0, 0, 0, 0, 0) := (pg_116 1).trans rfl
theorem f_116_2 : fe0 116 2 = some (.invokevirtual 304, 3, 127, 1, 0, 8, 4197) := (pg_116 2).trans rfl
theorem f_116_5 : fe0 116 5 = some (.astore_n 3, 1, 0, 0, 0, 0, 0) := (pg_116 5).trans rfl
theorem f_116_6 : fe0 116 6 = some (.aload_n 3, 1, 0, 0, 0, 0, 0) := (pg_116 6).trans rfl
theorem f_116_7 : fe0 116 7 = some (.ifnonnull 6, 3, 0, 0, 0, 0, 0) := (pg_116 7).trans rfl
theorem f_116_10 : fe0 116 10 = some (.ldc 79, 2, 0, 0, 3294967295, 0, 2063) := (pg_116 10).trans rfl
theorem f_116_12 : fe0 116 12 = some (.ireturn, 1, 0, 0, 0, 0, 0) := (pg_116 12).trans rfl
theorem f_116_13 : fe0 116 13 = some (.aload_n 3, 1, 0, 0, 0, 0, 0) := (pg_116 13).trans rfl
theorem f_116_14 : fe0 116 14 = some (.getfield 326, 3, 6, 0, 0, 0, 1238) := (pg_116 14).trans rfl
theorem f_116_17 : fe0 116 17 = some (.ifCond .ne 7, 3, 0, 0, 0, 0, 0) := (pg_116 17).trans rfl
theorem f_116_20 : fe0 116 20 = some (.ldc_w 257, 3, 0, 0, 3294967285, 0, 4131) := (pg_116 20).trans rfl
theorem f_116_23 : fe0 116 23 = some (.ireturn, 1, 0, 0, 0, 0, 0) := (pg_116 23).trans rfl
theorem f_116_24 : fe0 116 24 = some (.aload_n 3, 1, 0, 0, 0, 0, 0) := (pg_116 24).trans rfl
theorem f_116_25 : fe0 116 25 = some (.getfield 326, 3, 6, 0, 0, 0, 1238) := (pg_116 25).trans rfl
theorem f_116_28 : fe0 116 28 = some (.iconst 3, 1, 0, 0, 0, 0, 0) := (pg_116 28).trans rfl
theorem f_116_29 : fe0 116 29 = some (.if_icmp .eq 6, 3, 0, 0, 0, 0, 0) := (pg_116 29).trans rfl
theorem f_116_32 : fe0 116 32 = some (.ldc 129, 2, 0, 0, 3294967284, 0, 2173) := (pg_116 32).trans rfl
theorem f_116_34 : fe0 116 34 = some (.ireturn, 1, 0, 0, 0, 0, 0) := (pg_116 34).trans rfl
theorem f_116_35 : fe0 116 35 = some (.iload_n 2, 1, 0, 0, 0, 0, 0) := (pg_116 35).trans rfl
theorem f_116_36 : fe0 116 36 = some (.ifCond .ne 9, 3, 0, 0, 0, 0, 0) := (pg_116 36).trans rfl
theorem f_116_39 : fe0 116 39 = some (.ldc_w 329, 3, 0, 0, 3294967294, 0, 4222) := (pg_116 39).trans rfl
theorem f_116_42 : fe0 116 42 = some (.goto 9, 3, 0, 0, 0, 0, 0) := (pg_116 42).trans rfl
theorem f_116_45 : fe0 116 45 = some (.aload_n 3, 1, 0, 0, 0, 0, 0) := (pg_116 45).trans rfl
theorem f_116_46 : fe0 116 46 = some (.getfield 323, 3, 6, 3, 0, 0, 2003) := (pg_116 46).trans rfl
theorem f_116_49 : fe0 116 49 = some (.iload_n 2, 1, 0, 0, 0, 0, 0) := (pg_116 49).trans rfl
theorem f_116_50 : fe0 116 50 = some (.irem, 1, 0, 0, 0, 0, 0) := (pg_116 50).trans rfl
theorem f_116_51 : fe0 116 51 = some (.ireturn, 1, 0, 0, 0, 0, 0) := (pg_116 51).trans rfl
theorem q_116_0 (d : Nat) (l0 : Nat) (x1 : Int32) (x2 : Int32) (μ : aMem) : Rn (d + 1) 116 (0, [.ref l0, .int x1, .int x2, un], [], μ) = if (mS μ l0).1 = 8 ∧ l0 < 999999 then ((cR d 127 [.ref l0, .int x1] μ).bind fun p1 => if p1.1 ≤ 999999 then (if p1.1 = 999999 then (some (some (.int (-1000000001)), p1.2)) else (if (mS p1.2 p1.1).1 = 6 then (if (mF p1.2 p1.1 0) = 0 then (some (some (.int (-1000000011)), p1.2)) else (if (mF p1.2 p1.1 0) = 3 then (if x2 = 0 then (some (some (.int (-1000000002)), p1.2)) else (if ¬ x2 = 0 then (some (some (.int ((mF p1.2 p1.1 3) - (mF p1.2 p1.1 3) / x2 * x2)), p1.2)) else none)) else (some (some (.int (-1000000012)), p1.2)))) else none)) else none) else none :=
  (e_nx f_116_0 rfl).trans ((e_nx f_116_1 rfl).trans ((e_gR (L := [.ref l0, .int x1, .int x2, un]) (st := [.int x1, .ref l0]) (μ := μ) (L' := [.ref l0, .int x1, .int x2, un]) (st' := []) f_116_2 rfl rfl).trans (g_congr (v_c2 rfl (Nat.le_of_ble_eq_true rfl)) (fun h2 => m_congr fun p1 => (e_nx (q := (_, [.ref l0, .int x1, .int x2, .ref p1.1], _, _)) f_116_5 rfl).trans ((e_nx f_116_6 rfl).trans ((e_gb f_116_7 rfl).trans (g_congr Iff.rfl (fun h4 => b_congr (fun h3 => (e_nx (q := (_, _, .int (-1000000001) :: _, _)) f_116_10 rfl).trans (e_rt f_116_12 rfl)) (fun h3 => (e_nx f_116_13 rfl).trans ((e_gd f_116_14 rfl).trans (g_congr (Iff.rfl) (fun h5 => (e_ne f_116_17 rfl).trans (b_congr (fun h6 => (e_nx (q := (_, _, .int (-1000000011) :: _, _)) f_116_20 rfl).trans (e_rt f_116_23 rfl)) (fun h6 => (e_nx f_116_24 rfl).trans ((e_gk f_116_25 (h5) rfl).trans ((e_nx (q := (_, _, .int 3 :: _, _)) f_116_28 rfl).trans ((e_eq f_116_29 rfl).trans (b_congr (fun h7 => (e_nx f_116_35 rfl).trans ((e_ne f_116_36 rfl).trans (b_congr (fun h8 => (e_nx (q := (_, _, .int (-1000000002) :: _, _)) f_116_39 rfl).trans ((e_nx f_116_42 rfl).trans (e_rt f_116_51 rfl))) (fun h8 => (e_nx f_116_45 rfl).trans ((e_gk f_116_46 (h5) rfl).trans ((e_nx f_116_49 rfl).trans ((e_gd f_116_50 rfl).trans (g_congr (Iff.rfl) (fun h9 => e_rt f_116_51 rfl))))))))) (fun h7 => (e_nx (q := (_, _, .int (-1000000012) :: _, _)) f_116_32 rfl).trans (e_rt f_116_34 rfl))))))))))))))))))))
theorem pg_117 (pc : Nat) : fe0 117 pc = lk prg_117 pc := rfl
theorem f_117_0 : fe0 117 0 = some (.aload_n 0, 1, 0, 0, 0, 0, 0) := (pg_117 0).trans rfl
theorem f_117_1 : fe0 117 1 = some (.getfield 51, 3, 8, 9, 0, 0, 2022) := (pg_117 1).trans rfl
theorem f_117_4 : fe0 117 4 = some (.bipush 60, 2, 0, 0, 0, 0, 0) := (pg_117 4).trans rfl
theorem f_117_6 : fe0 117 6 = some (.if_icmp .lt 6, 3, 0, 0, 0, 0, 0) := (pg_117 6).trans rfl
theorem f_117_9 : fe0 117 9 = some (.ldc 211, 2, 0, 0, 3294967293, 0, 3115) := (pg_117 9).trans rfl
theorem f_117_11 : fe0 117 11 = some (.ireturn, 1, 0, 0, 0, 0, 0) := (pg_117 11).trans rfl
theorem f_117_12 : fe0 117 12 = some (.aload_n 0, 1, 0, 0, 0, 0, 0) := (pg_117 12).trans rfl
theorem f_117_13 : fe0 117 13 = some (.getfield 48, 3, 8, 8, 1, 0, 2021) := (pg_117 13).trans rfl
theorem f_117_16 : fe0 117 16 = some (.aload_n 0, 1, 0, 0, 0, 0, 0) := (pg_117 16).trans rfl
theorem f_117_17 : fe0 117 17 = some (.getfield 51, 3, 8, 9, 0, 0, 2022) := (pg_117 17).trans rfl
theorem f_117_20 : fe0 117 20 = some (.iload_n 1, 1, 0, 0, 0, 0, 0) := (pg_117 20).trans rfl
theorem f_117_21 : fe0 117 21 = some (.iastore, 1, 0, 0, 0, 0, 0) := (pg_117 21).trans rfl
theorem f_117_22 : fe0 117 22 = some (.aload_n 0, 1, 0, 0, 0, 0, 0) := (pg_117 22).trans rfl
theorem f_117_23 : fe0 117 23 = some (.dup, 1, 0, 0, 0, 0, 0) := (pg_117 23).trans rfl
theorem f_117_24 : fe0 117 24 = some (.getfield 51, 3, 8, 9, 0, 0, 2022) := (pg_117 24).trans rfl
theorem f_117_27 : fe0 117 27 = some (.iconst 1, 1, 0, 0, 0, 0, 0) := (pg_117 27).trans rfl
theorem f_117_28 : fe0 117 28 = some (.iadd, 1, 0, 0, 0, 0, 0) := (pg_117 28).trans rfl
theorem f_117_29 : fe0 117 29 = some (.putfield 51, 3, 8, 9, 0, 0, 2022) := (pg_117 29).trans rfl
theorem f_117_32 : fe0 117 32 = some (.aload_n 0, 1, 0, 0, 0, 0, 0) := (pg_117 32).trans rfl
theorem f_117_33 : fe0 117 33 = some (.getfield 51, 3, 8, 9, 0, 0, 2022) := (pg_117 33).trans rfl
theorem f_117_36 : fe0 117 36 = some (.ireturn, 1, 0, 0, 0, 0, 0) := (pg_117 36).trans rfl
theorem q_117_0 (d : Nat) (l0 : Nat) (x1 : Int32) (μ : aMem) : Rn d 117 (0, [.ref l0, .int x1], [], μ) = if (mS μ l0).1 = 8 then (if (mF μ l0 9) < 60 then (if (mS μ (mR μ l0 8)).1 = 10 ∧ inb (mF μ l0 9) (mS μ (mR μ l0 8)).2 then (some (some (.int (mF (setF (setF μ (mR μ l0 8) (ix (mF μ l0 9)) x1) l0 9 ((mF (setF μ (mR μ l0 8) (ix (mF μ l0 9)) x1) l0 9) + 1)) l0 9)), setF (setF μ (mR μ l0 8) (ix (mF μ l0 9)) x1) l0 9 ((mF (setF μ (mR μ l0 8) (ix (mF μ l0 9)) x1) l0 9) + 1))) else none) else (some (some (.int (-1000000003)), μ))) else none :=
  (e_nx f_117_0 rfl).trans ((e_gd f_117_1 rfl).trans (g_congr (Iff.rfl) (fun h1 => (e_nx (q := (_, _, .int 60 :: _, _)) f_117_4 rfl).trans ((e_lt f_117_6 rfl).trans (b_congr (fun h2 => (e_nx f_117_12 rfl).trans ((e_gk f_117_13 (h1) rfl).trans ((e_nx f_117_16 rfl).trans ((e_gk f_117_17 (h1) rfl).trans ((e_nx f_117_20 rfl).trans ((e_gd f_117_21 rfl).trans (g_congr (Iff.rfl) (fun h3 => (e_nx f_117_22 rfl).trans ((e_nx f_117_23 rfl).trans ((e_gk f_117_24 (h1) rfl).trans ((e_nx (q := (_, _, .int 1 :: _, _)) f_117_27 rfl).trans ((e_nx f_117_28 rfl).trans ((e_gk (L := [.ref l0, .int x1]) (st := [.int ((mF (setF μ (mR μ l0 8) (ix (mF μ l0 9)) x1) l0 9) + 1), .ref l0]) (μ := setF μ (mR μ l0 8) (ix (mF μ l0 9)) x1) f_117_29 ((pi_iff rfl).mpr h1) rfl).trans ((e_nx f_117_32 rfl).trans ((e_gk f_117_33 (h1) rfl).trans (e_rt f_117_36 rfl)))))))))))))))) (fun h2 => (e_nx (q := (_, _, .int (-1000000003) :: _, _)) f_117_9 rfl).trans (e_rt f_117_11 rfl)))))))
theorem pg_118 (pc : Nat) : fe0 118 pc = lk prg_118 pc := rfl
theorem f_118_0 : fe0 118 0 = some (.aload_n 0, 1, 0, 0, 0, 0, 0) := (pg_118 0).trans rfl
theorem f_118_1 : fe0 118 1 = some (.getfield 51, 3, 8, 9, 0, 0, 2022) := (pg_118 1).trans rfl
theorem f_118_4 : fe0 118 4 = some (.istore_n 3, 1, 0, 0, 0, 0, 0) := (pg_118 4).trans rfl
theorem f_118_5 : fe0 118 5 = some (.aload_n 0, 1, 0, 0, 0, 0, 0) := (pg_118 5).trans rfl
theorem f_118_6 : fe0 118 6 = some (.iconst 0, 1, 0, 0, 0, 0, 0) := (pg_118 6).trans rfl
theorem f_118_7 : fe0 118 7 = some (.putfield 51, 3, 8, 9, 0, 0, 2022) := (pg_118 7).trans rfl
theorem f_118_10 : fe0 118 10 = some (.iload_n 1, 1, 0, 0, 0, 0, 0) := (pg_118 10).trans rfl
theorem f_118_11 : fe0 118 11 = some (.invokestatic 76, 3, 125, 1, 2, 0, 2060) := (pg_118 11).trans rfl
theorem f_118_14 : fe0 118 14 = some (.ifCond .eq 13, 3, 0, 0, 0, 0, 0) := (pg_118 14).trans rfl
theorem f_118_17 : fe0 118 17 = some (.iload_n 2, 1, 0, 0, 0, 0, 0) := (pg_118 17).trans rfl
theorem f_118_18 : fe0 118 18 = some (.iconst 1, 1, 0, 0, 0, 0, 0) := (pg_118 18).trans rfl
theorem f_118_19 : fe0 118 19 = some (.bipush 30, 2, 0, 0, 0, 0, 0) := (pg_118 19).trans rfl
theorem f_118_21 : fe0 118 21 = some (.invokestatic 72, 3, 122, 3, 2, 0, 2057) := (pg_118 21).trans rfl
theorem f_118_24 : fe0 118 24 = some (.ifCond .ne 6, 3, 0, 0, 0, 0, 0) := (pg_118 24).trans rfl
theorem f_118_27 : fe0 118 27 = some (.ldc 79, 2, 0, 0, 3294967295, 0, 2063) := (pg_118 27).trans rfl
theorem f_118_29 : fe0 118 29 = some (.ireturn, 1, 0, 0, 0, 0, 0) := (pg_118 29).trans rfl
theorem f_118_30 : fe0 118 30 = some (.aload_n 0, 1, 0, 0, 0, 0, 0) := (pg_118 30).trans rfl
theorem f_118_31 : fe0 118 31 = some (.getfield 22, 3, 8, 3, 0, 0, 2016) := (pg_118 31).trans rfl
theorem f_118_34 : fe0 118 34 = some (.ifCond .ne 7, 3, 0, 0, 0, 0, 0) := (pg_118 34).trans rfl
theorem f_118_37 : fe0 118 37 = some (.ldc_w 329, 3, 0, 0, 3294967294, 0, 4222) := (pg_118 37).trans rfl
theorem f_118_40 : fe0 118 40 = some (.ireturn, 1, 0, 0, 0, 0, 0) := (pg_118 40).trans rfl
theorem f_118_41 : fe0 118 41 = some (.aload_n 0, 1, 0, 0, 0, 0, 0) := (pg_118 41).trans rfl
theorem f_118_42 : fe0 118 42 = some (.getfield 19, 3, 8, 2, 1, 0, 2015) := (pg_118 42).trans rfl
theorem f_118_45 : fe0 118 45 = some (.aload_n 0, 1, 0, 0, 0, 0, 0) := (pg_118 45).trans rfl
theorem f_118_46 : fe0 118 46 = some (.getfield 16, 3, 8, 1, 1, 0, 2014) := (pg_118 46).trans rfl
theorem f_118_49 : fe0 118 49 = some (.invokevirtual 330, 3, 19, 1, 0, 2, 4231) := (pg_118 49).trans rfl
theorem f_118_52 : fe0 118 52 = some (.iconst 0, 1, 0, 0, 0, 0, 0) := (pg_118 52).trans rfl
theorem f_118_53 : fe0 118 53 = some (.istore 4, 2, 0, 0, 0, 0, 0) := (pg_118 53).trans rfl
theorem f_118_55 : fe0 118 55 = some (.iload 4, 2, 0, 0, 0, 0, 0) := (pg_118 55).trans rfl
theorem f_118_57 : fe0 118 57 = some (.iload_n 2, 1, 0, 0, 0, 0, 0) := (pg_118 57).trans rfl
theorem f_118_58 : fe0 118 58 = some (.if_icmp .ge 79, 3, 0, 0, 0, 0, 0) := (pg_118 58).trans rfl
theorem f_118_61 : fe0 118 61 = some (.aload_n 0, 1, 0, 0, 0, 0, 0) := (pg_118 61).trans rfl
theorem f_118_62 : fe0 118 62 = some (.getfield 29, 3, 8, 4, 1, 0, 2017) := (pg_118 62).trans rfl
theorem f_118_65 : fe0 118 65 = some (.aload_n 0, 1, 0, 0, 0, 0, 0) := (pg_118 65).trans rfl
theorem f_118_66 : fe0 118 66 = some (.getfield 19, 3, 8, 2, 1, 0, 2015) := (pg_118 66).trans rfl
theorem f_118_69 : fe0 118 69 = some (.iload_n 1, 1, 0, 0, 0, 0, 0) := (pg_118 69).trans rfl
theorem f_118_70 : fe0 118 70 = some (.invokevirtual 198, 3, 65, 2, 0, 4, 3097) := (pg_118 70).trans rfl
theorem f_118_73 : fe0 118 73 = some (.aload_n 0, 1, 0, 0, 0, 0, 0) := (pg_118 73).trans rfl
theorem f_118_74 : fe0 118 74 = some (.iconst 2, 1, 0, 0, 0, 0, 0) := (pg_118 74).trans rfl
theorem f_118_75 : fe0 118 75 = some (.iload 4, 2, 0, 0, 0, 0, 0) := (pg_118 75).trans rfl
theorem f_118_77 : fe0 118 77 = some (.imul, 1, 0, 0, 0, 0, 0) := (pg_118 77).trans rfl
theorem f_118_78 : fe0 118 78 = some (.iload_n 3, 1, 0, 0, 0, 0, 0) := (pg_118 78).trans rfl
theorem f_118_79 : fe0 118 79 = some (.aload_n 0, 1, 0, 0, 0, 0, 0) := (pg_118 79).trans rfl
theorem f_118_80 : fe0 118 80 = some (.getfield 29, 3, 8, 4, 1, 0, 2017) := (pg_118 80).trans rfl
theorem f_118_83 : fe0 118 83 = some (.getfield 202, 3, 4, 9, 0, 0, 1145) := (pg_118 83).trans rfl
theorem f_118_86 : fe0 118 86 = some (.invokevirtual 333, 3, 128, 3, 0, 8, 5001) := (pg_118 86).trans rfl
theorem f_118_89 : fe0 118 89 = some (.ifCond .ne 10, 3, 0, 0, 0, 0, 0) := (pg_118 89).trans rfl
theorem f_118_92 : fe0 118 92 = some (.iconst 1, 1, 0, 0, 0, 0, 0) := (pg_118 92).trans rfl
theorem f_118_93 : fe0 118 93 = some (.iconst 2, 1, 0, 0, 0, 0, 0) := (pg_118 93).trans rfl
theorem f_118_94 : fe0 118 94 = some (.iload 4, 2, 0, 0, 0, 0, 0) := (pg_118 94).trans rfl
theorem f_118_96 : fe0 118 96 = some (.imul, 1, 0, 0, 0, 0, 0) := (pg_118 96).trans rfl
theorem f_118_97 : fe0 118 97 = some (.iadd, 1, 0, 0, 0, 0, 0) := (pg_118 97).trans rfl
theorem f_118_98 : fe0 118 98 = some (.ireturn, 1, 0, 0, 0, 0, 0) := (pg_118 98).trans rfl
theorem f_118_99 : fe0 118 99 = some (.aload_n 0, 1, 0, 0, 0, 0, 0) := (pg_118 99).trans rfl
theorem f_118_100 : fe0 118 100 = some (.iconst 2, 1, 0, 0, 0, 0, 0) := (pg_118 100).trans rfl
theorem f_118_101 : fe0 118 101 = some (.iload 4, 2, 0, 0, 0, 0, 0) := (pg_118 101).trans rfl
theorem f_118_103 : fe0 118 103 = some (.imul, 1, 0, 0, 0, 0, 0) := (pg_118 103).trans rfl
theorem f_118_104 : fe0 118 104 = some (.iconst 1, 1, 0, 0, 0, 0, 0) := (pg_118 104).trans rfl
theorem f_118_105 : fe0 118 105 = some (.iadd, 1, 0, 0, 0, 0, 0) := (pg_118 105).trans rfl
theorem f_118_106 : fe0 118 106 = some (.iload_n 3, 1, 0, 0, 0, 0, 0) := (pg_118 106).trans rfl
theorem f_118_107 : fe0 118 107 = some (.aload_n 0, 1, 0, 0, 0, 0, 0) := (pg_118 107).trans rfl
theorem f_118_108 : fe0 118 108 = some (.getfield 19, 3, 8, 2, 1, 0, 2015) := (pg_118 108).trans rfl
theorem f_118_111 : fe0 118 111 = some (.getfield 130, 3, 2, 2, 1, 0, 1106) := (pg_118 111).trans rfl
theorem f_118_114 : fe0 118 114 = some (.iconst (-1), 1, 0, 0, 0, 0, 0) := (pg_118 114).trans rfl
theorem f_118_115 : fe0 118 115 = some (.invokevirtual 147, 3, 3, 1, 0, 0, 2210) := (pg_118 115).trans rfl
theorem f_118_118 : fe0 118 118 = some (.invokevirtual 333, 3, 128, 3, 0, 8, 5001) := (pg_118 118).trans rfl
theorem f_118_121 : fe0 118 121 = some (.ifCond .ne 10, 3, 0, 0, 0, 0, 0) := (pg_118 121).trans rfl
theorem f_118_124 : fe0 118 124 = some (.iconst 2, 1, 0, 0, 0, 0, 0) := (pg_118 124).trans rfl
theorem f_118_125 : fe0 118 125 = some (.iconst 2, 1, 0, 0, 0, 0, 0) := (pg_118 125).trans rfl
theorem f_118_126 : fe0 118 126 = some (.iload 4, 2, 0, 0, 0, 0, 0) := (pg_118 126).trans rfl
theorem f_118_128 : fe0 118 128 = some (.imul, 1, 0, 0, 0, 0, 0) := (pg_118 128).trans rfl
theorem f_118_129 : fe0 118 129 = some (.iadd, 1, 0, 0, 0, 0, 0) := (pg_118 129).trans rfl
theorem f_118_130 : fe0 118 130 = some (.ireturn, 1, 0, 0, 0, 0, 0) := (pg_118 130).trans rfl
theorem f_118_131 : fe0 118 131 = some (.iinc 4 1, 3, 0, 0, 0, 0, 0) := (pg_118 131).trans rfl
theorem f_118_134 : fe0 118 134 = some (.goto (-79), 3, 0, 0, 0, 0, 0) := (pg_118 134).trans rfl
theorem f_118_137 : fe0 118 137 = some (.iload_n 3, 1, 0, 0, 0, 0, 0) := (pg_118 137).trans rfl
theorem f_118_138 : fe0 118 138 = some (.iconst 2, 1, 0, 0, 0, 0, 0) := (pg_118 138).trans rfl
theorem f_118_139 : fe0 118 139 = some (.iload_n 2, 1, 0, 0, 0, 0, 0) := (pg_118 139).trans rfl
theorem f_118_140 : fe0 118 140 = some (.imul, 1, 0, 0, 0, 0, 0) := (pg_118 140).trans rfl
theorem f_118_141 : fe0 118 141 = some (.if_icmp .le 11, 3, 0, 0, 0, 0, 0) := (pg_118 141).trans rfl
theorem f_118_144 : fe0 118 144 = some (.iconst 1, 1, 0, 0, 0, 0, 0) := (pg_118 144).trans rfl
theorem f_118_145 : fe0 118 145 = some (.iconst 2, 1, 0, 0, 0, 0, 0) := (pg_118 145).trans rfl
theorem f_118_146 : fe0 118 146 = some (.iload_n 2, 1, 0, 0, 0, 0, 0) := (pg_118 146).trans rfl
theorem f_118_147 : fe0 118 147 = some (.imul, 1, 0, 0, 0, 0, 0) := (pg_118 147).trans rfl
theorem f_118_148 : fe0 118 148 = some (.iadd, 1, 0, 0, 0, 0, 0) := (pg_118 148).trans rfl
theorem f_118_149 : fe0 118 149 = some (.goto 4, 3, 0, 0, 0, 0, 0) := (pg_118 149).trans rfl
theorem f_118_152 : fe0 118 152 = some (.iconst 0, 1, 0, 0, 0, 0, 0) := (pg_118 152).trans rfl
theorem f_118_153 : fe0 118 153 = some (.ireturn, 1, 0, 0, 0, 0, 0) := (pg_118 153).trans rfl
theorem q_118_0 (d : Nat) (l0 : Nat) (x1 : Int32) (x2 : Int32) (μ : aMem) : Rn (d + 1) 118 (0, [.ref l0, .int x1, .int x2, un, un], [], μ) = if (mS μ l0).1 = 8 then ((cI d 125 [.int x1] (setF μ l0 9 0)).bind fun p2 => if p2.1 = 0 then (some (some (.int (-1000000001)), p2.2)) else ((cI d 122 [.int x2, .int 1, .int 30] p2.2).bind fun p4 => if p4.1 = 0 then (some (some (.int (-1000000001)), p4.2)) else (if (mS p4.2 l0).1 = 8 then (if (mF p4.2 l0 3) = 0 then (some (some (.int (-1000000002)), p4.2)) else (if (mS p4.2 (mR p4.2 l0 2)).1 = 2 ∧ (mR p4.2 l0 2) < 999999 then ((cV d 19 [.ref (mR p4.2 l0 2), .ref (mR p4.2 l0 1)] p4.2).bind fun p8 => Rn (d + 1) 118 (55, [.ref l0, .int x1, .int x2, .int (mF μ l0 9), .int 0], [], p8)) else none)) else none))) else none :=
  (e_nx f_118_0 rfl).trans ((e_gd f_118_1 rfl).trans (g_congr (Iff.rfl) (fun h1 => (e_nx (q := (_, [.ref l0, .int x1, .int x2, .int (mF μ l0 9), un], _, _)) f_118_4 rfl).trans ((e_nx f_118_5 rfl).trans ((e_nx (q := (_, _, .int 0 :: _, _)) f_118_6 rfl).trans ((e_gk (L := [.ref l0, .int x1, .int x2, .int (mF μ l0 9), un]) (st := [.int 0, .ref l0]) (μ := μ) f_118_7 ((pi_iff rfl).mpr h1) rfl).trans ((e_nx f_118_10 rfl).trans ((e_cI (L := [.ref l0, .int x1, .int x2, .int (mF μ l0 9), un]) (st := [.int x1]) (μ := setF μ l0 9 0) (L' := [.ref l0, .int x1, .int x2, .int (mF μ l0 9), un]) (st' := []) f_118_11 rfl rfl).trans (m_congr fun p2 => (e_eq f_118_14 rfl).trans (b_congr (fun h3 => (e_nx (q := (_, _, .int (-1000000001) :: _, _)) f_118_27 rfl).trans (e_rt f_118_29 rfl)) (fun h3 => (e_nx f_118_17 rfl).trans ((e_nx (q := (_, _, .int 1 :: _, _)) f_118_18 rfl).trans ((e_nx (q := (_, _, .int 30 :: _, _)) f_118_19 rfl).trans ((e_cI (L := [.ref l0, .int x1, .int x2, .int (mF μ l0 9), un]) (st := [.int 30, .int 1, .int x2]) (μ := p2.2) (L' := [.ref l0, .int x1, .int x2, .int (mF μ l0 9), un]) (st' := []) f_118_21 rfl rfl).trans (m_congr fun p4 => (e_ne f_118_24 rfl).trans (b_congr (fun h5 => (e_nx (q := (_, _, .int (-1000000001) :: _, _)) f_118_27 rfl).trans (e_rt f_118_29 rfl)) (fun h5 => (e_nx f_118_30 rfl).trans ((e_gd f_118_31 rfl).trans (g_congr (Iff.rfl) (fun h6 => (e_ne f_118_34 rfl).trans (b_congr (fun h7 => (e_nx (q := (_, _, .int (-1000000002) :: _, _)) f_118_37 rfl).trans (e_rt f_118_40 rfl)) (fun h7 => (e_nx f_118_41 rfl).trans ((e_gk f_118_42 (h6) rfl).trans ((e_nx f_118_45 rfl).trans ((e_gk f_118_46 (h6) rfl).trans ((e_gV (L := [.ref l0, .int x1, .int x2, .int (mF μ l0 9), un]) (st := [.ref (mR p4.2 l0 1), .ref (mR p4.2 l0 2)]) (μ := p4.2) (L' := [.ref l0, .int x1, .int x2, .int (mF μ l0 9), un]) (st' := []) f_118_49 rfl rfl).trans (g_congr (v_c2 rfl (Nat.le_of_ble_eq_true rfl)) (fun h9 => m_congr fun p8 => (e_nx (q := (_, _, .int 0 :: _, _)) f_118_52 rfl).trans (e_nx (q := (_, [.ref l0, .int x1, .int x2, .int (mF μ l0 9), .int 0], _, _)) f_118_53 rfl)))))))))))))))))))))))))))))
theorem q_118_55 (d : Nat) (l0 : Nat) (x1 : Int32) (x2 : Int32) (x3 : Int32) (x4 : Int32) (μ : aMem) : Rn (d + 1) 118 (55, [.ref l0, .int x1, .int x2, .int x3, .int x4], [], μ) = if x2 ≤ x4 then (if x3 ≤ (2 * x2) then (some (some (.int 0), μ)) else (some (some (.int (1 + (2 * x2))), μ))) else (if (mS μ l0).1 = 8 then (if (mS μ (mR μ l0 4)).1 = 4 ∧ (mR μ l0 4) < 999999 then ((cV d 65 [.ref (mR μ l0 4), .ref (mR μ l0 2), .int x1] μ).bind fun p4 => if (mS p4 l0).1 = 8 then (if (mS p4 (mR p4 l0 4)).1 = 4 then (if (mS p4 l0).1 = 8 ∧ l0 < 999999 then ((cI d 128 [.ref l0, .int (2 * x4), .int x3, .int (mF p4 (mR p4 l0 4) 9)] p4).bind fun p8 => if p8.1 = 0 then (some (some (.int (1 + (2 * x4))), p8.2)) else (if (mS p8.2 l0).1 = 8 then (if (mS p8.2 (mR p8.2 l0 2)).1 = 2 then (if (mS p8.2 (mR p8.2 (mR p8.2 l0 2) 2)).1 = 0 ∧ (mR p8.2 (mR p8.2 l0 2) 2) < 999999 then ((cI d 3 [.ref (mR p8.2 (mR p8.2 l0 2) 2), .int (-1)] p8.2).bind fun p13 => if (mS p13.2 l0).1 = 8 ∧ l0 < 999999 then ((cI d 128 [.ref l0, .int ((2 * x4) + 1), .int x3, .int p13.1] p13.2).bind fun p15 => if p15.1 = 0 then (some (some (.int (2 + (2 * x4))), p15.2)) else (Rn (d + 1) 118 (55, [.ref l0, .int x1, .int x2, .int x3, .int (x4 + 1)], [], p15.2))) else none) else none) else none) else none)) else none) else none) else none) else none) else none) :=
  (e_nx f_118_55 rfl).trans ((e_nx f_118_57 rfl).trans ((e_ge f_118_58 rfl).trans (b_congr (fun h1 => (e_nx f_118_137 rfl).trans ((e_nx (q := (_, _, .int 2 :: _, _)) f_118_138 rfl).trans ((e_nx f_118_139 rfl).trans ((e_nx f_118_140 rfl).trans ((e_le f_118_141 rfl).trans (b_congr (fun h2 => (e_nx (q := (_, _, .int 0 :: _, _)) f_118_152 rfl).trans (e_rt f_118_153 rfl)) (fun h2 => (e_nx (q := (_, _, .int 1 :: _, _)) f_118_144 rfl).trans ((e_nx (q := (_, _, .int 2 :: _, _)) f_118_145 rfl).trans ((e_nx f_118_146 rfl).trans ((e_nx f_118_147 rfl).trans ((e_nx f_118_148 rfl).trans ((e_nx f_118_149 rfl).trans (e_rt f_118_153 rfl))))))))))))) (fun h1 => (e_nx f_118_61 rfl).trans ((e_gd f_118_62 rfl).trans (g_congr (Iff.rfl) (fun h3 => (e_nx f_118_65 rfl).trans ((e_gk f_118_66 (h3) rfl).trans ((e_nx f_118_69 rfl).trans ((e_gV (L := [.ref l0, .int x1, .int x2, .int x3, .int x4]) (st := [.int x1, .ref (mR μ l0 2), .ref (mR μ l0 4)]) (μ := μ) (L' := [.ref l0, .int x1, .int x2, .int x3, .int x4]) (st' := []) f_118_70 rfl rfl).trans (g_congr (v_c2 rfl (Nat.le_of_ble_eq_true rfl)) (fun h5 => m_congr fun p4 => (e_nx f_118_73 rfl).trans ((e_nx (q := (_, _, .int 2 :: _, _)) f_118_74 rfl).trans ((e_nx f_118_75 rfl).trans ((e_nx f_118_77 rfl).trans ((e_nx f_118_78 rfl).trans ((e_nx f_118_79 rfl).trans ((e_gd f_118_80 rfl).trans (g_congr (Iff.rfl) (fun h6 => (e_gd f_118_83 rfl).trans (g_congr (Iff.rfl) (fun h7 => (e_gI (L := [.ref l0, .int x1, .int x2, .int x3, .int x4]) (st := [.int (mF p4 (mR p4 l0 4) 9), .int x3, .int (2 * x4), .ref l0]) (μ := p4) (L' := [.ref l0, .int x1, .int x2, .int x3, .int x4]) (st' := []) f_118_86 rfl rfl).trans (g_congr (v_c2 rfl (Nat.le_of_ble_eq_true rfl)) (fun h9 => m_congr fun p8 => (e_ne f_118_89 rfl).trans (b_congr (fun h10 => (e_nx (q := (_, _, .int 1 :: _, _)) f_118_92 rfl).trans ((e_nx (q := (_, _, .int 2 :: _, _)) f_118_93 rfl).trans ((e_nx f_118_94 rfl).trans ((e_nx f_118_96 rfl).trans ((e_nx f_118_97 rfl).trans (e_rt f_118_98 rfl)))))) (fun h10 => (e_nx f_118_99 rfl).trans ((e_nx (q := (_, _, .int 2 :: _, _)) f_118_100 rfl).trans ((e_nx f_118_101 rfl).trans ((e_nx f_118_103 rfl).trans ((e_nx (q := (_, _, .int 1 :: _, _)) f_118_104 rfl).trans ((e_nx f_118_105 rfl).trans ((e_nx f_118_106 rfl).trans ((e_nx f_118_107 rfl).trans ((e_gd f_118_108 rfl).trans (g_congr (Iff.rfl) (fun h11 => (e_gd f_118_111 rfl).trans (g_congr (Iff.rfl) (fun h12 => (e_nx (q := (_, _, .int (-1) :: _, _)) f_118_114 rfl).trans ((e_gI (L := [.ref l0, .int x1, .int x2, .int x3, .int x4]) (st := [.int (-1), .ref (mR p8.2 (mR p8.2 l0 2) 2), .int x3, .int ((2 * x4) + 1), .ref l0]) (μ := p8.2) (L' := [.ref l0, .int x1, .int x2, .int x3, .int x4]) (st' := [.int x3, .int ((2 * x4) + 1), .ref l0]) f_118_115 rfl rfl).trans (g_congr (v_c2 rfl (Nat.le_of_ble_eq_true rfl)) (fun h14 => m_congr fun p13 => (e_gI (L := [.ref l0, .int x1, .int x2, .int x3, .int x4]) (st := [.int p13.1, .int x3, .int ((2 * x4) + 1), .ref l0]) (μ := p13.2) (L' := [.ref l0, .int x1, .int x2, .int x3, .int x4]) (st' := []) f_118_118 rfl rfl).trans (g_congr (v_c2 rfl (Nat.le_of_ble_eq_true rfl)) (fun h16 => m_congr fun p15 => (e_ne f_118_121 rfl).trans (b_congr (fun h17 => (e_nx (q := (_, _, .int 2 :: _, _)) f_118_124 rfl).trans ((e_nx (q := (_, _, .int 2 :: _, _)) f_118_125 rfl).trans ((e_nx f_118_126 rfl).trans ((e_nx f_118_128 rfl).trans ((e_nx f_118_129 rfl).trans (e_rt f_118_130 rfl)))))) (fun h17 => (e_nx (q := (_, [.ref l0, .int x1, .int x2, .int x3, .int (x4 + 1)], _, _)) f_118_131 rfl).trans (e_nx f_118_134 rfl))))))))))))))))))))))))))))))))))))))))))))))
theorem pg_119 (pc : Nat) : fe0 119 pc = lk prg_119 pc := rfl
theorem f_119_0 : fe0 119 0 = some (.aload_n 0, 1, 0, 0, 0, 0, 0) := (pg_119 0).trans rfl
theorem f_119_1 : fe0 119 1 = some (.getfield 16, 3, 8, 1, 1, 0, 2014) := (pg_119 1).trans rfl
theorem f_119_4 : fe0 119 4 = some (.aload_n 0, 1, 0, 0, 0, 0, 0) := (pg_119 4).trans rfl
theorem f_119_5 : fe0 119 5 = some (.getfield 12, 3, 8, 0, 1, 0, 2013) := (pg_119 5).trans rfl
theorem f_119_8 : fe0 119 8 = some (.invokevirtual 330, 3, 19, 1, 0, 2, 4231) := (pg_119 8).trans rfl
theorem f_119_11 : fe0 119 11 = some (.aload_n 0, 1, 0, 0, 0, 0, 0) := (pg_119 11).trans rfl
theorem f_119_12 : fe0 119 12 = some (.iconst 1, 1, 0, 0, 0, 0, 0) := (pg_119 12).trans rfl
theorem f_119_13 : fe0 119 13 = some (.putfield 22, 3, 8, 3, 2, 0, 2016) := (pg_119 13).trans rfl
theorem f_119_16 : fe0 119 16 = some (.aload_n 0, 1, 0, 0, 0, 0, 0) := (pg_119 16).trans rfl
theorem f_119_17 : fe0 119 17 = some (.getfield 12, 3, 8, 0, 1, 0, 2013) := (pg_119 17).trans rfl
theorem f_119_20 : fe0 119 20 = some (.getfield 151, 3, 2, 1, 0, 0, 1103) := (pg_119 20).trans rfl
theorem f_119_23 : fe0 119 23 = some (.ireturn, 1, 0, 0, 0, 0, 0) := (pg_119 23).trans rfl
theorem q_119_0 (d : Nat) (l0 : Nat) (μ : aMem) : Rn (d + 1) 119 (0, [.ref l0], [], μ) = if (mS μ l0).1 = 8 then (if (mS μ (mR μ l0 1)).1 = 2 ∧ (mR μ l0 1) < 999999 then ((cV d 19 [.ref (mR μ l0 1), .ref (mR μ l0 0)] μ).bind fun p2 => if (mS p2 l0).1 = 8 then (if (mS p2 (mR p2 l0 0)).1 = 2 then (some (some (.int (mF (setF p2 l0 3 1) (mR p2 l0 0) 1)), setF p2 l0 3 1)) else none) else none) else none) else none :=
  (e_nx f_119_0 rfl).trans ((e_gd f_119_1 rfl).trans (g_congr (Iff.rfl) (fun h1 => (e_nx f_119_4 rfl).trans ((e_gk f_119_5 (h1) rfl).trans ((e_gV (L := [.ref l0]) (st := [.ref (mR μ l0 0), .ref (mR μ l0 1)]) (μ := μ) (L' := [.ref l0]) (st' := []) f_119_8 rfl rfl).trans (g_congr (v_c2 rfl (Nat.le_of_ble_eq_true rfl)) (fun h3 => m_congr fun p2 => (e_nx f_119_11 rfl).trans ((e_nx (q := (_, _, .int 1 :: _, _)) f_119_12 rfl).trans ((e_gd (L := [.ref l0]) (st := [.int 1, .ref l0]) (μ := p2) f_119_13 rfl).trans (g_congr (pb_iff rfl (by decide)) (fun h4 => (e_nx f_119_16 rfl).trans ((e_gk f_119_17 (h4) rfl).trans ((e_gd f_119_20 rfl).trans (g_congr (Iff.rfl) (fun h5 => e_rt f_119_23 rfl)))))))))))))))
theorem pg_120 (pc : Nat) : fe0 120 pc = lk prg_120 pc := rfl
theorem f_120_0 : fe0 120 0 = some (.aload_n 0, 1, 0, 0, 0, 0, 0) := (pg_120 0).trans rfl
theorem f_120_1 : fe0 120 1 = some (.getfield 22, 3, 8, 3, 0, 0, 2016) := (pg_120 1).trans rfl
theorem f_120_4 : fe0 120 4 = some (.ifCond .ne 7, 3, 0, 0, 0, 0, 0) := (pg_120 4).trans rfl
theorem f_120_7 : fe0 120 7 = some (.ldc_w 329, 3, 0, 0, 3294967294, 0, 4222) := (pg_120 7).trans rfl
theorem f_120_10 : fe0 120 10 = some (.ireturn, 1, 0, 0, 0, 0, 0) := (pg_120 10).trans rfl
theorem f_120_11 : fe0 120 11 = some (.aload_n 0, 1, 0, 0, 0, 0, 0) := (pg_120 11).trans rfl
theorem f_120_12 : fe0 120 12 = some (.getfield 12, 3, 8, 0, 1, 0, 2013) := (pg_120 12).trans rfl
theorem f_120_15 : fe0 120 15 = some (.aload_n 0, 1, 0, 0, 0, 0, 0) := (pg_120 15).trans rfl
theorem f_120_16 : fe0 120 16 = some (.getfield 16, 3, 8, 1, 1, 0, 2014) := (pg_120 16).trans rfl
theorem f_120_19 : fe0 120 19 = some (.invokevirtual 330, 3, 19, 1, 0, 2, 4231) := (pg_120 19).trans rfl
theorem f_120_22 : fe0 120 22 = some (.aload_n 0, 1, 0, 0, 0, 0, 0) := (pg_120 22).trans rfl
theorem f_120_23 : fe0 120 23 = some (.getfield 12, 3, 8, 0, 1, 0, 2013) := (pg_120 23).trans rfl
theorem f_120_26 : fe0 120 26 = some (.getfield 151, 3, 2, 1, 0, 0, 1103) := (pg_120 26).trans rfl
theorem f_120_29 : fe0 120 29 = some (.ireturn, 1, 0, 0, 0, 0, 0) := (pg_120 29).trans rfl
theorem q_120_0 (d : Nat) (l0 : Nat) (μ : aMem) : Rn (d + 1) 120 (0, [.ref l0], [], μ) = if (mS μ l0).1 = 8 then (if (mF μ l0 3) = 0 then (some (some (.int (-1000000002)), μ)) else (if (mS μ (mR μ l0 0)).1 = 2 ∧ (mR μ l0 0) < 999999 then ((cV d 19 [.ref (mR μ l0 0), .ref (mR μ l0 1)] μ).bind fun p3 => if (mS p3 l0).1 = 8 then (if (mS p3 (mR p3 l0 0)).1 = 2 then (some (some (.int (mF p3 (mR p3 l0 0) 1)), p3)) else none) else none) else none)) else none :=
  (e_nx f_120_0 rfl).trans ((e_gd f_120_1 rfl).trans (g_congr (Iff.rfl) (fun h1 => (e_ne f_120_4 rfl).trans (b_congr (fun h2 => (e_nx (q := (_, _, .int (-1000000002) :: _, _)) f_120_7 rfl).trans (e_rt f_120_10 rfl)) (fun h2 => (e_nx f_120_11 rfl).trans ((e_gk f_120_12 (h1) rfl).trans ((e_nx f_120_15 rfl).trans ((e_gk f_120_16 (h1) rfl).trans ((e_gV (L := [.ref l0]) (st := [.ref (mR μ l0 1), .ref (mR μ l0 0)]) (μ := μ) (L' := [.ref l0]) (st' := []) f_120_19 rfl rfl).trans (g_congr (v_c2 rfl (Nat.le_of_ble_eq_true rfl)) (fun h4 => m_congr fun p3 => (e_nx f_120_22 rfl).trans ((e_gd f_120_23 rfl).trans (g_congr (Iff.rfl) (fun h5 => (e_gd f_120_26 rfl).trans (g_congr (Iff.rfl) (fun h6 => e_rt f_120_29 rfl))))))))))))))))
theorem pg_121 (pc : Nat) : fe0 121 pc = lk prg_121 pc := rfl
theorem f_121_0 : fe0 121 0 = some (.iload_n 1, 1, 0, 0, 0, 0, 0) := (pg_121 0).trans rfl
theorem f_121_1 : fe0 121 1 = some (.tableswitch 103 0 6 #[43, 51, 62, 77, 85, 90, 95], 43, 0, 0, 0, 0, 0) := (pg_121 1).trans rfl
theorem f_121_44 : fe0 121 44 = some (.aload_n 0, 1, 0, 0, 0, 0, 0) := (pg_121 44).trans rfl
theorem f_121_45 : fe0 121 45 = some (.getfield 12, 3, 8, 0, 1, 0, 2013) := (pg_121 45).trans rfl
theorem f_121_48 : fe0 121 48 = some (.getfield 151, 3, 2, 1, 0, 0, 1103) := (pg_121 48).trans rfl
theorem f_121_51 : fe0 121 51 = some (.ireturn, 1, 0, 0, 0, 0, 0) := (pg_121 51).trans rfl
theorem f_121_52 : fe0 121 52 = some (.aload_n 0, 1, 0, 0, 0, 0, 0) := (pg_121 52).trans rfl
theorem f_121_53 : fe0 121 53 = some (.getfield 12, 3, 8, 0, 1, 0, 2013) := (pg_121 53).trans rfl
theorem f_121_56 : fe0 121 56 = some (.getfield 130, 3, 2, 2, 1, 0, 1106) := (pg_121 56).trans rfl
theorem f_121_59 : fe0 121 59 = some (.getfield 140, 3, 0, 3, 0, 0, 1046) := (pg_121 59).trans rfl
theorem f_121_62 : fe0 121 62 = some (.ireturn, 1, 0, 0, 0, 0, 0) := (pg_121 62).trans rfl
theorem f_121_63 : fe0 121 63 = some (.aload_n 0, 1, 0, 0, 0, 0, 0) := (pg_121 63).trans rfl
theorem f_121_64 : fe0 121 64 = some (.getfield 29, 3, 8, 4, 1, 0, 2017) := (pg_121 64).trans rfl
theorem f_121_67 : fe0 121 67 = some (.aload_n 0, 1, 0, 0, 0, 0, 0) := (pg_121 67).trans rfl
theorem f_121_68 : fe0 121 68 = some (.getfield 12, 3, 8, 0, 1, 0, 2013) := (pg_121 68).trans rfl
theorem f_121_71 : fe0 121 71 = some (.invokevirtual 170, 3, 52, 1, 0, 4, 3007) := (pg_121 71).trans rfl
theorem f_121_74 : fe0 121 74 = some (.invokestatic 336, 3, 230, 1, 2, 0, 5017) := (pg_121 74).trans rfl
theorem f_121_77 : fe0 121 77 = some (.ireturn, 1, 0, 0, 0, 0, 0) := (pg_121 77).trans rfl
theorem f_121_78 : fe0 121 78 = some (.aload_n 0, 1, 0, 0, 0, 0, 0) := (pg_121 78).trans rfl
theorem f_121_79 : fe0 121 79 = some (.getfield 12, 3, 8, 0, 1, 0, 2013) := (pg_121 79).trans rfl
theorem f_121_82 : fe0 121 82 = some (.getfield 220, 3, 2, 4, 0, 0, 1109) := (pg_121 82).trans rfl
theorem f_121_85 : fe0 121 85 = some (.ireturn, 1, 0, 0, 0, 0, 0) := (pg_121 85).trans rfl
theorem f_121_86 : fe0 121 86 = some (.aload_n 0, 1, 0, 0, 0, 0, 0) := (pg_121 86).trans rfl
theorem f_121_87 : fe0 121 87 = some (.getfield 51, 3, 8, 9, 0, 0, 2022) := (pg_121 87).trans rfl
theorem f_121_90 : fe0 121 90 = some (.ireturn, 1, 0, 0, 0, 0, 0) := (pg_121 90).trans rfl
theorem f_121_91 : fe0 121 91 = some (.aload_n 0, 1, 0, 0, 0, 0, 0) := (pg_121 91).trans rfl
theorem f_121_92 : fe0 121 92 = some (.getfield 44, 3, 8, 7, 0, 0, 2020) := (pg_121 92).trans rfl
theorem f_121_95 : fe0 121 95 = some (.ireturn, 1, 0, 0, 0, 0, 0) := (pg_121 95).trans rfl
theorem f_121_96 : fe0 121 96 = some (.aload_n 0, 1, 0, 0, 0, 0, 0) := (pg_121 96).trans rfl
theorem f_121_97 : fe0 121 97 = some (.getfield 12, 3, 8, 0, 1, 0, 2013) := (pg_121 97).trans rfl
theorem f_121_100 : fe0 121 100 = some (.getfield 160, 3, 2, 6, 0, 0, 1113) := (pg_121 100).trans rfl
theorem f_121_103 : fe0 121 103 = some (.ireturn, 1, 0, 0, 0, 0, 0) := (pg_121 103).trans rfl
theorem f_121_104 : fe0 121 104 = some (.ldc 79, 2, 0, 0, 3294967295, 0, 2063) := (pg_121 104).trans rfl
theorem f_121_106 : fe0 121 106 = some (.ireturn, 1, 0, 0, 0, 0, 0) := (pg_121 106).trans rfl
theorem q_121_0 (d : Nat) (l0 : Nat) (x1 : Int32) (μ : aMem) : Rn (d + 1) 121 (0, [.ref l0, .int x1], [], μ) = if x1 = 0 then (if (mS μ l0).1 = 8 then (if (mS μ (mR μ l0 0)).1 = 2 then (some (some (.int (mF μ (mR μ l0 0) 1)), μ)) else none) else none) else (if x1 = 1 then (if (mS μ l0).1 = 8 then (if (mS μ (mR μ l0 0)).1 = 2 then (if (mS μ (mR μ (mR μ l0 0) 2)).1 = 0 then (some (some (.int (mF μ (mR μ (mR μ l0 0) 2) 3)), μ)) else none) else none) else none) else (if x1 = 2 then (if (mS μ l0).1 = 8 then (if (mS μ (mR μ l0 4)).1 = 4 ∧ (mR μ l0 4) < 999999 then ((cI d 52 [.ref (mR μ l0 4), .ref (mR μ l0 0)] μ).bind fun p7 => (cI d 230 [.int p7.1] p7.2).bind fun p9 => some (some (.int p9.1), p9.2)) else none) else none) else (if x1 = 3 then (if (mS μ l0).1 = 8 then (if (mS μ (mR μ l0 0)).1 = 2 then (some (some (.int (mF μ (mR μ l0 0) 4)), μ)) else none) else none) else (if x1 = 4 then (if (mS μ l0).1 = 8 then (some (some (.int (mF μ l0 9)), μ)) else none) else (if x1 = 5 then (if (mS μ l0).1 = 8 then (some (some (.int (mF μ l0 7)), μ)) else none) else (if x1 = 6 then (if (mS μ l0).1 = 8 then (if (mS μ (mR μ l0 0)).1 = 2 then (some (some (.int (mF μ (mR μ l0 0) 6)), μ)) else none) else none) else (some (some (.int (-1000000001)), μ)))))))) :=
  (e_nx f_121_0 rfl).trans ((e_tab f_121_1 (ts := [44, 52, 63, 78, 86, 91, 96]) (df := 104) (lo := 0) rfl rfl rfl (by decide) (by decide)).trans (b_congr (fun _ => (e_nx f_121_44 rfl).trans ((e_gd f_121_45 rfl).trans (g_congr (Iff.rfl) (fun h1 => (e_gd f_121_48 rfl).trans (g_congr (Iff.rfl) (fun h2 => e_rt f_121_51 rfl)))))) (fun _ => b_congr (fun _ => (e_nx f_121_52 rfl).trans ((e_gd f_121_53 rfl).trans (g_congr (Iff.rfl) (fun h3 => (e_gd f_121_56 rfl).trans (g_congr (Iff.rfl) (fun h4 => (e_gd f_121_59 rfl).trans (g_congr (Iff.rfl) (fun h5 => e_rt f_121_62 rfl)))))))) (fun _ => b_congr (fun _ => (e_nx f_121_63 rfl).trans ((e_gd f_121_64 rfl).trans (g_congr (Iff.rfl) (fun h6 => (e_nx f_121_67 rfl).trans ((e_gk f_121_68 (h6) rfl).trans ((e_gI (L := [.ref l0, .int x1]) (st := [.ref (mR μ l0 0), .ref (mR μ l0 4)]) (μ := μ) (L' := [.ref l0, .int x1]) (st' := []) f_121_71 rfl rfl).trans (g_congr (v_c2 rfl (Nat.le_of_ble_eq_true rfl)) (fun h8 => m_congr fun p7 => (e_cI (L := [.ref l0, .int x1]) (st := [.int p7.1]) (μ := p7.2) (L' := [.ref l0, .int x1]) (st' := []) f_121_74 rfl rfl).trans (m_congr fun p9 => e_rt f_121_77 rfl))))))))) (fun _ => b_congr (fun _ => (e_nx f_121_78 rfl).trans ((e_gd f_121_79 rfl).trans (g_congr (Iff.rfl) (fun h10 => (e_gd f_121_82 rfl).trans (g_congr (Iff.rfl) (fun h11 => e_rt f_121_85 rfl)))))) (fun _ => b_congr (fun _ => (e_nx f_121_86 rfl).trans ((e_gd f_121_87 rfl).trans (g_congr (Iff.rfl) (fun h12 => e_rt f_121_90 rfl)))) (fun _ => b_congr (fun _ => (e_nx f_121_91 rfl).trans ((e_gd f_121_92 rfl).trans (g_congr (Iff.rfl) (fun h13 => e_rt f_121_95 rfl)))) (fun _ => b_congr (fun _ => (e_nx f_121_96 rfl).trans ((e_gd f_121_97 rfl).trans (g_congr (Iff.rfl) (fun h14 => (e_gd f_121_100 rfl).trans (g_congr (Iff.rfl) (fun h15 => e_rt f_121_103 rfl)))))) (fun _ => (e_nx (q := (_, _, .int (-1000000001) :: _, _)) f_121_104 rfl).trans (e_rt f_121_106 rfl))))))))))
theorem pg_122 (pc : Nat) : fe0 122 pc = lk prg_122 pc := rfl
theorem f_122_0 : fe0 122 0 = some (.iload_n 0, 1, 0, 0, 0, 0, 0) := (pg_122 0).trans rfl
theorem f_122_1 : fe0 122 1 = some (.iload_n 1, 1, 0, 0, 0, 0, 0) := (pg_122 1).trans rfl
theorem f_122_2 : fe0 122 2 = some (.if_icmp .lt 12, 3, 0, 0, 0, 0, 0) := (pg_122 2).trans rfl
theorem f_122_5 : fe0 122 5 = some (.iload_n 0, 1, 0, 0, 0, 0, 0) := (pg_122 5).trans rfl
theorem f_122_6 : fe0 122 6 = some (.iload_n 2, 1, 0, 0, 0, 0, 0) := (pg_122 6).trans rfl
theorem f_122_7 : fe0 122 7 = some (.if_icmp .gt 7, 3, 0, 0, 0, 0, 0) := (pg_122 7).trans rfl
theorem f_122_10 : fe0 122 10 = some (.iconst 1, 1, 0, 0, 0, 0, 0) := (pg_122 10).trans rfl
theorem f_122_11 : fe0 122 11 = some (.goto 4, 3, 0, 0, 0, 0, 0) := (pg_122 11).trans rfl
theorem f_122_14 : fe0 122 14 = some (.iconst 0, 1, 0, 0, 0, 0, 0) := (pg_122 14).trans rfl
theorem f_122_15 : fe0 122 15 = some (.ireturn, 1, 1, 0, 0, 0, 0) := (pg_122 15).trans rfl
theorem q_122_0 (d : Nat) (x0 : Int32) (x1 : Int32) (x2 : Int32) (μ : aMem) : Rn d 122 (0, [.int x0, .int x1, .int x2], [], μ) = if x0 < x1 then (some (some (.int 0), μ)) else (if x2 < x0 then (some (some (.int 0), μ)) else (some (some (.int 1), μ))) :=
  (e_nx f_122_0 rfl).trans ((e_nx f_122_1 rfl).trans ((e_lt f_122_2 rfl).trans (b_congr (fun h1 => (e_nx (q := (_, _, .int 0 :: _, _)) f_122_14 rfl).trans (e_rt f_122_15 rfl)) (fun h1 => (e_nx f_122_5 rfl).trans ((e_nx f_122_6 rfl).trans ((e_gt f_122_7 rfl).trans (b_congr (fun h2 => (e_nx (q := (_, _, .int 0 :: _, _)) f_122_14 rfl).trans (e_rt f_122_15 rfl)) (fun h2 => (e_nx (q := (_, _, .int 1 :: _, _)) f_122_10 rfl).trans ((e_nx f_122_11 rfl).trans (e_rt f_122_15 rfl))))))))))
theorem pg_123 (pc : Nat) : fe0 123 pc = lk prg_123 pc := rfl
theorem f_123_0 : fe0 123 0 = some (.iload_n 0, 1, 0, 0, 0, 0, 0) := (pg_123 0).trans rfl
theorem f_123_1 : fe0 123 1 = some (.iload_n 1, 1, 0, 0, 0, 0, 0) := (pg_123 1).trans rfl
theorem f_123_2 : fe0 123 2 = some (.if_icmp .ge 7, 3, 0, 0, 0, 0, 0) := (pg_123 2).trans rfl
theorem f_123_5 : fe0 123 5 = some (.iload_n 1, 1, 0, 0, 0, 0, 0) := (pg_123 5).trans rfl
theorem f_123_6 : fe0 123 6 = some (.goto 13, 3, 0, 0, 0, 0, 0) := (pg_123 6).trans rfl
theorem f_123_9 : fe0 123 9 = some (.iload_n 0, 1, 0, 0, 0, 0, 0) := (pg_123 9).trans rfl
theorem f_123_10 : fe0 123 10 = some (.iload_n 2, 1, 0, 0, 0, 0, 0) := (pg_123 10).trans rfl
theorem f_123_11 : fe0 123 11 = some (.if_icmp .le 7, 3, 0, 0, 0, 0, 0) := (pg_123 11).trans rfl
theorem f_123_14 : fe0 123 14 = some (.iload_n 2, 1, 0, 0, 0, 0, 0) := (pg_123 14).trans rfl
theorem f_123_15 : fe0 123 15 = some (.goto 4, 3, 0, 0, 0, 0, 0) := (pg_123 15).trans rfl
theorem f_123_18 : fe0 123 18 = some (.iload_n 0, 1, 0, 0, 0, 0, 0) := (pg_123 18).trans rfl
theorem f_123_19 : fe0 123 19 = some (.ireturn, 1, 0, 0, 0, 0, 0) := (pg_123 19).trans rfl
theorem q_123_0 (d : Nat) (x0 : Int32) (x1 : Int32) (x2 : Int32) (μ : aMem) : Rn d 123 (0, [.int x0, .int x1, .int x2], [], μ) = if x1 ≤ x0 then (if x0 ≤ x2 then (some (some (.int x0), μ)) else (some (some (.int x2), μ))) else (some (some (.int x1), μ)) :=
  (e_nx f_123_0 rfl).trans ((e_nx f_123_1 rfl).trans ((e_ge f_123_2 rfl).trans (b_congr (fun h1 => (e_nx f_123_9 rfl).trans ((e_nx f_123_10 rfl).trans ((e_le f_123_11 rfl).trans (b_congr (fun h2 => (e_nx f_123_18 rfl).trans (e_rt f_123_19 rfl)) (fun h2 => (e_nx f_123_14 rfl).trans ((e_nx f_123_15 rfl).trans (e_rt f_123_19 rfl))))))) (fun h1 => (e_nx f_123_5 rfl).trans ((e_nx f_123_6 rfl).trans (e_rt f_123_19 rfl))))))
theorem pg_124 (pc : Nat) : fe0 124 pc = lk prg_124 pc := rfl
theorem f_124_0 : fe0 124 0 = some (.iload_n 0, 1, 0, 0, 0, 0, 0) := (pg_124 0).trans rfl
theorem f_124_1 : fe0 124 1 = some (.iconst 0, 1, 0, 0, 0, 0, 0) := (pg_124 1).trans rfl
theorem f_124_2 : fe0 124 2 = some (.iconst 5, 1, 0, 0, 0, 0, 0) := (pg_124 2).trans rfl
theorem f_124_3 : fe0 124 3 = some (.invokestatic 72, 3, 122, 3, 2, 0, 2057) := (pg_124 3).trans rfl
theorem f_124_6 : fe0 124 6 = some (.ireturn, 1, 1, 0, 0, 0, 0) := (pg_124 6).trans rfl
theorem q_124_0 (d : Nat) (x0 : Int32) (μ : aMem) : Rn (d + 1) 124 (0, [.int x0], [], μ) = (cI d 122 [.int x0, .int 0, .int 5] μ).bind fun p1 => if p1.1 = 0 ∨ p1.1 = 1 then some (some (.int p1.1), p1.2) else none :=
  (e_nx f_124_0 rfl).trans ((e_nx (q := (_, _, .int 0 :: _, _)) f_124_1 rfl).trans ((e_nx (q := (_, _, .int 5 :: _, _)) f_124_2 rfl).trans ((e_cI (L := [.int x0]) (st := [.int 5, .int 0, .int x0]) (μ := μ) (L' := [.int x0]) (st' := []) f_124_3 rfl rfl).trans (m_congr fun p1 => (e_rg f_124_6 rfl).trans (g_congr rt1_iff (fun _ => rfl))))))
theorem pg_125 (pc : Nat) : fe0 125 pc = lk prg_125 pc := rfl
theorem f_125_0 : fe0 125 0 = some (.iload_n 0, 1, 0, 0, 0, 0, 0) := (pg_125 0).trans rfl
theorem f_125_1 : fe0 125 1 = some (.iconst 0, 1, 0, 0, 0, 0, 0) := (pg_125 1).trans rfl
theorem f_125_2 : fe0 125 2 = some (.iconst 2, 1, 0, 0, 0, 0, 0) := (pg_125 2).trans rfl
theorem f_125_3 : fe0 125 3 = some (.invokestatic 72, 3, 122, 3, 2, 0, 2057) := (pg_125 3).trans rfl
theorem f_125_6 : fe0 125 6 = some (.ireturn, 1, 1, 0, 0, 0, 0) := (pg_125 6).trans rfl
theorem q_125_0 (d : Nat) (x0 : Int32) (μ : aMem) : Rn (d + 1) 125 (0, [.int x0], [], μ) = (cI d 122 [.int x0, .int 0, .int 2] μ).bind fun p1 => if p1.1 = 0 ∨ p1.1 = 1 then some (some (.int p1.1), p1.2) else none :=
  (e_nx f_125_0 rfl).trans ((e_nx (q := (_, _, .int 0 :: _, _)) f_125_1 rfl).trans ((e_nx (q := (_, _, .int 2 :: _, _)) f_125_2 rfl).trans ((e_cI (L := [.int x0]) (st := [.int 2, .int 0, .int x0]) (μ := μ) (L' := [.int x0]) (st' := []) f_125_3 rfl rfl).trans (m_congr fun p1 => (e_rg f_125_6 rfl).trans (g_congr rt1_iff (fun _ => rfl))))))
theorem pg_126 (pc : Nat) : fe0 126 pc = lk prg_126 pc := rfl
theorem f_126_0 : fe0 126 0 = some (.iload_n 1, 1, 0, 0, 0, 0, 0) := (pg_126 0).trans rfl
theorem f_126_1 : fe0 126 1 = some (.iconst 0, 1, 0, 0, 0, 0, 0) := (pg_126 1).trans rfl
theorem f_126_2 : fe0 126 2 = some (.iconst 3, 1, 0, 0, 0, 0, 0) := (pg_126 2).trans rfl
theorem f_126_3 : fe0 126 3 = some (.invokestatic 72, 3, 122, 3, 2, 0, 2057) := (pg_126 3).trans rfl
theorem f_126_6 : fe0 126 6 = some (.ifCond .eq 12, 3, 0, 0, 0, 0, 0) := (pg_126 6).trans rfl
theorem f_126_9 : fe0 126 9 = some (.aload_n 0, 1, 0, 0, 0, 0, 0) := (pg_126 9).trans rfl
theorem f_126_10 : fe0 126 10 = some (.getfield 56, 3, 8, 10, 1, 0, 2023) := (pg_126 10).trans rfl
theorem f_126_13 : fe0 126 13 = some (.iload_n 1, 1, 0, 0, 0, 0, 0) := (pg_126 13).trans rfl
theorem f_126_14 : fe0 126 14 = some (.aaload, 1, 0, 0, 0, 0, 0) := (pg_126 14).trans rfl
theorem f_126_15 : fe0 126 15 = some (.goto 4, 3, 0, 0, 0, 0, 0) := (pg_126 15).trans rfl
theorem f_126_18 : fe0 126 18 = some (.aconst_null, 1, 0, 0, 0, 0, 0) := (pg_126 18).trans rfl
theorem f_126_19 : fe0 126 19 = some (.areturn, 1, 0, 0, 0, 0, 0) := (pg_126 19).trans rfl
theorem q_126_0 (d : Nat) (l0 : Nat) (x1 : Int32) (μ : aMem) : Rn (d + 1) 126 (0, [.ref l0, .int x1], [], μ) = (cI d 122 [.int x1, .int 0, .int 3] μ).bind fun p1 => if p1.1 = 0 then (some (some (.ref 999999), p1.2)) else (if (mS p1.2 l0).1 = 8 then (if 12 ≤ (mS p1.2 (mR p1.2 l0 10)).1 ∧ (mS p1.2 (mR p1.2 l0 10)).1 < 16 ∧ inb x1 (mS p1.2 (mR p1.2 l0 10)).2 then (if (mR p1.2 (mR p1.2 l0 10) (ix x1)) ≤ 999999 then some (some (.ref (mR p1.2 (mR p1.2 l0 10) (ix x1))), p1.2) else none) else none) else none) :=
  (e_nx f_126_0 rfl).trans ((e_nx (q := (_, _, .int 0 :: _, _)) f_126_1 rfl).trans ((e_nx (q := (_, _, .int 3 :: _, _)) f_126_2 rfl).trans ((e_cI (L := [.ref l0, .int x1]) (st := [.int 3, .int 0, .int x1]) (μ := μ) (L' := [.ref l0, .int x1]) (st' := []) f_126_3 rfl rfl).trans (m_congr fun p1 => (e_eq f_126_6 rfl).trans (b_congr (fun h2 => (e_nx f_126_18 rfl).trans (e_rt f_126_19 rfl)) (fun h2 => (e_nx f_126_9 rfl).trans ((e_gd f_126_10 rfl).trans (g_congr (Iff.rfl) (fun h3 => (e_nx f_126_13 rfl).trans ((e_gd f_126_14 rfl).trans (g_congr (Iff.rfl) (fun h4 => (e_nx f_126_15 rfl).trans (e_rg f_126_19 rfl)))))))))))))
theorem pg_127 (pc : Nat) : fe0 127 pc = lk prg_127 pc := rfl
theorem f_127_0 : fe0 127 0 = some (.iload_n 1, 1, 0, 0, 0, 0, 0) := (pg_127 0).trans rfl
theorem f_127_1 : fe0 127 1 = some (.iconst 0, 1, 0, 0, 0, 0, 0) := (pg_127 1).trans rfl
theorem f_127_2 : fe0 127 2 = some (.iconst 4, 1, 0, 0, 0, 0, 0) := (pg_127 2).trans rfl
theorem f_127_3 : fe0 127 3 = some (.invokestatic 72, 3, 122, 3, 2, 0, 2057) := (pg_127 3).trans rfl
theorem f_127_6 : fe0 127 6 = some (.ifCond .eq 12, 3, 0, 0, 0, 0, 0) := (pg_127 6).trans rfl
theorem f_127_9 : fe0 127 9 = some (.aload_n 0, 1, 0, 0, 0, 0, 0) := (pg_127 9).trans rfl
theorem f_127_10 : fe0 127 10 = some (.getfield 63, 3, 8, 11, 1, 0, 2024) := (pg_127 10).trans rfl
theorem f_127_13 : fe0 127 13 = some (.iload_n 1, 1, 0, 0, 0, 0, 0) := (pg_127 13).trans rfl
theorem f_127_14 : fe0 127 14 = some (.aaload, 1, 0, 0, 0, 0, 0) := (pg_127 14).trans rfl
theorem f_127_15 : fe0 127 15 = some (.goto 4, 3, 0, 0, 0, 0, 0) := (pg_127 15).trans rfl
theorem f_127_18 : fe0 127 18 = some (.aconst_null, 1, 0, 0, 0, 0, 0) := (pg_127 18).trans rfl
theorem f_127_19 : fe0 127 19 = some (.areturn, 1, 0, 0, 0, 0, 0) := (pg_127 19).trans rfl
theorem q_127_0 (d : Nat) (l0 : Nat) (x1 : Int32) (μ : aMem) : Rn (d + 1) 127 (0, [.ref l0, .int x1], [], μ) = (cI d 122 [.int x1, .int 0, .int 4] μ).bind fun p1 => if p1.1 = 0 then (some (some (.ref 999999), p1.2)) else (if (mS p1.2 l0).1 = 8 then (if 12 ≤ (mS p1.2 (mR p1.2 l0 11)).1 ∧ (mS p1.2 (mR p1.2 l0 11)).1 < 16 ∧ inb x1 (mS p1.2 (mR p1.2 l0 11)).2 then (if (mR p1.2 (mR p1.2 l0 11) (ix x1)) ≤ 999999 then some (some (.ref (mR p1.2 (mR p1.2 l0 11) (ix x1))), p1.2) else none) else none) else none) :=
  (e_nx f_127_0 rfl).trans ((e_nx (q := (_, _, .int 0 :: _, _)) f_127_1 rfl).trans ((e_nx (q := (_, _, .int 4 :: _, _)) f_127_2 rfl).trans ((e_cI (L := [.ref l0, .int x1]) (st := [.int 4, .int 0, .int x1]) (μ := μ) (L' := [.ref l0, .int x1]) (st' := []) f_127_3 rfl rfl).trans (m_congr fun p1 => (e_eq f_127_6 rfl).trans (b_congr (fun h2 => (e_nx f_127_18 rfl).trans (e_rt f_127_19 rfl)) (fun h2 => (e_nx f_127_9 rfl).trans ((e_gd f_127_10 rfl).trans (g_congr (Iff.rfl) (fun h3 => (e_nx f_127_13 rfl).trans ((e_gd f_127_14 rfl).trans (g_congr (Iff.rfl) (fun h4 => (e_nx f_127_15 rfl).trans (e_rg f_127_19 rfl)))))))))))))
theorem pg_128 (pc : Nat) : fe0 128 pc = lk prg_128 pc := rfl
theorem f_128_0 : fe0 128 0 = some (.iload_n 1, 1, 0, 0, 0, 0, 0) := (pg_128 0).trans rfl
theorem f_128_1 : fe0 128 1 = some (.iload_n 2, 1, 0, 0, 0, 0, 0) := (pg_128 1).trans rfl
theorem f_128_2 : fe0 128 2 = some (.if_icmp .ge 23, 3, 0, 0, 0, 0, 0) := (pg_128 2).trans rfl
theorem f_128_5 : fe0 128 5 = some (.iload_n 1, 1, 0, 0, 0, 0, 0) := (pg_128 5).trans rfl
theorem f_128_6 : fe0 128 6 = some (.bipush 60, 2, 0, 0, 0, 0, 0) := (pg_128 6).trans rfl
theorem f_128_8 : fe0 128 8 = some (.if_icmp .ge 17, 3, 0, 0, 0, 0, 0) := (pg_128 8).trans rfl
theorem f_128_11 : fe0 128 11 = some (.aload_n 0, 1, 0, 0, 0, 0, 0) := (pg_128 11).trans rfl
theorem f_128_12 : fe0 128 12 = some (.getfield 48, 3, 8, 8, 1, 0, 2021) := (pg_128 12).trans rfl
theorem f_128_15 : fe0 128 15 = some (.iload_n 1, 1, 0, 0, 0, 0, 0) := (pg_128 15).trans rfl
theorem f_128_16 : fe0 128 16 = some (.iaload, 1, 0, 0, 0, 0, 0) := (pg_128 16).trans rfl
theorem f_128_17 : fe0 128 17 = some (.iload_n 3, 1, 0, 0, 0, 0, 0) := (pg_128 17).trans rfl
theorem f_128_18 : fe0 128 18 = some (.if_icmp .ne 7, 3, 0, 0, 0, 0, 0) := (pg_128 18).trans rfl
theorem f_128_21 : fe0 128 21 = some (.iconst 1, 1, 0, 0, 0, 0, 0) := (pg_128 21).trans rfl
theorem f_128_22 : fe0 128 22 = some (.goto 4, 3, 0, 0, 0, 0, 0) := (pg_128 22).trans rfl
theorem f_128_25 : fe0 128 25 = some (.iconst 0, 1, 0, 0, 0, 0, 0) := (pg_128 25).trans rfl
theorem f_128_26 : fe0 128 26 = some (.ireturn, 1, 1, 0, 0, 0, 0) := (pg_128 26).trans rfl
theorem q_128_0 (d : Nat) (l0 : Nat) (x1 : Int32) (x2 : Int32) (x3 : Int32) (μ : aMem) : Rn d 128 (0, [.ref l0, .int x1, .int x2, .int x3], [], μ) = if x2 ≤ x1 then (some (some (.int 0), μ)) else (if 60 ≤ x1 then (some (some (.int 0), μ)) else (if (mS μ l0).1 = 8 then ((rdI μ (mR μ l0 8) x1).bind fun v4 => if v4 = x3 then (some (some (.int 1), μ)) else (some (some (.int 0), μ))) else none)) :=
  (e_nx f_128_0 rfl).trans ((e_nx f_128_1 rfl).trans ((e_ge f_128_2 rfl).trans (b_congr (fun h1 => (e_nx (q := (_, _, .int 0 :: _, _)) f_128_25 rfl).trans (e_rt f_128_26 rfl)) (fun h1 => (e_nx f_128_5 rfl).trans ((e_nx (q := (_, _, .int 60 :: _, _)) f_128_6 rfl).trans ((e_ge f_128_8 rfl).trans (b_congr (fun h2 => (e_nx (q := (_, _, .int 0 :: _, _)) f_128_25 rfl).trans (e_rt f_128_26 rfl)) (fun h2 => (e_nx f_128_11 rfl).trans ((e_gd f_128_12 rfl).trans (g_congr (Iff.rfl) (fun h3 => (e_nx f_128_15 rfl).trans ((e_ia (L := [.ref l0, .int x1, .int x2, .int x3]) (r := []) (μ := μ) f_128_16).trans (m_congr fun v4 => (e_nx f_128_17 rfl).trans ((e_ne f_128_18 rfl).trans (b_congr (fun h5 => (e_nx (q := (_, _, .int 1 :: _, _)) f_128_21 rfl).trans ((e_nx f_128_22 rfl).trans (e_rt f_128_26 rfl))) (fun h5 => (e_nx (q := (_, _, .int 0 :: _, _)) f_128_25 rfl).trans (e_rt f_128_26 rfl)))))))))))))))))
theorem pg_129 (pc : Nat) : fe0 129 pc = lk prg_129 pc := rfl
theorem f_129_0 : fe0 129 0 = some (.bipush 24, 2, 0, 0, 0, 0, 0) := (pg_129 0).trans rfl
theorem f_129_2 : fe0 129 2 = some (.istore_n 2, 1, 0, 0, 0, 0, 0) := (pg_129 2).trans rfl
theorem f_129_3 : fe0 129 3 = some (.iload_n 2, 1, 0, 0, 0, 0, 0) := (pg_129 3).trans rfl
theorem f_129_4 : fe0 129 4 = some (.ifCond .lt 44, 3, 0, 0, 0, 0, 0) := (pg_129 4).trans rfl
theorem f_129_7 : fe0 129 7 = some (.aload_n 0, 1, 0, 0, 0, 0, 0) := (pg_129 7).trans rfl
theorem f_129_8 : fe0 129 8 = some (.getfield 44, 3, 8, 7, 0, 0, 2020) := (pg_129 8).trans rfl
theorem f_129_11 : fe0 129 11 = some (.bipush 96, 2, 0, 0, 0, 0, 0) := (pg_129 11).trans rfl
theorem f_129_13 : fe0 129 13 = some (.if_icmp .ge 35, 3, 0, 0, 0, 0, 0) := (pg_129 13).trans rfl
theorem f_129_16 : fe0 129 16 = some (.aload_n 0, 1, 0, 0, 0, 0, 0) := (pg_129 16).trans rfl
theorem f_129_17 : fe0 129 17 = some (.getfield 40, 3, 8, 6, 1, 0, 2019) := (pg_129 17).trans rfl
theorem f_129_20 : fe0 129 20 = some (.aload_n 0, 1, 0, 0, 0, 0, 0) := (pg_129 20).trans rfl
theorem f_129_21 : fe0 129 21 = some (.getfield 44, 3, 8, 7, 0, 0, 2020) := (pg_129 21).trans rfl
theorem f_129_24 : fe0 129 24 = some (.iload_n 1, 1, 0, 0, 0, 0, 0) := (pg_129 24).trans rfl
theorem f_129_25 : fe0 129 25 = some (.iload_n 2, 1, 0, 0, 0, 0, 0) := (pg_129 25).trans rfl
theorem f_129_26 : fe0 129 26 = some (.iushr, 1, 0, 0, 0, 0, 0) := (pg_129 26).trans rfl
theorem f_129_27 : fe0 129 27 = some (.sipush 255, 3, 0, 0, 0, 0, 0) := (pg_129 27).trans rfl
theorem f_129_30 : fe0 129 30 = some (.iand, 1, 0, 0, 0, 0, 0) := (pg_129 30).trans rfl
theorem f_129_31 : fe0 129 31 = some (.iastore, 1, 0, 0, 0, 0, 0) := (pg_129 31).trans rfl
theorem f_129_32 : fe0 129 32 = some (.aload_n 0, 1, 0, 0, 0, 0, 0) := (pg_129 32).trans rfl
theorem f_129_33 : fe0 129 33 = some (.dup, 1, 0, 0, 0, 0, 0) := (pg_129 33).trans rfl
theorem f_129_34 : fe0 129 34 = some (.getfield 44, 3, 8, 7, 0, 0, 2020) := (pg_129 34).trans rfl
theorem f_129_37 : fe0 129 37 = some (.iconst 1, 1, 0, 0, 0, 0, 0) := (pg_129 37).trans rfl
theorem f_129_38 : fe0 129 38 = some (.iadd, 1, 0, 0, 0, 0, 0) := (pg_129 38).trans rfl
theorem f_129_39 : fe0 129 39 = some (.putfield 44, 3, 8, 7, 0, 0, 2020) := (pg_129 39).trans rfl
theorem f_129_42 : fe0 129 42 = some (.iinc 2 (-8), 3, 0, 0, 0, 0, 0) := (pg_129 42).trans rfl
theorem f_129_45 : fe0 129 45 = some (.goto (-42), 3, 0, 0, 0, 0, 0) := (pg_129 45).trans rfl
theorem f_129_48 : fe0 129 48 = some (.return_, 1, 0, 0, 0, 0, 0) := (pg_129 48).trans rfl
theorem q_129_0 (d : Nat) (l0 : Nat) (x1 : Int32) (μ : aMem) : Rn d 129 (0, [.ref l0, .int x1, un], [], μ) = Rn d 129 (3, [.ref l0, .int x1, .int 24], [], μ) :=
  (e_nx (q := (_, _, .int 24 :: _, _)) f_129_0 rfl).trans (e_nx (q := (_, [.ref l0, .int x1, .int 24], _, _)) f_129_2 rfl)
theorem q_129_3 (d : Nat) (l0 : Nat) (x1 : Int32) (x2 : Int32) (μ : aMem) : Rn d 129 (3, [.ref l0, .int x1, .int x2], [], μ) = if x2 < 0 then (some (none, μ)) else (if (mS μ l0).1 = 8 then (if 96 ≤ (mF μ l0 7) then (some (none, μ)) else (if (mS μ (mR μ l0 6)).1 = 10 ∧ inb (mF μ l0 7) (mS μ (mR μ l0 6)).2 then (Rn d 129 (3, [.ref l0, .int x1, .int (x2 + (-8))], [], setF (setF μ (mR μ l0 6) (ix (mF μ l0 7)) ((((x1 : Int32).toUInt32 >>> ((x2 : Int32).toUInt32 &&& Int32.toUInt32 31)).toInt32) &&& 255)) l0 7 ((mF (setF μ (mR μ l0 6) (ix (mF μ l0 7)) ((((x1 : Int32).toUInt32 >>> ((x2 : Int32).toUInt32 &&& Int32.toUInt32 31)).toInt32) &&& 255)) l0 7) + 1))) else none)) else none) :=
  (e_nx f_129_3 rfl).trans ((e_lt f_129_4 rfl).trans (b_congr (fun h1 => e_rt f_129_48 rfl) (fun h1 => (e_nx f_129_7 rfl).trans ((e_gd f_129_8 rfl).trans (g_congr (Iff.rfl) (fun h2 => (e_nx (q := (_, _, .int 96 :: _, _)) f_129_11 rfl).trans ((e_ge f_129_13 rfl).trans (b_congr (fun h3 => e_rt f_129_48 rfl) (fun h3 => (e_nx f_129_16 rfl).trans ((e_gk f_129_17 (h2) rfl).trans ((e_nx f_129_20 rfl).trans ((e_gk f_129_21 (h2) rfl).trans ((e_nx f_129_24 rfl).trans ((e_nx f_129_25 rfl).trans ((e_nx f_129_26 rfl).trans ((e_nx (q := (_, _, .int 255 :: _, _)) f_129_27 rfl).trans ((e_nx f_129_30 rfl).trans ((e_gd f_129_31 rfl).trans (g_congr (Iff.rfl) (fun h4 => (e_nx f_129_32 rfl).trans ((e_nx f_129_33 rfl).trans ((e_gk f_129_34 (h2) rfl).trans ((e_nx (q := (_, _, .int 1 :: _, _)) f_129_37 rfl).trans ((e_nx f_129_38 rfl).trans ((e_gk (L := [.ref l0, .int x1, .int x2]) (st := [.int ((mF (setF μ (mR μ l0 6) (ix (mF μ l0 7)) ((((x1 : Int32).toUInt32 >>> ((x2 : Int32).toUInt32 &&& Int32.toUInt32 31)).toInt32) &&& 255)) l0 7) + 1), .ref l0]) (μ := setF μ (mR μ l0 6) (ix (mF μ l0 7)) ((((x1 : Int32).toUInt32 >>> ((x2 : Int32).toUInt32 &&& Int32.toUInt32 31)).toInt32) &&& 255)) f_129_39 ((pi_iff rfl).mpr h2) rfl).trans ((e_nx (q := (_, [.ref l0, .int x1, .int (x2 + (-8))], _, _)) f_129_42 rfl).trans (e_nx f_129_45 rfl)))))))))))))))))))))))))))
theorem pg_130 (pc : Nat) : fe0 130 pc = lk prg_130 pc := rfl
theorem f_130_0 : fe0 130 0 = some (.lload_n 0, 1, 0, 0, 0, 0, 0) := (pg_130 0).trans rfl
theorem f_130_1 : fe0 130 1 = some (.lload_n 2, 1, 0, 0, 0, 0, 0) := (pg_130 1).trans rfl
theorem f_130_2 : fe0 130 2 = some (.invokestatic 341, 3, 131, 2, 2, 0, 3072) := (pg_130 2).trans rfl
theorem f_130_5 : fe0 130 5 = some (.lstore 5, 2, 0, 0, 0, 0, 0) := (pg_130 5).trans rfl
theorem f_130_7 : fe0 130 7 = some (.lload 5, 2, 0, 0, 0, 0, 0) := (pg_130 7).trans rfl
theorem f_130_9 : fe0 130 9 = some (.lconst 0, 1, 0, 0, 0, 0, 0) := (pg_130 9).trans rfl
theorem f_130_10 : fe0 130 10 = some (.lcmp, 1, 0, 0, 0, 0, 0) := (pg_130 10).trans rfl
theorem f_130_11 : fe0 130 11 = some (.ifCond .gt 7, 3, 0, 0, 0, 0, 0) := (pg_130 11).trans rfl
theorem f_130_14 : fe0 130 14 = some (.ldc2_w 178, 3, 0, 0, 18446744072709551615, 0, 3041) := (pg_130 14).trans rfl
theorem f_130_17 : fe0 130 17 = some (.lreturn, 1, 0, 0, 0, 0, 0) := (pg_130 17).trans rfl
theorem f_130_18 : fe0 130 18 = some (.iload 4, 2, 0, 0, 0, 0, 0) := (pg_130 18).trans rfl
theorem f_130_20 : fe0 130 20 = some (.ifCond .ne 7, 3, 0, 0, 0, 0, 0) := (pg_130 20).trans rfl
theorem f_130_23 : fe0 130 23 = some (.lload_n 0, 1, 0, 0, 0, 0, 0) := (pg_130 23).trans rfl
theorem f_130_24 : fe0 130 24 = some (.goto 4, 3, 0, 0, 0, 0, 0) := (pg_130 24).trans rfl
theorem f_130_27 : fe0 130 27 = some (.lload_n 2, 1, 0, 0, 0, 0, 0) := (pg_130 27).trans rfl
theorem f_130_28 : fe0 130 28 = some (.lload 5, 2, 0, 0, 0, 0, 0) := (pg_130 28).trans rfl
theorem f_130_30 : fe0 130 30 = some (.ldiv, 1, 0, 0, 0, 0, 0) := (pg_130 30).trans rfl
theorem f_130_31 : fe0 130 31 = some (.lreturn, 1, 0, 0, 0, 0, 0) := (pg_130 31).trans rfl
theorem q_130_0 (d : Nat) (j0 : Int64) (j2 : Int64) (x4 : Int32) (μ : aMem) : Rn (d + 1) 130 (0, [.long j0, un, .long j2, un, .int x4, un, un], [], μ) = (cJ d 131 [.long j0, .long j2] μ).bind fun p1 => if 0 < (lg_cmp p1.1 0) then (if x4 = 0 then (if ¬ p1.1 = 0 then (some (some (.long (j0 / p1.1)), p1.2)) else none) else (if ¬ p1.1 = 0 then (some (some (.long (j2 / p1.1)), p1.2)) else none)) else (some (some (.long (-1000000001)), p1.2)) :=
  (e_nx f_130_0 rfl).trans ((e_nx f_130_1 rfl).trans ((e_cJ (L := [.long j0, un, .long j2, un, .int x4, un, un]) (st := [.long j2, .long j0]) (μ := μ) (L' := [.long j0, un, .long j2, un, .int x4, un, un]) (st' := []) f_130_2 rfl rfl).trans (m_congr fun p1 => (e_nx (q := (_, [.long j0, un, .long j2, un, .int x4, .long p1.1, un], _, _)) f_130_5 rfl).trans ((e_nx f_130_7 rfl).trans ((e_nx (q := (_, _, .long 0 :: _, _)) f_130_9 rfl).trans ((e_nx f_130_10 rfl).trans ((e_gt f_130_11 rfl).trans (b_congr (fun h2 => (e_nx f_130_18 rfl).trans ((e_ne f_130_20 rfl).trans (b_congr (fun h3 => (e_nx f_130_23 rfl).trans ((e_nx f_130_24 rfl).trans ((e_nx f_130_28 rfl).trans ((e_gd f_130_30 rfl).trans (g_congr (Iff.rfl) (fun h4 => e_rt f_130_31 rfl)))))) (fun h3 => (e_nx f_130_27 rfl).trans ((e_nx f_130_28 rfl).trans ((e_gd f_130_30 rfl).trans (g_congr (Iff.rfl) (fun h5 => e_rt f_130_31 rfl)))))))) (fun h2 => (e_nx (q := (_, _, .long (-1000000001) :: _, _)) f_130_14 rfl).trans (e_rt f_130_17 rfl))))))))))
theorem pg_131 (pc : Nat) : fe0 131 pc = lk prg_131 pc := rfl
theorem f_131_0 : fe0 131 0 = some (.lload_n 0, 1, 0, 0, 0, 0, 0) := (pg_131 0).trans rfl
theorem f_131_1 : fe0 131 1 = some (.lstore 4, 2, 0, 0, 0, 0, 0) := (pg_131 1).trans rfl
theorem f_131_3 : fe0 131 3 = some (.lload_n 2, 1, 0, 0, 0, 0, 0) := (pg_131 3).trans rfl
theorem f_131_4 : fe0 131 4 = some (.lstore 6, 2, 0, 0, 0, 0, 0) := (pg_131 4).trans rfl
theorem f_131_6 : fe0 131 6 = some (.iconst 0, 1, 0, 0, 0, 0, 0) := (pg_131 6).trans rfl
theorem f_131_7 : fe0 131 7 = some (.istore 8, 2, 0, 0, 0, 0, 0) := (pg_131 7).trans rfl
theorem f_131_9 : fe0 131 9 = some (.iload 8, 2, 0, 0, 0, 0, 0) := (pg_131 9).trans rfl
theorem f_131_11 : fe0 131 11 = some (.bipush 100, 2, 0, 0, 0, 0, 0) := (pg_131 11).trans rfl
theorem f_131_13 : fe0 131 13 = some (.if_icmp .ge 31, 3, 0, 0, 0, 0, 0) := (pg_131 13).trans rfl
theorem f_131_16 : fe0 131 16 = some (.lload 6, 2, 0, 0, 0, 0, 0) := (pg_131 16).trans rfl
theorem f_131_18 : fe0 131 18 = some (.lconst 0, 1, 0, 0, 0, 0, 0) := (pg_131 18).trans rfl
theorem f_131_19 : fe0 131 19 = some (.lcmp, 1, 0, 0, 0, 0, 0) := (pg_131 19).trans rfl
theorem f_131_20 : fe0 131 20 = some (.ifCond .eq 24, 3, 0, 0, 0, 0, 0) := (pg_131 20).trans rfl
theorem f_131_23 : fe0 131 23 = some (.lload 4, 2, 0, 0, 0, 0, 0) := (pg_131 23).trans rfl
theorem f_131_25 : fe0 131 25 = some (.lload 6, 2, 0, 0, 0, 0, 0) := (pg_131 25).trans rfl
theorem f_131_27 : fe0 131 27 = some (.lrem, 1, 0, 0, 0, 0, 0) := (pg_131 27).trans rfl
theorem f_131_28 : fe0 131 28 = some (.lstore 9, 2, 0, 0, 0, 0, 0) := (pg_131 28).trans rfl
theorem f_131_30 : fe0 131 30 = some (.lload 6, 2, 0, 0, 0, 0, 0) := (pg_131 30).trans rfl
theorem f_131_32 : fe0 131 32 = some (.lstore 4, 2, 0, 0, 0, 0, 0) := (pg_131 32).trans rfl
theorem f_131_34 : fe0 131 34 = some (.lload 9, 2, 0, 0, 0, 0, 0) := (pg_131 34).trans rfl
theorem f_131_36 : fe0 131 36 = some (.lstore 6, 2, 0, 0, 0, 0, 0) := (pg_131 36).trans rfl
theorem f_131_38 : fe0 131 38 = some (.iinc 8 1, 3, 0, 0, 0, 0, 0) := (pg_131 38).trans rfl
theorem f_131_41 : fe0 131 41 = some (.goto (-32), 3, 0, 0, 0, 0, 0) := (pg_131 41).trans rfl
theorem f_131_44 : fe0 131 44 = some (.lload 4, 2, 0, 0, 0, 0, 0) := (pg_131 44).trans rfl
theorem f_131_46 : fe0 131 46 = some (.lreturn, 1, 0, 0, 0, 0, 0) := (pg_131 46).trans rfl
theorem q_131_0 (d : Nat) (j0 : Int64) (j2 : Int64) (μ : aMem) : Rn d 131 (0, [.long j0, un, .long j2, un, un, un, un, un, un, un, un], [], μ) = Rn d 131 (9, [.long j0, un, .long j2, un, .long j0, un, .long j2, un, .int 0, un, un], [], μ) :=
  (e_nx f_131_0 rfl).trans ((e_nx (q := (_, [.long j0, un, .long j2, un, .long j0, un, un, un, un, un, un], _, _)) f_131_1 rfl).trans ((e_nx f_131_3 rfl).trans ((e_nx (q := (_, [.long j0, un, .long j2, un, .long j0, un, .long j2, un, un, un, un], _, _)) f_131_4 rfl).trans ((e_nx (q := (_, _, .int 0 :: _, _)) f_131_6 rfl).trans (e_nx (q := (_, [.long j0, un, .long j2, un, .long j0, un, .long j2, un, .int 0, un, un], _, _)) f_131_7 rfl)))))
theorem q_131_9 (d : Nat) (j0 : Int64) (j2 : Int64) (j4 : Int64) (j6 : Int64) (x8 : Int32) (w9 : Value) (w10 : Value) (μ : aMem) : Rn d 131 (9, [.long j0, un, .long j2, un, .long j4, un, .long j6, un, .int x8, w9, w10], [], μ) = if 100 ≤ x8 then (some (some (.long j4), μ)) else (if (lg_cmp j6 0) = 0 then (some (some (.long j4), μ)) else (if ¬ j6 = 0 then (Rn d 131 (9, [.long j0, un, .long j2, un, .long j6, un, .long (j4 - j4 / j6 * j6), un, .int (x8 + 1), .long (j4 - j4 / j6 * j6), un], [], μ)) else none)) :=
  (e_nx f_131_9 rfl).trans ((e_nx (q := (_, _, .int 100 :: _, _)) f_131_11 rfl).trans ((e_ge f_131_13 rfl).trans (b_congr (fun h1 => (e_nx f_131_44 rfl).trans (e_rt f_131_46 rfl)) (fun h1 => (e_nx f_131_16 rfl).trans ((e_nx (q := (_, _, .long 0 :: _, _)) f_131_18 rfl).trans ((e_nx f_131_19 rfl).trans ((e_eq f_131_20 rfl).trans (b_congr (fun h2 => (e_nx f_131_44 rfl).trans (e_rt f_131_46 rfl)) (fun h2 => (e_nx f_131_23 rfl).trans ((e_nx f_131_25 rfl).trans ((e_gd f_131_27 rfl).trans (g_congr (Iff.rfl) (fun h3 => (e_nx (q := (_, [.long j0, un, .long j2, un, .long j4, un, .long j6, un, .int x8, .long (j4 - j4 / j6 * j6), un], _, _)) f_131_28 rfl).trans ((e_nx f_131_30 rfl).trans ((e_nx (q := (_, [.long j0, un, .long j2, un, .long j6, un, .long j6, un, .int x8, .long (j4 - j4 / j6 * j6), un], _, _)) f_131_32 rfl).trans ((e_nx f_131_34 rfl).trans ((e_nx (q := (_, [.long j0, un, .long j2, un, .long j6, un, .long (j4 - j4 / j6 * j6), un, .int x8, .long (j4 - j4 / j6 * j6), un], _, _)) f_131_36 rfl).trans ((e_nx (q := (_, [.long j0, un, .long j2, un, .long j6, un, .long (j4 - j4 / j6 * j6), un, .int (x8 + 1), .long (j4 - j4 / j6 * j6), un], _, _)) f_131_38 rfl).trans (e_nx f_131_41 rfl)))))))))))))))))))
theorem pg_132 (pc : Nat) : fe0 132 pc = lk prg_132 pc := rfl
theorem f_132_0 : fe0 132 0 = some (.aload_n 0, 1, 0, 0, 0, 0, 0) := (pg_132 0).trans rfl
theorem f_132_1 : fe0 132 1 = some (.invokespecial 1, 3, 0, 0, 6, 0, 5023) := (pg_132 1).trans rfl
theorem f_132_4 : fe0 132 4 = some (.aload_n 0, 1, 0, 0, 0, 0, 0) := (pg_132 4).trans rfl
theorem f_132_5 : fe0 132 5 = some (.sipush 3114, 3, 0, 0, 0, 0, 0) := (pg_132 5).trans rfl
theorem f_132_8 : fe0 132 8 = some (.newarray .int, 2, 10, 0, 0, 0, 0) := (pg_132 8).trans rfl
theorem f_132_10 : fe0 132 10 = some (.putfield 7, 3, 9, 0, 1, 0, 5024) := (pg_132 10).trans rfl
theorem f_132_13 : fe0 132 13 = some (.aload_n 0, 1, 0, 0, 0, 0, 0) := (pg_132 13).trans rfl
theorem f_132_14 : fe0 132 14 = some (.sipush 3114, 3, 0, 0, 0, 0, 0) := (pg_132 14).trans rfl
theorem f_132_17 : fe0 132 17 = some (.newarray .int, 2, 10, 0, 0, 0, 0) := (pg_132 17).trans rfl
theorem f_132_19 : fe0 132 19 = some (.putfield 13, 3, 9, 1, 1, 0, 5025) := (pg_132 19).trans rfl
theorem f_132_22 : fe0 132 22 = some (.aload_n 0, 1, 0, 0, 0, 0, 0) := (pg_132 22).trans rfl
theorem f_132_23 : fe0 132 23 = some (.sipush 3114, 3, 0, 0, 0, 0, 0) := (pg_132 23).trans rfl
theorem f_132_26 : fe0 132 26 = some (.newarray .int, 2, 10, 0, 0, 0, 0) := (pg_132 26).trans rfl
theorem f_132_28 : fe0 132 28 = some (.putfield 16, 3, 9, 2, 1, 0, 5026) := (pg_132 28).trans rfl
theorem f_132_31 : fe0 132 31 = some (.aload_n 0, 1, 0, 0, 0, 0, 0) := (pg_132 31).trans rfl
theorem f_132_32 : fe0 132 32 = some (.iconst 4, 1, 0, 0, 0, 0, 0) := (pg_132 32).trans rfl
theorem f_132_33 : fe0 132 33 = some (.newarray .int, 2, 10, 0, 0, 0, 0) := (pg_132 33).trans rfl
theorem f_132_35 : fe0 132 35 = some (.putfield 19, 3, 9, 4, 1, 0, 5028) := (pg_132 35).trans rfl
theorem f_132_38 : fe0 132 38 = some (.aload_n 0, 1, 0, 0, 0, 0, 0) := (pg_132 38).trans rfl
theorem f_132_39 : fe0 132 39 = some (.iconst 4, 1, 0, 0, 0, 0, 0) := (pg_132 39).trans rfl
theorem f_132_40 : fe0 132 40 = some (.newarray .int, 2, 10, 0, 0, 0, 0) := (pg_132 40).trans rfl
theorem f_132_42 : fe0 132 42 = some (.putfield 22, 3, 9, 5, 1, 0, 5029) := (pg_132 42).trans rfl
theorem f_132_45 : fe0 132 45 = some (.aload_n 0, 1, 0, 0, 0, 0, 0) := (pg_132 45).trans rfl
theorem f_132_46 : fe0 132 46 = some (.bipush 96, 2, 0, 0, 0, 0, 0) := (pg_132 46).trans rfl
theorem f_132_48 : fe0 132 48 = some (.newarray .int, 2, 10, 0, 0, 0, 0) := (pg_132 48).trans rfl
theorem f_132_50 : fe0 132 50 = some (.putfield 25, 3, 9, 6, 1, 0, 5030) := (pg_132 50).trans rfl
theorem f_132_53 : fe0 132 53 = some (.aload_n 0, 1, 0, 0, 0, 0, 0) := (pg_132 53).trans rfl
theorem f_132_54 : fe0 132 54 = some (.iconst 5, 1, 0, 0, 0, 0, 0) := (pg_132 54).trans rfl
theorem f_132_55 : fe0 132 55 = some (.newarray .int, 2, 10, 0, 0, 0, 0) := (pg_132 55).trans rfl
theorem f_132_57 : fe0 132 57 = some (.putfield 28, 3, 9, 7, 1, 0, 5031) := (pg_132 57).trans rfl
theorem f_132_60 : fe0 132 60 = some (.aload_n 0, 1, 0, 0, 0, 0, 0) := (pg_132 60).trans rfl
theorem f_132_61 : fe0 132 61 = some (.iconst 5, 1, 0, 0, 0, 0, 0) := (pg_132 61).trans rfl
theorem f_132_62 : fe0 132 62 = some (.newarray .int, 2, 10, 0, 0, 0, 0) := (pg_132 62).trans rfl
theorem f_132_64 : fe0 132 64 = some (.putfield 31, 3, 9, 8, 1, 0, 5032) := (pg_132 64).trans rfl
theorem f_132_67 : fe0 132 67 = some (.aload_n 0, 1, 0, 0, 0, 0, 0) := (pg_132 67).trans rfl
theorem f_132_68 : fe0 132 68 = some (.iconst 5, 1, 0, 0, 0, 0, 0) := (pg_132 68).trans rfl
theorem f_132_69 : fe0 132 69 = some (.newarray .int, 2, 10, 0, 0, 0, 0) := (pg_132 69).trans rfl
theorem f_132_71 : fe0 132 71 = some (.putfield 34, 3, 9, 9, 1, 0, 5033) := (pg_132 71).trans rfl
theorem f_132_74 : fe0 132 74 = some (.aload_n 0, 1, 0, 0, 0, 0, 0) := (pg_132 74).trans rfl
theorem f_132_75 : fe0 132 75 = some (.iconst 5, 1, 0, 0, 0, 0, 0) := (pg_132 75).trans rfl
theorem f_132_76 : fe0 132 76 = some (.newarray .int, 2, 10, 0, 0, 0, 0) := (pg_132 76).trans rfl
theorem f_132_78 : fe0 132 78 = some (.putfield 37, 3, 9, 10, 1, 0, 5034) := (pg_132 78).trans rfl
theorem f_132_81 : fe0 132 81 = some (.aload_n 0, 1, 0, 0, 0, 0, 0) := (pg_132 81).trans rfl
theorem f_132_82 : fe0 132 82 = some (.bipush 120, 2, 0, 0, 0, 0, 0) := (pg_132 82).trans rfl
theorem f_132_84 : fe0 132 84 = some (.newarray .int, 2, 10, 0, 0, 0, 0) := (pg_132 84).trans rfl
theorem f_132_86 : fe0 132 86 = some (.putfield 40, 3, 9, 11, 1, 0, 5035) := (pg_132 86).trans rfl
theorem f_132_89 : fe0 132 89 = some (.aload_n 0, 1, 0, 0, 0, 0, 0) := (pg_132 89).trans rfl
theorem f_132_90 : fe0 132 90 = some (.bipush 10, 2, 0, 0, 0, 0, 0) := (pg_132 90).trans rfl
theorem f_132_92 : fe0 132 92 = some (.newarray .int, 2, 10, 0, 0, 0, 0) := (pg_132 92).trans rfl
theorem f_132_94 : fe0 132 94 = some (.putfield 43, 3, 9, 12, 1, 0, 5036) := (pg_132 94).trans rfl
theorem f_132_97 : fe0 132 97 = some (.aload_n 0, 1, 0, 0, 0, 0, 0) := (pg_132 97).trans rfl
theorem f_132_98 : fe0 132 98 = some (.bipush 10, 2, 0, 0, 0, 0, 0) := (pg_132 98).trans rfl
theorem f_132_100 : fe0 132 100 = some (.newarray .int, 2, 10, 0, 0, 0, 0) := (pg_132 100).trans rfl
theorem f_132_102 : fe0 132 102 = some (.putfield 46, 3, 9, 13, 1, 0, 5037) := (pg_132 102).trans rfl
theorem f_132_105 : fe0 132 105 = some (.aload_n 0, 1, 0, 0, 0, 0, 0) := (pg_132 105).trans rfl
theorem f_132_106 : fe0 132 106 = some (.bipush 10, 2, 0, 0, 0, 0, 0) := (pg_132 106).trans rfl
theorem f_132_108 : fe0 132 108 = some (.newarray .int, 2, 10, 0, 0, 0, 0) := (pg_132 108).trans rfl
theorem f_132_110 : fe0 132 110 = some (.putfield 49, 3, 9, 14, 1, 0, 5038) := (pg_132 110).trans rfl
theorem f_132_113 : fe0 132 113 = some (.aload_n 0, 1, 0, 0, 0, 0, 0) := (pg_132 113).trans rfl
theorem f_132_114 : fe0 132 114 = some (.bipush 10, 2, 0, 0, 0, 0, 0) := (pg_132 114).trans rfl
theorem f_132_116 : fe0 132 116 = some (.newarray .int, 2, 10, 0, 0, 0, 0) := (pg_132 116).trans rfl
theorem f_132_118 : fe0 132 118 = some (.putfield 52, 3, 9, 15, 1, 0, 5039) := (pg_132 118).trans rfl
theorem f_132_121 : fe0 132 121 = some (.aload_n 0, 1, 0, 0, 0, 0, 0) := (pg_132 121).trans rfl
theorem f_132_122 : fe0 132 122 = some (.bipush 10, 2, 0, 0, 0, 0, 0) := (pg_132 122).trans rfl
theorem f_132_124 : fe0 132 124 = some (.newarray .int, 2, 10, 0, 0, 0, 0) := (pg_132 124).trans rfl
theorem f_132_126 : fe0 132 126 = some (.putfield 55, 3, 9, 16, 1, 0, 5040) := (pg_132 126).trans rfl
theorem f_132_129 : fe0 132 129 = some (.aload_n 0, 1, 0, 0, 0, 0, 0) := (pg_132 129).trans rfl
theorem f_132_130 : fe0 132 130 = some (.sipush 4000, 3, 0, 0, 0, 0, 0) := (pg_132 130).trans rfl
theorem f_132_133 : fe0 132 133 = some (.newarray .long, 2, 11, 0, 0, 0, 0) := (pg_132 133).trans rfl
theorem f_132_135 : fe0 132 135 = some (.putfield 58, 3, 9, 17, 1, 0, 5041) := (pg_132 135).trans rfl
theorem f_132_138 : fe0 132 138 = some (.aload_n 0, 1, 0, 0, 0, 0, 0) := (pg_132 138).trans rfl
theorem f_132_139 : fe0 132 139 = some (.bipush 96, 2, 0, 0, 0, 0, 0) := (pg_132 139).trans rfl
theorem f_132_141 : fe0 132 141 = some (.newarray .int, 2, 10, 0, 0, 0, 0) := (pg_132 141).trans rfl
theorem f_132_143 : fe0 132 143 = some (.putfield 62, 3, 9, 19, 1, 0, 5043) := (pg_132 143).trans rfl
theorem f_132_146 : fe0 132 146 = some (.aload_n 0, 1, 0, 0, 0, 0, 0) := (pg_132 146).trans rfl
theorem f_132_147 : fe0 132 147 = some (.sipush 128, 3, 0, 0, 0, 0, 0) := (pg_132 147).trans rfl
theorem f_132_150 : fe0 132 150 = some (.newarray .int, 2, 10, 0, 0, 0, 0) := (pg_132 150).trans rfl
theorem f_132_152 : fe0 132 152 = some (.putfield 65, 3, 9, 31, 1, 0, 5055) := (pg_132 152).trans rfl
theorem f_132_155 : fe0 132 155 = some (.aload_n 0, 1, 0, 0, 0, 0, 0) := (pg_132 155).trans rfl
theorem f_132_156 : fe0 132 156 = some (.bipush 100, 2, 0, 0, 0, 0, 0) := (pg_132 156).trans rfl
theorem f_132_158 : fe0 132 158 = some (.newarray .int, 2, 10, 0, 0, 0, 0) := (pg_132 158).trans rfl
theorem f_132_160 : fe0 132 160 = some (.putfield 68, 3, 9, 32, 1, 0, 5056) := (pg_132 160).trans rfl
theorem f_132_163 : fe0 132 163 = some (.aload_n 0, 1, 0, 0, 0, 0, 0) := (pg_132 163).trans rfl
theorem f_132_164 : fe0 132 164 = some (.bipush 24, 2, 0, 0, 0, 0, 0) := (pg_132 164).trans rfl
theorem f_132_166 : fe0 132 166 = some (.newarray .int, 2, 10, 0, 0, 0, 0) := (pg_132 166).trans rfl
theorem f_132_168 : fe0 132 168 = some (.putfield 71, 3, 9, 33, 1, 0, 5057) := (pg_132 168).trans rfl
theorem f_132_171 : fe0 132 171 = some (.aload_n 0, 1, 0, 0, 0, 0, 0) := (pg_132 171).trans rfl
theorem f_132_172 : fe0 132 172 = some (.bipush 24, 2, 0, 0, 0, 0, 0) := (pg_132 172).trans rfl
theorem f_132_174 : fe0 132 174 = some (.newarray .int, 2, 10, 0, 0, 0, 0) := (pg_132 174).trans rfl
theorem f_132_176 : fe0 132 176 = some (.putfield 74, 3, 9, 34, 1, 0, 5058) := (pg_132 176).trans rfl
theorem f_132_179 : fe0 132 179 = some (.aload_n 0, 1, 0, 0, 0, 0, 0) := (pg_132 179).trans rfl
theorem f_132_180 : fe0 132 180 = some (.bipush 60, 2, 0, 0, 0, 0, 0) := (pg_132 180).trans rfl
theorem f_132_182 : fe0 132 182 = some (.newarray .int, 2, 10, 0, 0, 0, 0) := (pg_132 182).trans rfl
theorem f_132_184 : fe0 132 184 = some (.putfield 77, 3, 9, 35, 1, 0, 5059) := (pg_132 184).trans rfl
theorem f_132_187 : fe0 132 187 = some (.aload_n 0, 1, 0, 0, 0, 0, 0) := (pg_132 187).trans rfl
theorem f_132_188 : fe0 132 188 = some (.bipush 60, 2, 0, 0, 0, 0, 0) := (pg_132 188).trans rfl
theorem f_132_190 : fe0 132 190 = some (.newarray .int, 2, 10, 0, 0, 0, 0) := (pg_132 190).trans rfl
theorem f_132_192 : fe0 132 192 = some (.putfield 80, 3, 9, 37, 1, 0, 5061) := (pg_132 192).trans rfl
theorem f_132_195 : fe0 132 195 = some (.aload_n 0, 1, 0, 0, 0, 0, 0) := (pg_132 195).trans rfl
theorem f_132_196 : fe0 132 196 = some (.getfield 7, 3, 9, 0, 1, 0, 5024) := (pg_132 196).trans rfl
theorem f_132_199 : fe0 132 199 = some (.iconst 3, 1, 0, 0, 0, 0, 0) := (pg_132 199).trans rfl
theorem f_132_200 : fe0 132 200 = some (.iconst 1, 1, 0, 0, 0, 0, 0) := (pg_132 200).trans rfl
theorem f_132_201 : fe0 132 201 = some (.iastore, 1, 0, 0, 0, 0, 0) := (pg_132 201).trans rfl
theorem f_132_202 : fe0 132 202 = some (.iconst 0, 1, 0, 0, 0, 0, 0) := (pg_132 202).trans rfl
theorem f_132_203 : fe0 132 203 = some (.istore_n 1, 1, 0, 0, 0, 0, 0) := (pg_132 203).trans rfl
theorem f_132_204 : fe0 132 204 = some (.iload_n 1, 1, 0, 0, 0, 0, 0) := (pg_132 204).trans rfl
theorem f_132_205 : fe0 132 205 = some (.iconst 4, 1, 0, 0, 0, 0, 0) := (pg_132 205).trans rfl
theorem f_132_206 : fe0 132 206 = some (.if_icmp .ge 16, 3, 0, 0, 0, 0, 0) := (pg_132 206).trans rfl
theorem f_132_209 : fe0 132 209 = some (.aload_n 0, 1, 0, 0, 0, 0, 0) := (pg_132 209).trans rfl
theorem f_132_210 : fe0 132 210 = some (.getfield 19, 3, 9, 4, 1, 0, 5028) := (pg_132 210).trans rfl
theorem f_132_213 : fe0 132 213 = some (.iload_n 1, 1, 0, 0, 0, 0, 0) := (pg_132 213).trans rfl
theorem f_132_214 : fe0 132 214 = some (.iconst (-1), 1, 0, 0, 0, 0, 0) := (pg_132 214).trans rfl
theorem f_132_215 : fe0 132 215 = some (.iastore, 1, 0, 0, 0, 0, 0) := (pg_132 215).trans rfl
theorem f_132_216 : fe0 132 216 = some (.iinc 1 1, 3, 0, 0, 0, 0, 0) := (pg_132 216).trans rfl
theorem f_132_219 : fe0 132 219 = some (.goto (-15), 3, 0, 0, 0, 0, 0) := (pg_132 219).trans rfl
theorem f_132_222 : fe0 132 222 = some (.return_, 1, 0, 0, 0, 0, 0) := (pg_132 222).trans rfl
theorem q_132_0 (d : Nat) (l0 : Nat) (μ : aMem) : Rn d 132 (0, [.ref l0, un], [], μ) = if l0 < 999999 then (if mN μ < 900000 then (if (mS (newC μ 10 (ix 3114)) l0).1 = 9 ∧ (mN μ) ≤ 999999 then (Rn d 132 (13, [.ref l0, un], [], setR (newC μ 10 (ix 3114)) l0 0 (mN μ))) else none) else none) else none :=
  (e_nx f_132_0 rfl).trans ((e_gd (L := [.ref l0, un]) (st := [.ref l0]) (μ := μ) f_132_1 rfl).trans (g_congr (oi_iff (Nat.le_of_ble_eq_true rfl)) (fun h1 => (e_nx f_132_4 rfl).trans ((e_nx (q := (_, _, .int 3114 :: _, _)) f_132_5 rfl).trans ((e_gd (L := [.ref l0, un]) (st := [.int 3114, .ref l0]) (μ := μ) f_132_8 rfl).trans (g_congr (na_iff (by decide)) (fun h2 => (e_gd f_132_10 rfl).trans (g_congr (pr_iff rfl) (fun h3 => rfl)))))))))
theorem q_132_13 (d : Nat) (l0 : Nat) (w1 : Value) (μ : aMem) : Rn d 132 (13, [.ref l0, w1], [], μ) = if mN μ < 900000 then (if (mS (newC μ 10 (ix 3114)) l0).1 = 9 ∧ (mN μ) ≤ 999999 then (Rn d 132 (22, [.ref l0, w1], [], setR (newC μ 10 (ix 3114)) l0 1 (mN μ))) else none) else none :=
  (e_nx f_132_13 rfl).trans ((e_nx (q := (_, _, .int 3114 :: _, _)) f_132_14 rfl).trans ((e_gd (L := [.ref l0, w1]) (st := [.int 3114, .ref l0]) (μ := μ) f_132_17 rfl).trans (g_congr (na_iff (by decide)) (fun h1 => (e_gd f_132_19 rfl).trans (g_congr (pr_iff rfl) (fun h2 => rfl))))))
theorem q_132_22 (d : Nat) (l0 : Nat) (w1 : Value) (μ : aMem) : Rn d 132 (22, [.ref l0, w1], [], μ) = if mN μ < 900000 then (if (mS (newC μ 10 (ix 3114)) l0).1 = 9 ∧ (mN μ) ≤ 999999 then (Rn d 132 (31, [.ref l0, w1], [], setR (newC μ 10 (ix 3114)) l0 2 (mN μ))) else none) else none :=
  (e_nx f_132_22 rfl).trans ((e_nx (q := (_, _, .int 3114 :: _, _)) f_132_23 rfl).trans ((e_gd (L := [.ref l0, w1]) (st := [.int 3114, .ref l0]) (μ := μ) f_132_26 rfl).trans (g_congr (na_iff (by decide)) (fun h1 => (e_gd f_132_28 rfl).trans (g_congr (pr_iff rfl) (fun h2 => rfl))))))
theorem q_132_31 (d : Nat) (l0 : Nat) (w1 : Value) (μ : aMem) : Rn d 132 (31, [.ref l0, w1], [], μ) = if mN μ < 900000 then (if (mS (newC μ 10 (ix 4)) l0).1 = 9 ∧ (mN μ) ≤ 999999 then (Rn d 132 (38, [.ref l0, w1], [], setR (newC μ 10 (ix 4)) l0 4 (mN μ))) else none) else none :=
  (e_nx f_132_31 rfl).trans ((e_nx (q := (_, _, .int 4 :: _, _)) f_132_32 rfl).trans ((e_gd (L := [.ref l0, w1]) (st := [.int 4, .ref l0]) (μ := μ) f_132_33 rfl).trans (g_congr (na_iff (by decide)) (fun h1 => (e_gd f_132_35 rfl).trans (g_congr (pr_iff rfl) (fun h2 => rfl))))))
theorem q_132_38 (d : Nat) (l0 : Nat) (w1 : Value) (μ : aMem) : Rn d 132 (38, [.ref l0, w1], [], μ) = if mN μ < 900000 then (if (mS (newC μ 10 (ix 4)) l0).1 = 9 ∧ (mN μ) ≤ 999999 then (Rn d 132 (45, [.ref l0, w1], [], setR (newC μ 10 (ix 4)) l0 5 (mN μ))) else none) else none :=
  (e_nx f_132_38 rfl).trans ((e_nx (q := (_, _, .int 4 :: _, _)) f_132_39 rfl).trans ((e_gd (L := [.ref l0, w1]) (st := [.int 4, .ref l0]) (μ := μ) f_132_40 rfl).trans (g_congr (na_iff (by decide)) (fun h1 => (e_gd f_132_42 rfl).trans (g_congr (pr_iff rfl) (fun h2 => rfl))))))
theorem q_132_45 (d : Nat) (l0 : Nat) (w1 : Value) (μ : aMem) : Rn d 132 (45, [.ref l0, w1], [], μ) = if mN μ < 900000 then (if (mS (newC μ 10 (ix 96)) l0).1 = 9 ∧ (mN μ) ≤ 999999 then (Rn d 132 (53, [.ref l0, w1], [], setR (newC μ 10 (ix 96)) l0 6 (mN μ))) else none) else none :=
  (e_nx f_132_45 rfl).trans ((e_nx (q := (_, _, .int 96 :: _, _)) f_132_46 rfl).trans ((e_gd (L := [.ref l0, w1]) (st := [.int 96, .ref l0]) (μ := μ) f_132_48 rfl).trans (g_congr (na_iff (by decide)) (fun h1 => (e_gd f_132_50 rfl).trans (g_congr (pr_iff rfl) (fun h2 => rfl))))))
theorem q_132_53 (d : Nat) (l0 : Nat) (w1 : Value) (μ : aMem) : Rn d 132 (53, [.ref l0, w1], [], μ) = if mN μ < 900000 then (if (mS (newC μ 10 (ix 5)) l0).1 = 9 ∧ (mN μ) ≤ 999999 then (Rn d 132 (60, [.ref l0, w1], [], setR (newC μ 10 (ix 5)) l0 7 (mN μ))) else none) else none :=
  (e_nx f_132_53 rfl).trans ((e_nx (q := (_, _, .int 5 :: _, _)) f_132_54 rfl).trans ((e_gd (L := [.ref l0, w1]) (st := [.int 5, .ref l0]) (μ := μ) f_132_55 rfl).trans (g_congr (na_iff (by decide)) (fun h1 => (e_gd f_132_57 rfl).trans (g_congr (pr_iff rfl) (fun h2 => rfl))))))
theorem q_132_60 (d : Nat) (l0 : Nat) (w1 : Value) (μ : aMem) : Rn d 132 (60, [.ref l0, w1], [], μ) = if mN μ < 900000 then (if (mS (newC μ 10 (ix 5)) l0).1 = 9 ∧ (mN μ) ≤ 999999 then (Rn d 132 (67, [.ref l0, w1], [], setR (newC μ 10 (ix 5)) l0 8 (mN μ))) else none) else none :=
  (e_nx f_132_60 rfl).trans ((e_nx (q := (_, _, .int 5 :: _, _)) f_132_61 rfl).trans ((e_gd (L := [.ref l0, w1]) (st := [.int 5, .ref l0]) (μ := μ) f_132_62 rfl).trans (g_congr (na_iff (by decide)) (fun h1 => (e_gd f_132_64 rfl).trans (g_congr (pr_iff rfl) (fun h2 => rfl))))))
theorem q_132_67 (d : Nat) (l0 : Nat) (w1 : Value) (μ : aMem) : Rn d 132 (67, [.ref l0, w1], [], μ) = if mN μ < 900000 then (if (mS (newC μ 10 (ix 5)) l0).1 = 9 ∧ (mN μ) ≤ 999999 then (Rn d 132 (74, [.ref l0, w1], [], setR (newC μ 10 (ix 5)) l0 9 (mN μ))) else none) else none :=
  (e_nx f_132_67 rfl).trans ((e_nx (q := (_, _, .int 5 :: _, _)) f_132_68 rfl).trans ((e_gd (L := [.ref l0, w1]) (st := [.int 5, .ref l0]) (μ := μ) f_132_69 rfl).trans (g_congr (na_iff (by decide)) (fun h1 => (e_gd f_132_71 rfl).trans (g_congr (pr_iff rfl) (fun h2 => rfl))))))
theorem q_132_74 (d : Nat) (l0 : Nat) (w1 : Value) (μ : aMem) : Rn d 132 (74, [.ref l0, w1], [], μ) = if mN μ < 900000 then (if (mS (newC μ 10 (ix 5)) l0).1 = 9 ∧ (mN μ) ≤ 999999 then (Rn d 132 (81, [.ref l0, w1], [], setR (newC μ 10 (ix 5)) l0 10 (mN μ))) else none) else none :=
  (e_nx f_132_74 rfl).trans ((e_nx (q := (_, _, .int 5 :: _, _)) f_132_75 rfl).trans ((e_gd (L := [.ref l0, w1]) (st := [.int 5, .ref l0]) (μ := μ) f_132_76 rfl).trans (g_congr (na_iff (by decide)) (fun h1 => (e_gd f_132_78 rfl).trans (g_congr (pr_iff rfl) (fun h2 => rfl))))))
theorem q_132_81 (d : Nat) (l0 : Nat) (w1 : Value) (μ : aMem) : Rn d 132 (81, [.ref l0, w1], [], μ) = if mN μ < 900000 then (if (mS (newC μ 10 (ix 120)) l0).1 = 9 ∧ (mN μ) ≤ 999999 then (Rn d 132 (89, [.ref l0, w1], [], setR (newC μ 10 (ix 120)) l0 11 (mN μ))) else none) else none :=
  (e_nx f_132_81 rfl).trans ((e_nx (q := (_, _, .int 120 :: _, _)) f_132_82 rfl).trans ((e_gd (L := [.ref l0, w1]) (st := [.int 120, .ref l0]) (μ := μ) f_132_84 rfl).trans (g_congr (na_iff (by decide)) (fun h1 => (e_gd f_132_86 rfl).trans (g_congr (pr_iff rfl) (fun h2 => rfl))))))
theorem q_132_89 (d : Nat) (l0 : Nat) (w1 : Value) (μ : aMem) : Rn d 132 (89, [.ref l0, w1], [], μ) = if mN μ < 900000 then (if (mS (newC μ 10 (ix 10)) l0).1 = 9 ∧ (mN μ) ≤ 999999 then (Rn d 132 (97, [.ref l0, w1], [], setR (newC μ 10 (ix 10)) l0 12 (mN μ))) else none) else none :=
  (e_nx f_132_89 rfl).trans ((e_nx (q := (_, _, .int 10 :: _, _)) f_132_90 rfl).trans ((e_gd (L := [.ref l0, w1]) (st := [.int 10, .ref l0]) (μ := μ) f_132_92 rfl).trans (g_congr (na_iff (by decide)) (fun h1 => (e_gd f_132_94 rfl).trans (g_congr (pr_iff rfl) (fun h2 => rfl))))))
theorem q_132_97 (d : Nat) (l0 : Nat) (w1 : Value) (μ : aMem) : Rn d 132 (97, [.ref l0, w1], [], μ) = if mN μ < 900000 then (if (mS (newC μ 10 (ix 10)) l0).1 = 9 ∧ (mN μ) ≤ 999999 then (Rn d 132 (105, [.ref l0, w1], [], setR (newC μ 10 (ix 10)) l0 13 (mN μ))) else none) else none :=
  (e_nx f_132_97 rfl).trans ((e_nx (q := (_, _, .int 10 :: _, _)) f_132_98 rfl).trans ((e_gd (L := [.ref l0, w1]) (st := [.int 10, .ref l0]) (μ := μ) f_132_100 rfl).trans (g_congr (na_iff (by decide)) (fun h1 => (e_gd f_132_102 rfl).trans (g_congr (pr_iff rfl) (fun h2 => rfl))))))
theorem q_132_105 (d : Nat) (l0 : Nat) (w1 : Value) (μ : aMem) : Rn d 132 (105, [.ref l0, w1], [], μ) = if mN μ < 900000 then (if (mS (newC μ 10 (ix 10)) l0).1 = 9 ∧ (mN μ) ≤ 999999 then (Rn d 132 (113, [.ref l0, w1], [], setR (newC μ 10 (ix 10)) l0 14 (mN μ))) else none) else none :=
  (e_nx f_132_105 rfl).trans ((e_nx (q := (_, _, .int 10 :: _, _)) f_132_106 rfl).trans ((e_gd (L := [.ref l0, w1]) (st := [.int 10, .ref l0]) (μ := μ) f_132_108 rfl).trans (g_congr (na_iff (by decide)) (fun h1 => (e_gd f_132_110 rfl).trans (g_congr (pr_iff rfl) (fun h2 => rfl))))))
theorem q_132_113 (d : Nat) (l0 : Nat) (w1 : Value) (μ : aMem) : Rn d 132 (113, [.ref l0, w1], [], μ) = if mN μ < 900000 then (if (mS (newC μ 10 (ix 10)) l0).1 = 9 ∧ (mN μ) ≤ 999999 then (Rn d 132 (121, [.ref l0, w1], [], setR (newC μ 10 (ix 10)) l0 15 (mN μ))) else none) else none :=
  (e_nx f_132_113 rfl).trans ((e_nx (q := (_, _, .int 10 :: _, _)) f_132_114 rfl).trans ((e_gd (L := [.ref l0, w1]) (st := [.int 10, .ref l0]) (μ := μ) f_132_116 rfl).trans (g_congr (na_iff (by decide)) (fun h1 => (e_gd f_132_118 rfl).trans (g_congr (pr_iff rfl) (fun h2 => rfl))))))
theorem q_132_121 (d : Nat) (l0 : Nat) (w1 : Value) (μ : aMem) : Rn d 132 (121, [.ref l0, w1], [], μ) = if mN μ < 900000 then (if (mS (newC μ 10 (ix 10)) l0).1 = 9 ∧ (mN μ) ≤ 999999 then (Rn d 132 (129, [.ref l0, w1], [], setR (newC μ 10 (ix 10)) l0 16 (mN μ))) else none) else none :=
  (e_nx f_132_121 rfl).trans ((e_nx (q := (_, _, .int 10 :: _, _)) f_132_122 rfl).trans ((e_gd (L := [.ref l0, w1]) (st := [.int 10, .ref l0]) (μ := μ) f_132_124 rfl).trans (g_congr (na_iff (by decide)) (fun h1 => (e_gd f_132_126 rfl).trans (g_congr (pr_iff rfl) (fun h2 => rfl))))))
theorem q_132_129 (d : Nat) (l0 : Nat) (w1 : Value) (μ : aMem) : Rn d 132 (129, [.ref l0, w1], [], μ) = if mN μ < 900000 then (if (mS (newC μ 11 (ix 4000)) l0).1 = 9 ∧ (mN μ) ≤ 999999 then (Rn d 132 (138, [.ref l0, w1], [], setR (newC μ 11 (ix 4000)) l0 17 (mN μ))) else none) else none :=
  (e_nx f_132_129 rfl).trans ((e_nx (q := (_, _, .int 4000 :: _, _)) f_132_130 rfl).trans ((e_gd (L := [.ref l0, w1]) (st := [.int 4000, .ref l0]) (μ := μ) f_132_133 rfl).trans (g_congr (na_iff (by decide)) (fun h1 => (e_gd f_132_135 rfl).trans (g_congr (pr_iff rfl) (fun h2 => rfl))))))
theorem q_132_138 (d : Nat) (l0 : Nat) (w1 : Value) (μ : aMem) : Rn d 132 (138, [.ref l0, w1], [], μ) = if mN μ < 900000 then (if (mS (newC μ 10 (ix 96)) l0).1 = 9 ∧ (mN μ) ≤ 999999 then (Rn d 132 (146, [.ref l0, w1], [], setR (newC μ 10 (ix 96)) l0 19 (mN μ))) else none) else none :=
  (e_nx f_132_138 rfl).trans ((e_nx (q := (_, _, .int 96 :: _, _)) f_132_139 rfl).trans ((e_gd (L := [.ref l0, w1]) (st := [.int 96, .ref l0]) (μ := μ) f_132_141 rfl).trans (g_congr (na_iff (by decide)) (fun h1 => (e_gd f_132_143 rfl).trans (g_congr (pr_iff rfl) (fun h2 => rfl))))))
theorem q_132_146 (d : Nat) (l0 : Nat) (w1 : Value) (μ : aMem) : Rn d 132 (146, [.ref l0, w1], [], μ) = if mN μ < 900000 then (if (mS (newC μ 10 (ix 128)) l0).1 = 9 ∧ (mN μ) ≤ 999999 then (Rn d 132 (155, [.ref l0, w1], [], setR (newC μ 10 (ix 128)) l0 31 (mN μ))) else none) else none :=
  (e_nx f_132_146 rfl).trans ((e_nx (q := (_, _, .int 128 :: _, _)) f_132_147 rfl).trans ((e_gd (L := [.ref l0, w1]) (st := [.int 128, .ref l0]) (μ := μ) f_132_150 rfl).trans (g_congr (na_iff (by decide)) (fun h1 => (e_gd f_132_152 rfl).trans (g_congr (pr_iff rfl) (fun h2 => rfl))))))
theorem q_132_155 (d : Nat) (l0 : Nat) (w1 : Value) (μ : aMem) : Rn d 132 (155, [.ref l0, w1], [], μ) = if mN μ < 900000 then (if (mS (newC μ 10 (ix 100)) l0).1 = 9 ∧ (mN μ) ≤ 999999 then (Rn d 132 (163, [.ref l0, w1], [], setR (newC μ 10 (ix 100)) l0 32 (mN μ))) else none) else none :=
  (e_nx f_132_155 rfl).trans ((e_nx (q := (_, _, .int 100 :: _, _)) f_132_156 rfl).trans ((e_gd (L := [.ref l0, w1]) (st := [.int 100, .ref l0]) (μ := μ) f_132_158 rfl).trans (g_congr (na_iff (by decide)) (fun h1 => (e_gd f_132_160 rfl).trans (g_congr (pr_iff rfl) (fun h2 => rfl))))))
theorem q_132_163 (d : Nat) (l0 : Nat) (w1 : Value) (μ : aMem) : Rn d 132 (163, [.ref l0, w1], [], μ) = if mN μ < 900000 then (if (mS (newC μ 10 (ix 24)) l0).1 = 9 ∧ (mN μ) ≤ 999999 then (Rn d 132 (171, [.ref l0, w1], [], setR (newC μ 10 (ix 24)) l0 33 (mN μ))) else none) else none :=
  (e_nx f_132_163 rfl).trans ((e_nx (q := (_, _, .int 24 :: _, _)) f_132_164 rfl).trans ((e_gd (L := [.ref l0, w1]) (st := [.int 24, .ref l0]) (μ := μ) f_132_166 rfl).trans (g_congr (na_iff (by decide)) (fun h1 => (e_gd f_132_168 rfl).trans (g_congr (pr_iff rfl) (fun h2 => rfl))))))
theorem q_132_171 (d : Nat) (l0 : Nat) (w1 : Value) (μ : aMem) : Rn d 132 (171, [.ref l0, w1], [], μ) = if mN μ < 900000 then (if (mS (newC μ 10 (ix 24)) l0).1 = 9 ∧ (mN μ) ≤ 999999 then (Rn d 132 (179, [.ref l0, w1], [], setR (newC μ 10 (ix 24)) l0 34 (mN μ))) else none) else none :=
  (e_nx f_132_171 rfl).trans ((e_nx (q := (_, _, .int 24 :: _, _)) f_132_172 rfl).trans ((e_gd (L := [.ref l0, w1]) (st := [.int 24, .ref l0]) (μ := μ) f_132_174 rfl).trans (g_congr (na_iff (by decide)) (fun h1 => (e_gd f_132_176 rfl).trans (g_congr (pr_iff rfl) (fun h2 => rfl))))))
theorem q_132_179 (d : Nat) (l0 : Nat) (w1 : Value) (μ : aMem) : Rn d 132 (179, [.ref l0, w1], [], μ) = if mN μ < 900000 then (if (mS (newC μ 10 (ix 60)) l0).1 = 9 ∧ (mN μ) ≤ 999999 then (Rn d 132 (187, [.ref l0, w1], [], setR (newC μ 10 (ix 60)) l0 35 (mN μ))) else none) else none :=
  (e_nx f_132_179 rfl).trans ((e_nx (q := (_, _, .int 60 :: _, _)) f_132_180 rfl).trans ((e_gd (L := [.ref l0, w1]) (st := [.int 60, .ref l0]) (μ := μ) f_132_182 rfl).trans (g_congr (na_iff (by decide)) (fun h1 => (e_gd f_132_184 rfl).trans (g_congr (pr_iff rfl) (fun h2 => rfl))))))
theorem q_132_187 (d : Nat) (l0 : Nat) (w1 : Value) (μ : aMem) : Rn d 132 (187, [.ref l0, w1], [], μ) = if mN μ < 900000 then (if (mS (newC μ 10 (ix 60)) l0).1 = 9 ∧ (mN μ) ≤ 999999 then (Rn d 132 (195, [.ref l0, w1], [], setR (newC μ 10 (ix 60)) l0 37 (mN μ))) else none) else none :=
  (e_nx f_132_187 rfl).trans ((e_nx (q := (_, _, .int 60 :: _, _)) f_132_188 rfl).trans ((e_gd (L := [.ref l0, w1]) (st := [.int 60, .ref l0]) (μ := μ) f_132_190 rfl).trans (g_congr (na_iff (by decide)) (fun h1 => (e_gd f_132_192 rfl).trans (g_congr (pr_iff rfl) (fun h2 => rfl))))))
theorem q_132_195 (d : Nat) (l0 : Nat) (w1 : Value) (μ : aMem) : Rn d 132 (195, [.ref l0, w1], [], μ) = if (mS μ l0).1 = 9 then (if (mS μ (mR μ l0 0)).1 = 10 ∧ inb 3 (mS μ (mR μ l0 0)).2 then (Rn d 132 (204, [.ref l0, .int 0], [], setF μ (mR μ l0 0) (ix 3) 1)) else none) else none :=
  (e_nx f_132_195 rfl).trans ((e_gd f_132_196 rfl).trans (g_congr (Iff.rfl) (fun h1 => (e_nx (q := (_, _, .int 3 :: _, _)) f_132_199 rfl).trans ((e_nx (q := (_, _, .int 1 :: _, _)) f_132_200 rfl).trans ((e_gd f_132_201 rfl).trans (g_congr (Iff.rfl) (fun h2 => (e_nx (q := (_, _, .int 0 :: _, _)) f_132_202 rfl).trans (e_nx (q := (_, [.ref l0, .int 0], _, _)) f_132_203 rfl))))))))
theorem q_132_204 (d : Nat) (l0 : Nat) (x1 : Int32) (μ : aMem) : Rn d 132 (204, [.ref l0, .int x1], [], μ) = if 4 ≤ x1 then (some (none, μ)) else (if (mS μ l0).1 = 9 then (if (mS μ (mR μ l0 4)).1 = 10 ∧ inb x1 (mS μ (mR μ l0 4)).2 then (Rn d 132 (204, [.ref l0, .int (x1 + 1)], [], setF μ (mR μ l0 4) (ix x1) (-1))) else none) else none) :=
  (e_nx f_132_204 rfl).trans ((e_nx (q := (_, _, .int 4 :: _, _)) f_132_205 rfl).trans ((e_ge f_132_206 rfl).trans (b_congr (fun h1 => e_rt f_132_222 rfl) (fun h1 => (e_nx f_132_209 rfl).trans ((e_gd f_132_210 rfl).trans (g_congr (Iff.rfl) (fun h2 => (e_nx f_132_213 rfl).trans ((e_nx (q := (_, _, .int (-1) :: _, _)) f_132_214 rfl).trans ((e_gd f_132_215 rfl).trans (g_congr (Iff.rfl) (fun h3 => (e_nx (q := (_, [.ref l0, .int (x1 + 1)], _, _)) f_132_216 rfl).trans (e_nx f_132_219 rfl))))))))))))
theorem pg_133 (pc : Nat) : fe0 133 pc = lk prg_133 pc := rfl
theorem f_133_0 : fe0 133 0 = some (.lload_n 0, 1, 0, 0, 0, 0, 0) := (pg_133 0).trans rfl
theorem f_133_1 : fe0 133 1 = some (.lload_n 2, 1, 0, 0, 0, 0, 0) := (pg_133 1).trans rfl
theorem f_133_2 : fe0 133 2 = some (.lcmp, 1, 0, 0, 0, 0, 0) := (pg_133 2).trans rfl
theorem f_133_3 : fe0 133 3 = some (.ifCond .lt 14, 3, 0, 0, 0, 0, 0) := (pg_133 3).trans rfl
theorem f_133_6 : fe0 133 6 = some (.lload_n 0, 1, 0, 0, 0, 0, 0) := (pg_133 6).trans rfl
theorem f_133_7 : fe0 133 7 = some (.lload 4, 2, 0, 0, 0, 0, 0) := (pg_133 7).trans rfl
theorem f_133_9 : fe0 133 9 = some (.lcmp, 1, 0, 0, 0, 0, 0) := (pg_133 9).trans rfl
theorem f_133_10 : fe0 133 10 = some (.ifCond .gt 7, 3, 0, 0, 0, 0, 0) := (pg_133 10).trans rfl
theorem f_133_13 : fe0 133 13 = some (.iconst 1, 1, 0, 0, 0, 0, 0) := (pg_133 13).trans rfl
theorem f_133_14 : fe0 133 14 = some (.goto 4, 3, 0, 0, 0, 0, 0) := (pg_133 14).trans rfl
theorem f_133_17 : fe0 133 17 = some (.iconst 0, 1, 0, 0, 0, 0, 0) := (pg_133 17).trans rfl
theorem f_133_18 : fe0 133 18 = some (.ireturn, 1, 1, 0, 0, 0, 0) := (pg_133 18).trans rfl
theorem q_133_0 (d : Nat) (j0 : Int64) (j2 : Int64) (j4 : Int64) (μ : aMem) : Rn d 133 (0, [.long j0, un, .long j2, un, .long j4, un], [], μ) = if (lg_cmp j0 j2) < 0 then (some (some (.int 0), μ)) else (if 0 < (lg_cmp j0 j4) then (some (some (.int 0), μ)) else (some (some (.int 1), μ))) :=
  (e_nx f_133_0 rfl).trans ((e_nx f_133_1 rfl).trans ((e_nx f_133_2 rfl).trans ((e_lt f_133_3 rfl).trans (b_congr (fun h1 => (e_nx (q := (_, _, .int 0 :: _, _)) f_133_17 rfl).trans (e_rt f_133_18 rfl)) (fun h1 => (e_nx f_133_6 rfl).trans ((e_nx f_133_7 rfl).trans ((e_nx f_133_9 rfl).trans ((e_gt f_133_10 rfl).trans (b_congr (fun h2 => (e_nx (q := (_, _, .int 0 :: _, _)) f_133_17 rfl).trans (e_rt f_133_18 rfl)) (fun h2 => (e_nx (q := (_, _, .int 1 :: _, _)) f_133_13 rfl).trans ((e_nx f_133_14 rfl).trans (e_rt f_133_18 rfl))))))))))))
theorem pg_134 (pc : Nat) : fe0 134 pc = lk prg_134 pc := rfl
theorem f_134_0 : fe0 134 0 = some (.iload_n 0, 1, 0, 0, 0, 0, 0) := (pg_134 0).trans rfl
theorem f_134_1 : fe0 134 1 = some (.ifCond .ge 7, 3, 0, 0, 0, 0, 0) := (pg_134 1).trans rfl
theorem f_134_4 : fe0 134 4 = some (.iconst 0, 1, 0, 0, 0, 0, 0) := (pg_134 4).trans rfl
theorem f_134_5 : fe0 134 5 = some (.goto 13, 3, 0, 0, 0, 0, 0) := (pg_134 5).trans rfl
theorem f_134_8 : fe0 134 8 = some (.iload_n 0, 1, 0, 0, 0, 0, 0) := (pg_134 8).trans rfl
theorem f_134_9 : fe0 134 9 = some (.iload_n 1, 1, 0, 0, 0, 0, 0) := (pg_134 9).trans rfl
theorem f_134_10 : fe0 134 10 = some (.if_icmp .le 7, 3, 0, 0, 0, 0, 0) := (pg_134 10).trans rfl
theorem f_134_13 : fe0 134 13 = some (.iload_n 1, 1, 0, 0, 0, 0, 0) := (pg_134 13).trans rfl
theorem f_134_14 : fe0 134 14 = some (.goto 4, 3, 0, 0, 0, 0, 0) := (pg_134 14).trans rfl
theorem f_134_17 : fe0 134 17 = some (.iload_n 0, 1, 0, 0, 0, 0, 0) := (pg_134 17).trans rfl
theorem f_134_18 : fe0 134 18 = some (.ireturn, 1, 0, 0, 0, 0, 0) := (pg_134 18).trans rfl
theorem q_134_0 (d : Nat) (x0 : Int32) (x1 : Int32) (μ : aMem) : Rn d 134 (0, [.int x0, .int x1], [], μ) = if 0 ≤ x0 then (if x0 ≤ x1 then (some (some (.int x0), μ)) else (some (some (.int x1), μ))) else (some (some (.int 0), μ)) :=
  (e_nx f_134_0 rfl).trans ((e_ge f_134_1 rfl).trans (b_congr (fun h1 => (e_nx f_134_8 rfl).trans ((e_nx f_134_9 rfl).trans ((e_le f_134_10 rfl).trans (b_congr (fun h2 => (e_nx f_134_17 rfl).trans (e_rt f_134_18 rfl)) (fun h2 => (e_nx f_134_13 rfl).trans ((e_nx f_134_14 rfl).trans (e_rt f_134_18 rfl))))))) (fun h1 => (e_nx (q := (_, _, .int 0 :: _, _)) f_134_4 rfl).trans ((e_nx f_134_5 rfl).trans (e_rt f_134_18 rfl)))))
theorem pg_135 (pc : Nat) : fe0 135 pc = lk prg_135 pc := rfl
theorem f_135_0 : fe0 135 0 = some (.iload_n 0, 1, 0, 0, 0, 0, 0) := (pg_135 0).trans rfl
theorem f_135_1 : fe0 135 1 = some (.ifCond .ge 8, 3, 0, 0, 0, 0, 0) := (pg_135 1).trans rfl
theorem f_135_4 : fe0 135 4 = some (.ldc 83, 2, 0, 0, 3294967291, 0, 6036) := (pg_135 4).trans rfl
theorem f_135_6 : fe0 135 6 = some (.goto 4, 3, 0, 0, 0, 0, 0) := (pg_135 6).trans rfl
theorem f_135_9 : fe0 135 9 = some (.iload_n 0, 1, 0, 0, 0, 0, 0) := (pg_135 9).trans rfl
theorem f_135_10 : fe0 135 10 = some (.ireturn, 1, 0, 0, 0, 0, 0) := (pg_135 10).trans rfl
theorem q_135_0 (d : Nat) (x0 : Int32) (μ : aMem) : Rn d 135 (0, [.int x0], [], μ) = if 0 ≤ x0 then (some (some (.int x0), μ)) else (some (some (.int (-1000000005)), μ)) :=
  (e_nx f_135_0 rfl).trans ((e_ge f_135_1 rfl).trans (b_congr (fun h1 => (e_nx f_135_9 rfl).trans (e_rt f_135_10 rfl)) (fun h1 => (e_nx (q := (_, _, .int (-1000000005) :: _, _)) f_135_4 rfl).trans ((e_nx f_135_6 rfl).trans (e_rt f_135_10 rfl)))))
theorem pg_136 (pc : Nat) : fe0 136 pc = lk prg_136 pc := rfl
theorem f_136_0 : fe0 136 0 = some (.iload_n 0, 1, 0, 0, 0, 0, 0) := (pg_136 0).trans rfl
theorem f_136_1 : fe0 136 1 = some (.iload_n 1, 1, 0, 0, 0, 0, 0) := (pg_136 1).trans rfl
theorem f_136_2 : fe0 136 2 = some (.if_icmp .le 7, 3, 0, 0, 0, 0, 0) := (pg_136 2).trans rfl
theorem f_136_5 : fe0 136 5 = some (.iload_n 0, 1, 0, 0, 0, 0, 0) := (pg_136 5).trans rfl
theorem f_136_6 : fe0 136 6 = some (.goto 4, 3, 0, 0, 0, 0, 0) := (pg_136 6).trans rfl
theorem f_136_9 : fe0 136 9 = some (.iload_n 1, 1, 0, 0, 0, 0, 0) := (pg_136 9).trans rfl
theorem f_136_10 : fe0 136 10 = some (.ireturn, 1, 0, 0, 0, 0, 0) := (pg_136 10).trans rfl
theorem q_136_0 (d : Nat) (x0 : Int32) (x1 : Int32) (μ : aMem) : Rn d 136 (0, [.int x0, .int x1], [], μ) = if x0 ≤ x1 then (some (some (.int x1), μ)) else (some (some (.int x0), μ)) :=
  (e_nx f_136_0 rfl).trans ((e_nx f_136_1 rfl).trans ((e_le f_136_2 rfl).trans (b_congr (fun h1 => (e_nx f_136_9 rfl).trans (e_rt f_136_10 rfl)) (fun h1 => (e_nx f_136_5 rfl).trans ((e_nx f_136_6 rfl).trans (e_rt f_136_10 rfl))))))
theorem pg_137 (pc : Nat) : fe0 137 pc = lk prg_137 pc := rfl
theorem f_137_0 : fe0 137 0 = some (.aload_n 0, 1, 0, 0, 0, 0, 0) := (pg_137 0).trans rfl
theorem f_137_1 : fe0 137 1 = some (.getfield 7, 3, 9, 0, 1, 0, 5024) := (pg_137 1).trans rfl
theorem f_137_4 : fe0 137 4 = some (.iload_n 1, 1, 0, 0, 0, 0, 0) := (pg_137 4).trans rfl
theorem f_137_5 : fe0 137 5 = some (.iaload, 1, 0, 0, 0, 0, 0) := (pg_137 5).trans rfl
theorem f_137_6 : fe0 137 6 = some (.istore_n 3, 1, 0, 0, 0, 0, 0) := (pg_137 6).trans rfl
theorem f_137_7 : fe0 137 7 = some (.aload_n 0, 1, 0, 0, 0, 0, 0) := (pg_137 7).trans rfl
theorem f_137_8 : fe0 137 8 = some (.getfield 7, 3, 9, 0, 1, 0, 5024) := (pg_137 8).trans rfl
theorem f_137_11 : fe0 137 11 = some (.iload_n 1, 1, 0, 0, 0, 0, 0) := (pg_137 11).trans rfl
theorem f_137_12 : fe0 137 12 = some (.iload_n 2, 1, 0, 0, 0, 0, 0) := (pg_137 12).trans rfl
theorem f_137_13 : fe0 137 13 = some (.iastore, 1, 0, 0, 0, 0, 0) := (pg_137 13).trans rfl
theorem f_137_14 : fe0 137 14 = some (.iload_n 3, 1, 0, 0, 0, 0, 0) := (pg_137 14).trans rfl
theorem f_137_15 : fe0 137 15 = some (.ireturn, 1, 0, 0, 0, 0, 0) := (pg_137 15).trans rfl
theorem q_137_0 (d : Nat) (l0 : Nat) (x1 : Int32) (x2 : Int32) (μ : aMem) : Rn d 137 (0, [.ref l0, .int x1, .int x2, un], [], μ) = if (mS μ l0).1 = 9 then ((rdI μ (mR μ l0 0) x1).bind fun v2 => if (mS μ (mR μ l0 0)).1 = 10 ∧ inb x1 (mS μ (mR μ l0 0)).2 then (some (some (.int v2), setF μ (mR μ l0 0) (ix x1) x2)) else none) else none :=
  (e_nx f_137_0 rfl).trans ((e_gd f_137_1 rfl).trans (g_congr (Iff.rfl) (fun h1 => (e_nx f_137_4 rfl).trans ((e_ia (L := [.ref l0, .int x1, .int x2, un]) (r := []) (μ := μ) f_137_5).trans (m_congr fun v2 => (e_nx (q := (_, [.ref l0, .int x1, .int x2, .int v2], _, _)) f_137_6 rfl).trans ((e_nx f_137_7 rfl).trans ((e_gk f_137_8 (h1) rfl).trans ((e_nx f_137_11 rfl).trans ((e_nx f_137_12 rfl).trans ((e_gd f_137_13 rfl).trans (g_congr (Iff.rfl) (fun h3 => (e_nx f_137_14 rfl).trans (e_rt f_137_15 rfl)))))))))))))
theorem pg_138 (pc : Nat) : fe0 138 pc = lk prg_138 pc := rfl
theorem f_138_0 : fe0 138 0 = some (.bipush 114, 2, 0, 0, 0, 0, 0) := (pg_138 0).trans rfl
theorem f_138_2 : fe0 138 2 = some (.sipush 200, 3, 0, 0, 0, 0, 0) := (pg_138 2).trans rfl
theorem f_138_5 : fe0 138 5 = some (.iload_n 1, 1, 0, 0, 0, 0, 0) := (pg_138 5).trans rfl
theorem f_138_6 : fe0 138 6 = some (.imul, 1, 0, 0, 0, 0, 0) := (pg_138 6).trans rfl
theorem f_138_7 : fe0 138 7 = some (.iadd, 1, 0, 0, 0, 0, 0) := (pg_138 7).trans rfl
theorem f_138_8 : fe0 138 8 = some (.ireturn, 1, 0, 0, 0, 0, 0) := (pg_138 8).trans rfl
theorem q_138_0 (d : Nat) (l0 : Nat) (x1 : Int32) (μ : aMem) : Rn d 138 (0, [.ref l0, .int x1], [], μ) = some (some (.int (114 + (200 * x1))), μ) :=
  (e_nx (q := (_, _, .int 114 :: _, _)) f_138_0 rfl).trans ((e_nx (q := (_, _, .int 200 :: _, _)) f_138_2 rfl).trans ((e_nx f_138_5 rfl).trans ((e_nx f_138_6 rfl).trans ((e_nx f_138_7 rfl).trans (e_rt f_138_8 rfl)))))
theorem pg_139 (pc : Nat) : fe0 139 pc = lk prg_139 pc := rfl
theorem f_139_0 : fe0 139 0 = some (.aload_n 0, 1, 0, 0, 0, 0, 0) := (pg_139 0).trans rfl
theorem f_139_1 : fe0 139 1 = some (.getfield 7, 3, 9, 0, 1, 0, 5024) := (pg_139 1).trans rfl
theorem f_139_4 : fe0 139 4 = some (.iconst 4, 1, 0, 0, 0, 0, 0) := (pg_139 4).trans rfl
theorem f_139_5 : fe0 139 5 = some (.iconst 5, 1, 0, 0, 0, 0, 0) := (pg_139 5).trans rfl
theorem f_139_6 : fe0 139 6 = some (.iload_n 1, 1, 0, 0, 0, 0, 0) := (pg_139 6).trans rfl
theorem f_139_7 : fe0 139 7 = some (.imul, 1, 0, 0, 0, 0, 0) := (pg_139 7).trans rfl
theorem f_139_8 : fe0 139 8 = some (.iadd, 1, 0, 0, 0, 0, 0) := (pg_139 8).trans rfl
theorem f_139_9 : fe0 139 9 = some (.iload_n 2, 1, 0, 0, 0, 0, 0) := (pg_139 9).trans rfl
theorem f_139_10 : fe0 139 10 = some (.iadd, 1, 0, 0, 0, 0, 0) := (pg_139 10).trans rfl
theorem f_139_11 : fe0 139 11 = some (.iaload, 1, 0, 0, 0, 0, 0) := (pg_139 11).trans rfl
theorem f_139_12 : fe0 139 12 = some (.ireturn, 1, 0, 0, 0, 0, 0) := (pg_139 12).trans rfl
theorem q_139_0 (d : Nat) (l0 : Nat) (x1 : Int32) (x2 : Int32) (μ : aMem) : Rn d 139 (0, [.ref l0, .int x1, .int x2], [], μ) = if (mS μ l0).1 = 9 then ((rdI μ (mR μ l0 0) ((4 + (5 * x1)) + x2)).bind fun v2 => some (some (.int v2), μ)) else none :=
  (e_nx f_139_0 rfl).trans ((e_gd f_139_1 rfl).trans (g_congr (Iff.rfl) (fun h1 => (e_nx (q := (_, _, .int 4 :: _, _)) f_139_4 rfl).trans ((e_nx (q := (_, _, .int 5 :: _, _)) f_139_5 rfl).trans ((e_nx f_139_6 rfl).trans ((e_nx f_139_7 rfl).trans ((e_nx f_139_8 rfl).trans ((e_nx f_139_9 rfl).trans ((e_nx f_139_10 rfl).trans ((e_ia (L := [.ref l0, .int x1, .int x2]) (r := []) (μ := μ) f_139_11).trans (m_congr fun v2 => e_rt f_139_12 rfl)))))))))))
theorem pg_140 (pc : Nat) : fe0 140 pc = lk prg_140 pc := rfl
theorem f_140_0 : fe0 140 0 = some (.iload_n 1, 1, 0, 0, 0, 0, 0) := (pg_140 0).trans rfl
theorem f_140_1 : fe0 140 1 = some (.i2l, 1, 0, 0, 0, 0, 0) := (pg_140 1).trans rfl
theorem f_140_2 : fe0 140 2 = some (.lconst 0, 1, 0, 0, 0, 0, 0) := (pg_140 2).trans rfl
theorem f_140_3 : fe0 140 3 = some (.aload_n 0, 1, 0, 0, 0, 0, 0) := (pg_140 3).trans rfl
theorem f_140_4 : fe0 140 4 = some (.getfield 7, 3, 9, 0, 1, 0, 5024) := (pg_140 4).trans rfl
theorem f_140_7 : fe0 140 7 = some (.iconst 0, 1, 0, 0, 0, 0, 0) := (pg_140 7).trans rfl
theorem f_140_8 : fe0 140 8 = some (.iaload, 1, 0, 0, 0, 0, 0) := (pg_140 8).trans rfl
theorem f_140_9 : fe0 140 9 = some (.iconst 1, 1, 0, 0, 0, 0, 0) := (pg_140 9).trans rfl
theorem f_140_10 : fe0 140 10 = some (.isub, 1, 0, 0, 0, 0, 0) := (pg_140 10).trans rfl
theorem f_140_11 : fe0 140 11 = some (.i2l, 1, 0, 0, 0, 0, 0) := (pg_140 11).trans rfl
theorem f_140_12 : fe0 140 12 = some (.invokestatic 84, 3, 133, 3, 2, 0, 5144) := (pg_140 12).trans rfl
theorem f_140_15 : fe0 140 15 = some (.ireturn, 1, 1, 0, 0, 0, 0) := (pg_140 15).trans rfl
theorem q_140_0 (d : Nat) (l0 : Nat) (x1 : Int32) (μ : aMem) : Rn (d + 1) 140 (0, [.ref l0, .int x1], [], μ) = if (mS μ l0).1 = 9 then ((rdI μ (mR μ l0 0) 0).bind fun v2 => (cI d 133 [.long ((x1 : Int32).toInt64), .long 0, .long ((v2 - 1 : Int32).toInt64)] μ).bind fun p3 => if p3.1 = 0 ∨ p3.1 = 1 then some (some (.int p3.1), p3.2) else none) else none :=
  (e_nx f_140_0 rfl).trans ((e_nx f_140_1 rfl).trans ((e_nx (q := (_, _, .long 0 :: _, _)) f_140_2 rfl).trans ((e_nx f_140_3 rfl).trans ((e_gd f_140_4 rfl).trans (g_congr (Iff.rfl) (fun h1 => (e_nx (q := (_, _, .int 0 :: _, _)) f_140_7 rfl).trans ((e_ia (L := [.ref l0, .int x1]) (r := [.long 0, .long ((x1 : Int32).toInt64)]) (μ := μ) f_140_8).trans (m_congr fun v2 => (e_nx (q := (_, _, .int 1 :: _, _)) f_140_9 rfl).trans ((e_nx f_140_10 rfl).trans ((e_nx f_140_11 rfl).trans ((e_cI (L := [.ref l0, .int x1]) (st := [.long ((v2 - 1 : Int32).toInt64), .long 0, .long ((x1 : Int32).toInt64)]) (μ := μ) (L' := [.ref l0, .int x1]) (st' := []) f_140_12 rfl rfl).trans (m_congr fun p3 => (e_rg f_140_15 rfl).trans (g_congr rt1_iff (fun _ => rfl))))))))))))))
theorem pg_141 (pc : Nat) : fe0 141 pc = lk prg_141 pc := rfl
theorem f_141_0 : fe0 141 0 = some (.iload_n 0, 1, 0, 0, 0, 0, 0) := (pg_141 0).trans rfl
theorem f_141_1 : fe0 141 1 = some (.ifCond .lt 12, 3, 0, 0, 0, 0, 0) := (pg_141 1).trans rfl
theorem f_141_4 : fe0 141 4 = some (.iload_n 0, 1, 0, 0, 0, 0, 0) := (pg_141 4).trans rfl
theorem f_141_5 : fe0 141 5 = some (.iconst 2, 1, 0, 0, 0, 0, 0) := (pg_141 5).trans rfl
theorem f_141_6 : fe0 141 6 = some (.if_icmp .gt 7, 3, 0, 0, 0, 0, 0) := (pg_141 6).trans rfl
theorem f_141_9 : fe0 141 9 = some (.iconst 1, 1, 0, 0, 0, 0, 0) := (pg_141 9).trans rfl
theorem f_141_10 : fe0 141 10 = some (.goto 4, 3, 0, 0, 0, 0, 0) := (pg_141 10).trans rfl
theorem f_141_13 : fe0 141 13 = some (.iconst 0, 1, 0, 0, 0, 0, 0) := (pg_141 13).trans rfl
theorem f_141_14 : fe0 141 14 = some (.ireturn, 1, 1, 0, 0, 0, 0) := (pg_141 14).trans rfl
theorem q_141_0 (d : Nat) (x0 : Int32) (μ : aMem) : Rn d 141 (0, [.int x0], [], μ) = if x0 < 0 then (some (some (.int 0), μ)) else (if 2 < x0 then (some (some (.int 0), μ)) else (some (some (.int 1), μ))) :=
  (e_nx f_141_0 rfl).trans ((e_lt f_141_1 rfl).trans (b_congr (fun h1 => (e_nx (q := (_, _, .int 0 :: _, _)) f_141_13 rfl).trans (e_rt f_141_14 rfl)) (fun h1 => (e_nx f_141_4 rfl).trans ((e_nx (q := (_, _, .int 2 :: _, _)) f_141_5 rfl).trans ((e_gt f_141_6 rfl).trans (b_congr (fun h2 => (e_nx (q := (_, _, .int 0 :: _, _)) f_141_13 rfl).trans (e_rt f_141_14 rfl)) (fun h2 => (e_nx (q := (_, _, .int 1 :: _, _)) f_141_9 rfl).trans ((e_nx f_141_10 rfl).trans (e_rt f_141_14 rfl)))))))))
theorem pg_142 (pc : Nat) : fe0 142 pc = lk prg_142 pc := rfl
theorem f_142_0 : fe0 142 0 = some (.iload_n 1, 1, 0, 0, 0, 0, 0) := (pg_142 0).trans rfl
theorem f_142_1 : fe0 142 1 = some (.i2l, 1, 0, 0, 0, 0, 0) := (pg_142 1).trans rfl
theorem f_142_2 : fe0 142 2 = some (.lconst 0, 1, 0, 0, 0, 0, 0) := (pg_142 2).trans rfl
theorem f_142_3 : fe0 142 3 = some (.aload_n 0, 1, 0, 0, 0, 0, 0) := (pg_142 3).trans rfl
theorem f_142_4 : fe0 142 4 = some (.getfield 7, 3, 9, 0, 1, 0, 5024) := (pg_142 4).trans rfl
theorem f_142_7 : fe0 142 7 = some (.iconst 2, 1, 0, 0, 0, 0, 0) := (pg_142 7).trans rfl
theorem f_142_8 : fe0 142 8 = some (.iaload, 1, 0, 0, 0, 0, 0) := (pg_142 8).trans rfl
theorem f_142_9 : fe0 142 9 = some (.iconst 1, 1, 0, 0, 0, 0, 0) := (pg_142 9).trans rfl
theorem f_142_10 : fe0 142 10 = some (.isub, 1, 0, 0, 0, 0, 0) := (pg_142 10).trans rfl
theorem f_142_11 : fe0 142 11 = some (.i2l, 1, 0, 0, 0, 0, 0) := (pg_142 11).trans rfl
theorem f_142_12 : fe0 142 12 = some (.invokestatic 84, 3, 133, 3, 2, 0, 5144) := (pg_142 12).trans rfl
theorem f_142_15 : fe0 142 15 = some (.ireturn, 1, 1, 0, 0, 0, 0) := (pg_142 15).trans rfl
theorem q_142_0 (d : Nat) (l0 : Nat) (x1 : Int32) (μ : aMem) : Rn (d + 1) 142 (0, [.ref l0, .int x1], [], μ) = if (mS μ l0).1 = 9 then ((rdI μ (mR μ l0 0) 2).bind fun v2 => (cI d 133 [.long ((x1 : Int32).toInt64), .long 0, .long ((v2 - 1 : Int32).toInt64)] μ).bind fun p3 => if p3.1 = 0 ∨ p3.1 = 1 then some (some (.int p3.1), p3.2) else none) else none :=
  (e_nx f_142_0 rfl).trans ((e_nx f_142_1 rfl).trans ((e_nx (q := (_, _, .long 0 :: _, _)) f_142_2 rfl).trans ((e_nx f_142_3 rfl).trans ((e_gd f_142_4 rfl).trans (g_congr (Iff.rfl) (fun h1 => (e_nx (q := (_, _, .int 2 :: _, _)) f_142_7 rfl).trans ((e_ia (L := [.ref l0, .int x1]) (r := [.long 0, .long ((x1 : Int32).toInt64)]) (μ := μ) f_142_8).trans (m_congr fun v2 => (e_nx (q := (_, _, .int 1 :: _, _)) f_142_9 rfl).trans ((e_nx f_142_10 rfl).trans ((e_nx f_142_11 rfl).trans ((e_cI (L := [.ref l0, .int x1]) (st := [.long ((v2 - 1 : Int32).toInt64), .long 0, .long ((x1 : Int32).toInt64)]) (μ := μ) (L' := [.ref l0, .int x1]) (st' := []) f_142_12 rfl rfl).trans (m_congr fun p3 => (e_rg f_142_15 rfl).trans (g_congr rt1_iff (fun _ => rfl))))))))))))))
theorem pg_143 (pc : Nat) : fe0 143 pc = lk prg_143 pc := rfl
theorem f_143_0 : fe0 143 0 = some (.aload_n 0, 1, 0, 0, 0, 0, 0) := (pg_143 0).trans rfl
theorem f_143_1 : fe0 143 1 = some (.getfield 7, 3, 9, 0, 1, 0, 5024) := (pg_143 1).trans rfl
theorem f_143_4 : fe0 143 4 = some (.iconst 3, 1, 0, 0, 0, 0, 0) := (pg_143 4).trans rfl
theorem f_143_5 : fe0 143 5 = some (.aload_n 0, 1, 0, 0, 0, 0, 0) := (pg_143 5).trans rfl
theorem f_143_6 : fe0 143 6 = some (.getfield 7, 3, 9, 0, 1, 0, 5024) := (pg_143 6).trans rfl
theorem f_143_9 : fe0 143 9 = some (.iconst 3, 1, 0, 0, 0, 0, 0) := (pg_143 9).trans rfl
theorem f_143_10 : fe0 143 10 = some (.iaload, 1, 0, 0, 0, 0, 0) := (pg_143 10).trans rfl
theorem f_143_11 : fe0 143 11 = some (.ldc 88, 2, 0, 0, 1103515245, 0, 6050) := (pg_143 11).trans rfl
theorem f_143_13 : fe0 143 13 = some (.imul, 1, 0, 0, 0, 0, 0) := (pg_143 13).trans rfl
theorem f_143_14 : fe0 143 14 = some (.sipush 12345, 3, 0, 0, 0, 0, 0) := (pg_143 14).trans rfl
theorem f_143_17 : fe0 143 17 = some (.iadd, 1, 0, 0, 0, 0, 0) := (pg_143 17).trans rfl
theorem f_143_18 : fe0 143 18 = some (.iastore, 1, 0, 0, 0, 0, 0) := (pg_143 18).trans rfl
theorem f_143_19 : fe0 143 19 = some (.aload_n 0, 1, 0, 0, 0, 0, 0) := (pg_143 19).trans rfl
theorem f_143_20 : fe0 143 20 = some (.getfield 7, 3, 9, 0, 1, 0, 5024) := (pg_143 20).trans rfl
theorem f_143_23 : fe0 143 23 = some (.iconst 3, 1, 0, 0, 0, 0, 0) := (pg_143 23).trans rfl
theorem f_143_24 : fe0 143 24 = some (.iaload, 1, 0, 0, 0, 0, 0) := (pg_143 24).trans rfl
theorem f_143_25 : fe0 143 25 = some (.bipush 8, 2, 0, 0, 0, 0, 0) := (pg_143 25).trans rfl
theorem f_143_27 : fe0 143 27 = some (.iushr, 1, 0, 0, 0, 0, 0) := (pg_143 27).trans rfl
theorem f_143_28 : fe0 143 28 = some (.ireturn, 1, 0, 0, 0, 0, 0) := (pg_143 28).trans rfl
theorem q_143_0 (d : Nat) (l0 : Nat) (μ : aMem) : Rn d 143 (0, [.ref l0], [], μ) = if (mS μ l0).1 = 9 then ((rdI μ (mR μ l0 0) 3).bind fun v2 => if (mS μ (mR μ l0 0)).1 = 10 ∧ inb 3 (mS μ (mR μ l0 0)).2 then ((rdI (setF μ (mR μ l0 0) (ix 3) ((v2 * 1103515245) + 12345)) (mR μ l0 0) 3).bind fun v4 => some (some (.int (((v4 : Int32).toUInt32 >>> ((8 : Int32).toUInt32 &&& Int32.toUInt32 31)).toInt32)), setF μ (mR μ l0 0) (ix 3) ((v2 * 1103515245) + 12345))) else none) else none :=
  (e_nx f_143_0 rfl).trans ((e_gd f_143_1 rfl).trans (g_congr (Iff.rfl) (fun h1 => (e_nx (q := (_, _, .int 3 :: _, _)) f_143_4 rfl).trans ((e_nx f_143_5 rfl).trans ((e_gk f_143_6 (h1) rfl).trans ((e_nx (q := (_, _, .int 3 :: _, _)) f_143_9 rfl).trans ((e_ia (L := [.ref l0]) (r := [.int 3, .ref (mR μ l0 0)]) (μ := μ) f_143_10).trans (m_congr fun v2 => (e_nx (q := (_, _, .int 1103515245 :: _, _)) f_143_11 rfl).trans ((e_nx f_143_13 rfl).trans ((e_nx (q := (_, _, .int 12345 :: _, _)) f_143_14 rfl).trans ((e_nx f_143_17 rfl).trans ((e_gd f_143_18 rfl).trans (g_congr (Iff.rfl) (fun h3 => (e_nx f_143_19 rfl).trans ((e_gk f_143_20 (h1) rfl).trans ((e_nx (q := (_, _, .int 3 :: _, _)) f_143_23 rfl).trans ((e_ia (L := [.ref l0]) (r := []) (μ := setF μ (mR μ l0 0) (ix 3) ((v2 * 1103515245) + 12345)) f_143_24).trans (m_congr fun v4 => (e_nx (q := (_, _, .int 8 :: _, _)) f_143_25 rfl).trans ((e_nx f_143_27 rfl).trans (e_rt f_143_28 rfl))))))))))))))))))))
theorem pg_144 (pc : Nat) : fe0 144 pc = lk prg_144 pc := rfl
theorem f_144_0 : fe0 144 0 = some (.iconst 0, 1, 0, 0, 0, 0, 0) := (pg_144 0).trans rfl
theorem f_144_1 : fe0 144 1 = some (.istore_n 1, 1, 0, 0, 0, 0, 0) := (pg_144 1).trans rfl
theorem f_144_2 : fe0 144 2 = some (.iconst 0, 1, 0, 0, 0, 0, 0) := (pg_144 2).trans rfl
theorem f_144_3 : fe0 144 3 = some (.istore_n 2, 1, 0, 0, 0, 0, 0) := (pg_144 3).trans rfl
theorem f_144_4 : fe0 144 4 = some (.iload_n 2, 1, 0, 0, 0, 0, 0) := (pg_144 4).trans rfl
theorem f_144_5 : fe0 144 5 = some (.bipush 10, 2, 0, 0, 0, 0, 0) := (pg_144 5).trans rfl
theorem f_144_7 : fe0 144 7 = some (.if_icmp .ge 17, 3, 0, 0, 0, 0, 0) := (pg_144 7).trans rfl
theorem f_144_10 : fe0 144 10 = some (.iload_n 1, 1, 0, 0, 0, 0, 0) := (pg_144 10).trans rfl
theorem f_144_11 : fe0 144 11 = some (.iload_n 0, 1, 0, 0, 0, 0, 0) := (pg_144 11).trans rfl
theorem f_144_12 : fe0 144 12 = some (.iload_n 2, 1, 0, 0, 0, 0, 0) := (pg_144 12).trans rfl
theorem f_144_13 : fe0 144 13 = some (.ishr, 1, 0, 0, 0, 0, 0) := (pg_144 13).trans rfl
theorem f_144_14 : fe0 144 14 = some (.iconst 1, 1, 0, 0, 0, 0, 0) := (pg_144 14).trans rfl
theorem f_144_15 : fe0 144 15 = some (.iand, 1, 0, 0, 0, 0, 0) := (pg_144 15).trans rfl
theorem f_144_16 : fe0 144 16 = some (.iadd, 1, 0, 0, 0, 0, 0) := (pg_144 16).trans rfl
theorem f_144_17 : fe0 144 17 = some (.istore_n 1, 1, 0, 0, 0, 0, 0) := (pg_144 17).trans rfl
theorem f_144_18 : fe0 144 18 = some (.iinc 2 1, 3, 0, 0, 0, 0, 0) := (pg_144 18).trans rfl
theorem f_144_21 : fe0 144 21 = some (.goto (-17), 3, 0, 0, 0, 0, 0) := (pg_144 21).trans rfl
theorem f_144_24 : fe0 144 24 = some (.iload_n 1, 1, 0, 0, 0, 0, 0) := (pg_144 24).trans rfl
theorem f_144_25 : fe0 144 25 = some (.ireturn, 1, 0, 0, 0, 0, 0) := (pg_144 25).trans rfl
theorem q_144_0 (d : Nat) (x0 : Int32) (μ : aMem) : Rn d 144 (0, [.int x0, un, un], [], μ) = Rn d 144 (4, [.int x0, .int 0, .int 0], [], μ) :=
  (e_nx (q := (_, _, .int 0 :: _, _)) f_144_0 rfl).trans ((e_nx (q := (_, [.int x0, .int 0, un], _, _)) f_144_1 rfl).trans ((e_nx (q := (_, _, .int 0 :: _, _)) f_144_2 rfl).trans (e_nx (q := (_, [.int x0, .int 0, .int 0], _, _)) f_144_3 rfl)))
theorem q_144_4 (d : Nat) (x0 : Int32) (x1 : Int32) (x2 : Int32) (μ : aMem) : Rn d 144 (4, [.int x0, .int x1, .int x2], [], μ) = if 10 ≤ x2 then (some (some (.int x1), μ)) else (Rn d 144 (4, [.int x0, .int (x1 + ((x0 >>> (x2 &&& 31)) &&& 1)), .int (x2 + 1)], [], μ)) :=
  (e_nx f_144_4 rfl).trans ((e_nx (q := (_, _, .int 10 :: _, _)) f_144_5 rfl).trans ((e_ge f_144_7 rfl).trans (b_congr (fun h1 => (e_nx f_144_24 rfl).trans (e_rt f_144_25 rfl)) (fun h1 => (e_nx f_144_10 rfl).trans ((e_nx f_144_11 rfl).trans ((e_nx f_144_12 rfl).trans ((e_nx f_144_13 rfl).trans ((e_nx (q := (_, _, .int 1 :: _, _)) f_144_14 rfl).trans ((e_nx f_144_15 rfl).trans ((e_nx f_144_16 rfl).trans ((e_nx (q := (_, [.int x0, .int (x1 + ((x0 >>> (x2 &&& 31)) &&& 1)), .int x2], _, _)) f_144_17 rfl).trans ((e_nx (q := (_, [.int x0, .int (x1 + ((x0 >>> (x2 &&& 31)) &&& 1)), .int (x2 + 1)], _, _)) f_144_18 rfl).trans (e_nx f_144_21 rfl)))))))))))))
theorem pg_145 (pc : Nat) : fe0 145 pc = lk prg_145 pc := rfl
theorem f_145_0 : fe0 145 0 = some (.iconst 4, 1, 0, 0, 0, 0, 0) := (pg_145 0).trans rfl
theorem f_145_1 : fe0 145 1 = some (.iconst 5, 1, 0, 0, 0, 0, 0) := (pg_145 1).trans rfl
theorem f_145_2 : fe0 145 2 = some (.aload_n 0, 1, 0, 0, 0, 0, 0) := (pg_145 2).trans rfl
theorem f_145_3 : fe0 145 3 = some (.getfield 7, 3, 9, 0, 1, 0, 5024) := (pg_145 3).trans rfl
theorem f_145_6 : fe0 145 6 = some (.iconst 0, 1, 0, 0, 0, 0, 0) := (pg_145 6).trans rfl
theorem f_145_7 : fe0 145 7 = some (.iaload, 1, 0, 0, 0, 0, 0) := (pg_145 7).trans rfl
theorem f_145_8 : fe0 145 8 = some (.imul, 1, 0, 0, 0, 0, 0) := (pg_145 8).trans rfl
theorem f_145_9 : fe0 145 9 = some (.iadd, 1, 0, 0, 0, 0, 0) := (pg_145 9).trans rfl
theorem f_145_10 : fe0 145 10 = some (.istore 5, 2, 0, 0, 0, 0, 0) := (pg_145 10).trans rfl
theorem f_145_12 : fe0 145 12 = some (.aload_n 0, 1, 0, 0, 0, 0, 0) := (pg_145 12).trans rfl
theorem f_145_13 : fe0 145 13 = some (.getfield 7, 3, 9, 0, 1, 0, 5024) := (pg_145 13).trans rfl
theorem f_145_16 : fe0 145 16 = some (.iload 5, 2, 0, 0, 0, 0, 0) := (pg_145 16).trans rfl
theorem f_145_18 : fe0 145 18 = some (.iload_n 1, 1, 0, 0, 0, 0, 0) := (pg_145 18).trans rfl
theorem f_145_19 : fe0 145 19 = some (.iastore, 1, 0, 0, 0, 0, 0) := (pg_145 19).trans rfl
theorem f_145_20 : fe0 145 20 = some (.aload_n 0, 1, 0, 0, 0, 0, 0) := (pg_145 20).trans rfl
theorem f_145_21 : fe0 145 21 = some (.getfield 7, 3, 9, 0, 1, 0, 5024) := (pg_145 21).trans rfl
theorem f_145_24 : fe0 145 24 = some (.iload 5, 2, 0, 0, 0, 0, 0) := (pg_145 24).trans rfl
theorem f_145_26 : fe0 145 26 = some (.iconst 1, 1, 0, 0, 0, 0, 0) := (pg_145 26).trans rfl
theorem f_145_27 : fe0 145 27 = some (.iadd, 1, 0, 0, 0, 0, 0) := (pg_145 27).trans rfl
theorem f_145_28 : fe0 145 28 = some (.iload_n 2, 1, 0, 0, 0, 0, 0) := (pg_145 28).trans rfl
theorem f_145_29 : fe0 145 29 = some (.iastore, 1, 0, 0, 0, 0, 0) := (pg_145 29).trans rfl
theorem f_145_30 : fe0 145 30 = some (.aload_n 0, 1, 0, 0, 0, 0, 0) := (pg_145 30).trans rfl
theorem f_145_31 : fe0 145 31 = some (.getfield 7, 3, 9, 0, 1, 0, 5024) := (pg_145 31).trans rfl
theorem f_145_34 : fe0 145 34 = some (.iload 5, 2, 0, 0, 0, 0, 0) := (pg_145 34).trans rfl
theorem f_145_36 : fe0 145 36 = some (.iconst 2, 1, 0, 0, 0, 0, 0) := (pg_145 36).trans rfl
theorem f_145_37 : fe0 145 37 = some (.iadd, 1, 0, 0, 0, 0, 0) := (pg_145 37).trans rfl
theorem f_145_38 : fe0 145 38 = some (.iload_n 3, 1, 0, 0, 0, 0, 0) := (pg_145 38).trans rfl
theorem f_145_39 : fe0 145 39 = some (.iastore, 1, 0, 0, 0, 0, 0) := (pg_145 39).trans rfl
theorem f_145_40 : fe0 145 40 = some (.aload_n 0, 1, 0, 0, 0, 0, 0) := (pg_145 40).trans rfl
theorem f_145_41 : fe0 145 41 = some (.getfield 7, 3, 9, 0, 1, 0, 5024) := (pg_145 41).trans rfl
theorem f_145_44 : fe0 145 44 = some (.iload 5, 2, 0, 0, 0, 0, 0) := (pg_145 44).trans rfl
theorem f_145_46 : fe0 145 46 = some (.iconst 3, 1, 0, 0, 0, 0, 0) := (pg_145 46).trans rfl
theorem f_145_47 : fe0 145 47 = some (.iadd, 1, 0, 0, 0, 0, 0) := (pg_145 47).trans rfl
theorem f_145_48 : fe0 145 48 = some (.iload 4, 2, 0, 0, 0, 0, 0) := (pg_145 48).trans rfl
theorem f_145_50 : fe0 145 50 = some (.iastore, 1, 0, 0, 0, 0, 0) := (pg_145 50).trans rfl
theorem f_145_51 : fe0 145 51 = some (.aload_n 0, 1, 0, 0, 0, 0, 0) := (pg_145 51).trans rfl
theorem f_145_52 : fe0 145 52 = some (.getfield 7, 3, 9, 0, 1, 0, 5024) := (pg_145 52).trans rfl
theorem f_145_55 : fe0 145 55 = some (.iload 5, 2, 0, 0, 0, 0, 0) := (pg_145 55).trans rfl
theorem f_145_57 : fe0 145 57 = some (.iconst 4, 1, 0, 0, 0, 0, 0) := (pg_145 57).trans rfl
theorem f_145_58 : fe0 145 58 = some (.iadd, 1, 0, 0, 0, 0, 0) := (pg_145 58).trans rfl
theorem f_145_59 : fe0 145 59 = some (.iconst 0, 1, 0, 0, 0, 0, 0) := (pg_145 59).trans rfl
theorem f_145_60 : fe0 145 60 = some (.iastore, 1, 0, 0, 0, 0, 0) := (pg_145 60).trans rfl
theorem f_145_61 : fe0 145 61 = some (.aload_n 0, 1, 0, 0, 0, 0, 0) := (pg_145 61).trans rfl
theorem f_145_62 : fe0 145 62 = some (.getfield 7, 3, 9, 0, 1, 0, 5024) := (pg_145 62).trans rfl
theorem f_145_65 : fe0 145 65 = some (.iconst 0, 1, 0, 0, 0, 0, 0) := (pg_145 65).trans rfl
theorem f_145_66 : fe0 145 66 = some (.dup2, 1, 0, 0, 0, 0, 0) := (pg_145 66).trans rfl
theorem f_145_67 : fe0 145 67 = some (.iaload, 1, 0, 0, 0, 0, 0) := (pg_145 67).trans rfl
theorem f_145_68 : fe0 145 68 = some (.iconst 1, 1, 0, 0, 0, 0, 0) := (pg_145 68).trans rfl
theorem f_145_69 : fe0 145 69 = some (.iadd, 1, 0, 0, 0, 0, 0) := (pg_145 69).trans rfl
theorem f_145_70 : fe0 145 70 = some (.iastore, 1, 0, 0, 0, 0, 0) := (pg_145 70).trans rfl
theorem f_145_71 : fe0 145 71 = some (.return_, 1, 0, 0, 0, 0, 0) := (pg_145 71).trans rfl
theorem q_145_0 (d : Nat) (l0 : Nat) (x1 : Int32) (x2 : Int32) (x3 : Int32) (x4 : Int32) (μ : aMem) : Rn d 145 (0, [.ref l0, .int x1, .int x2, .int x3, .int x4, un], [], μ) = if (mS μ l0).1 = 9 then ((rdI μ (mR μ l0 0) 0).bind fun v2 => if (mS μ (mR μ l0 0)).1 = 10 ∧ inb (4 + (5 * v2)) (mS μ (mR μ l0 0)).2 then (if (mS μ (mR μ l0 0)).1 = 10 ∧ inb ((4 + (5 * v2)) + 1) (mS μ (mR μ l0 0)).2 then (if (mS μ (mR μ l0 0)).1 = 10 ∧ inb ((4 + (5 * v2)) + 2) (mS μ (mR μ l0 0)).2 then (if (mS μ (mR μ l0 0)).1 = 10 ∧ inb ((4 + (5 * v2)) + 3) (mS μ (mR μ l0 0)).2 then (if (mS μ (mR μ l0 0)).1 = 10 ∧ inb ((4 + (5 * v2)) + 4) (mS μ (mR μ l0 0)).2 then ((rdI (setF (setF (setF (setF (setF μ (mR μ l0 0) (ix (4 + (5 * v2))) x1) (mR μ l0 0) (ix ((4 + (5 * v2)) + 1)) x2) (mR μ l0 0) (ix ((4 + (5 * v2)) + 2)) x3) (mR μ l0 0) (ix ((4 + (5 * v2)) + 3)) x4) (mR μ l0 0) (ix ((4 + (5 * v2)) + 4)) 0) (mR μ l0 0) 0).bind fun v8 => if (mS μ (mR μ l0 0)).1 = 10 ∧ inb 0 (mS μ (mR μ l0 0)).2 then (some (none, setF (setF (setF (setF (setF (setF μ (mR μ l0 0) (ix (4 + (5 * v2))) x1) (mR μ l0 0) (ix ((4 + (5 * v2)) + 1)) x2) (mR μ l0 0) (ix ((4 + (5 * v2)) + 2)) x3) (mR μ l0 0) (ix ((4 + (5 * v2)) + 3)) x4) (mR μ l0 0) (ix ((4 + (5 * v2)) + 4)) 0) (mR μ l0 0) (ix 0) (v8 + 1))) else none) else none) else none) else none) else none) else none) else none :=
  (e_nx (q := (_, _, .int 4 :: _, _)) f_145_0 rfl).trans ((e_nx (q := (_, _, .int 5 :: _, _)) f_145_1 rfl).trans ((e_nx f_145_2 rfl).trans ((e_gd f_145_3 rfl).trans (g_congr (Iff.rfl) (fun h1 => (e_nx (q := (_, _, .int 0 :: _, _)) f_145_6 rfl).trans ((e_ia (L := [.ref l0, .int x1, .int x2, .int x3, .int x4, un]) (r := [.int 5, .int 4]) (μ := μ) f_145_7).trans (m_congr fun v2 => (e_nx f_145_8 rfl).trans ((e_nx f_145_9 rfl).trans ((e_nx (q := (_, [.ref l0, .int x1, .int x2, .int x3, .int x4, .int (4 + (5 * v2))], _, _)) f_145_10 rfl).trans ((e_nx f_145_12 rfl).trans ((e_gk f_145_13 (h1) rfl).trans ((e_nx f_145_16 rfl).trans ((e_nx f_145_18 rfl).trans ((e_gd f_145_19 rfl).trans (g_congr (Iff.rfl) (fun h3 => (e_nx f_145_20 rfl).trans ((e_gk f_145_21 (h1) rfl).trans ((e_nx f_145_24 rfl).trans ((e_nx (q := (_, _, .int 1 :: _, _)) f_145_26 rfl).trans ((e_nx f_145_27 rfl).trans ((e_nx f_145_28 rfl).trans ((e_gd f_145_29 rfl).trans (g_congr (Iff.rfl) (fun h4 => (e_nx f_145_30 rfl).trans ((e_gk f_145_31 (h1) rfl).trans ((e_nx f_145_34 rfl).trans ((e_nx (q := (_, _, .int 2 :: _, _)) f_145_36 rfl).trans ((e_nx f_145_37 rfl).trans ((e_nx f_145_38 rfl).trans ((e_gd f_145_39 rfl).trans (g_congr (Iff.rfl) (fun h5 => (e_nx f_145_40 rfl).trans ((e_gk f_145_41 (h1) rfl).trans ((e_nx f_145_44 rfl).trans ((e_nx (q := (_, _, .int 3 :: _, _)) f_145_46 rfl).trans ((e_nx f_145_47 rfl).trans ((e_nx f_145_48 rfl).trans ((e_gd f_145_50 rfl).trans (g_congr (Iff.rfl) (fun h6 => (e_nx f_145_51 rfl).trans ((e_gk f_145_52 (h1) rfl).trans ((e_nx f_145_55 rfl).trans ((e_nx (q := (_, _, .int 4 :: _, _)) f_145_57 rfl).trans ((e_nx f_145_58 rfl).trans ((e_nx (q := (_, _, .int 0 :: _, _)) f_145_59 rfl).trans ((e_gd f_145_60 rfl).trans (g_congr (Iff.rfl) (fun h7 => (e_nx f_145_61 rfl).trans ((e_gk f_145_62 (h1) rfl).trans ((e_nx (q := (_, _, .int 0 :: _, _)) f_145_65 rfl).trans ((e_nx f_145_66 rfl).trans ((e_ia (L := [.ref l0, .int x1, .int x2, .int x3, .int x4, .int (4 + (5 * v2))]) (r := [.int 0, .ref (mR μ l0 0)]) (μ := setF (setF (setF (setF (setF μ (mR μ l0 0) (ix (4 + (5 * v2))) x1) (mR μ l0 0) (ix ((4 + (5 * v2)) + 1)) x2) (mR μ l0 0) (ix ((4 + (5 * v2)) + 2)) x3) (mR μ l0 0) (ix ((4 + (5 * v2)) + 3)) x4) (mR μ l0 0) (ix ((4 + (5 * v2)) + 4)) 0) f_145_67).trans (m_congr fun v8 => (e_nx (q := (_, _, .int 1 :: _, _)) f_145_68 rfl).trans ((e_nx f_145_69 rfl).trans ((e_gd f_145_70 rfl).trans (g_congr (Iff.rfl) (fun h9 => e_rt f_145_71 rfl)))))))))))))))))))))))))))))))))))))))))))))))))))))))))
theorem pg_146 (pc : Nat) : fe0 146 pc = lk prg_146 pc := rfl
theorem f_146_0 : fe0 146 0 = some (.iload_n 1, 1, 0, 0, 0, 0, 0) := (pg_146 0).trans rfl
theorem f_146_1 : fe0 146 1 = some (.i2l, 1, 0, 0, 0, 0, 0) := (pg_146 1).trans rfl
theorem f_146_2 : fe0 146 2 = some (.lconst 0, 1, 0, 0, 0, 0, 0) := (pg_146 2).trans rfl
theorem f_146_3 : fe0 146 3 = some (.ldc2_w 89, 3, 0, 0, 5, 0, 5143) := (pg_146 3).trans rfl
theorem f_146_6 : fe0 146 6 = some (.invokestatic 84, 3, 133, 3, 2, 0, 5144) := (pg_146 6).trans rfl
theorem f_146_9 : fe0 146 9 = some (.ifCond .eq 35, 3, 0, 0, 0, 0, 0) := (pg_146 9).trans rfl
theorem f_146_12 : fe0 146 12 = some (.iload_n 2, 1, 0, 0, 0, 0, 0) := (pg_146 12).trans rfl
theorem f_146_13 : fe0 146 13 = some (.i2l, 1, 0, 0, 0, 0, 0) := (pg_146 13).trans rfl
theorem f_146_14 : fe0 146 14 = some (.lconst 0, 1, 0, 0, 0, 0, 0) := (pg_146 14).trans rfl
theorem f_146_15 : fe0 146 15 = some (.ldc2_w 91, 3, 0, 0, 99, 0, 5147) := (pg_146 15).trans rfl
theorem f_146_18 : fe0 146 18 = some (.invokestatic 84, 3, 133, 3, 2, 0, 5144) := (pg_146 18).trans rfl
theorem f_146_21 : fe0 146 21 = some (.ifCond .eq 23, 3, 0, 0, 0, 0, 0) := (pg_146 21).trans rfl
theorem f_146_24 : fe0 146 24 = some (.iload_n 3, 1, 0, 0, 0, 0, 0) := (pg_146 24).trans rfl
theorem f_146_25 : fe0 146 25 = some (.i2l, 1, 0, 0, 0, 0, 0) := (pg_146 25).trans rfl
theorem f_146_26 : fe0 146 26 = some (.lconst 0, 1, 0, 0, 0, 0, 0) := (pg_146 26).trans rfl
theorem f_146_27 : fe0 146 27 = some (.ldc2_w 93, 3, 0, 0, 10, 0, 5148) := (pg_146 27).trans rfl
theorem f_146_30 : fe0 146 30 = some (.invokestatic 84, 3, 133, 3, 2, 0, 5144) := (pg_146 30).trans rfl
theorem f_146_33 : fe0 146 33 = some (.ifCond .eq 11, 3, 0, 0, 0, 0, 0) := (pg_146 33).trans rfl
theorem f_146_36 : fe0 146 36 = some (.iload 4, 2, 0, 0, 0, 0, 0) := (pg_146 36).trans rfl
theorem f_146_38 : fe0 146 38 = some (.invokestatic 95, 3, 141, 1, 2, 0, 5149) := (pg_146 38).trans rfl
theorem f_146_41 : fe0 146 41 = some (.ifCond .ne 6, 3, 0, 0, 0, 0, 0) := (pg_146 41).trans rfl
theorem f_146_44 : fe0 146 44 = some (.ldc 99, 2, 0, 0, 3294967295, 0, 5152) := (pg_146 44).trans rfl
theorem f_146_46 : fe0 146 46 = some (.ireturn, 1, 0, 0, 0, 0, 0) := (pg_146 46).trans rfl
theorem f_146_47 : fe0 146 47 = some (.aload_n 0, 1, 0, 0, 0, 0, 0) := (pg_146 47).trans rfl
theorem f_146_48 : fe0 146 48 = some (.getfield 7, 3, 9, 0, 1, 0, 5024) := (pg_146 48).trans rfl
theorem f_146_51 : fe0 146 51 = some (.iconst 0, 1, 0, 0, 0, 0, 0) := (pg_146 51).trans rfl
theorem f_146_52 : fe0 146 52 = some (.iaload, 1, 0, 0, 0, 0, 0) := (pg_146 52).trans rfl
theorem f_146_53 : fe0 146 53 = some (.bipush 10, 2, 0, 0, 0, 0, 0) := (pg_146 53).trans rfl
theorem f_146_55 : fe0 146 55 = some (.if_icmp .ne 6, 3, 0, 0, 0, 0, 0) := (pg_146 55).trans rfl
theorem f_146_58 : fe0 146 58 = some (.ldc 100, 2, 0, 0, 3294967293, 0, 5153) := (pg_146 58).trans rfl
theorem f_146_60 : fe0 146 60 = some (.ireturn, 1, 0, 0, 0, 0, 0) := (pg_146 60).trans rfl
theorem f_146_61 : fe0 146 61 = some (.aload_n 0, 1, 0, 0, 0, 0, 0) := (pg_146 61).trans rfl
theorem f_146_62 : fe0 146 62 = some (.iload_n 1, 1, 0, 0, 0, 0, 0) := (pg_146 62).trans rfl
theorem f_146_63 : fe0 146 63 = some (.iload_n 2, 1, 0, 0, 0, 0, 0) := (pg_146 63).trans rfl
theorem f_146_64 : fe0 146 64 = some (.iload_n 3, 1, 0, 0, 0, 0, 0) := (pg_146 64).trans rfl
theorem f_146_65 : fe0 146 65 = some (.iload 4, 2, 0, 0, 0, 0, 0) := (pg_146 65).trans rfl
theorem f_146_67 : fe0 146 67 = some (.invokevirtual 101, 3, 145, 4, 0, 9, 5154) := (pg_146 67).trans rfl
theorem f_146_70 : fe0 146 70 = some (.aload_n 0, 1, 0, 0, 0, 0, 0) := (pg_146 70).trans rfl
theorem f_146_71 : fe0 146 71 = some (.getfield 7, 3, 9, 0, 1, 0, 5024) := (pg_146 71).trans rfl
theorem f_146_74 : fe0 146 74 = some (.iconst 0, 1, 0, 0, 0, 0, 0) := (pg_146 74).trans rfl
theorem f_146_75 : fe0 146 75 = some (.iaload, 1, 0, 0, 0, 0, 0) := (pg_146 75).trans rfl
theorem f_146_76 : fe0 146 76 = some (.iconst 1, 1, 0, 0, 0, 0, 0) := (pg_146 76).trans rfl
theorem f_146_77 : fe0 146 77 = some (.isub, 1, 0, 0, 0, 0, 0) := (pg_146 77).trans rfl
theorem f_146_78 : fe0 146 78 = some (.ireturn, 1, 0, 0, 0, 0, 0) := (pg_146 78).trans rfl
theorem q_146_0 (d : Nat) (l0 : Nat) (x1 : Int32) (x2 : Int32) (x3 : Int32) (x4 : Int32) (μ : aMem) : Rn (d + 1) 146 (0, [.ref l0, .int x1, .int x2, .int x3, .int x4], [], μ) = (cI d 133 [.long ((x1 : Int32).toInt64), .long 0, .long 5] μ).bind fun p1 => if p1.1 = 0 then (some (some (.int (-1000000001)), p1.2)) else ((cI d 133 [.long ((x2 : Int32).toInt64), .long 0, .long 99] p1.2).bind fun p3 => if p3.1 = 0 then (some (some (.int (-1000000001)), p3.2)) else ((cI d 133 [.long ((x3 : Int32).toInt64), .long 0, .long 10] p3.2).bind fun p5 => if p5.1 = 0 then (some (some (.int (-1000000001)), p5.2)) else ((cI d 141 [.int x4] p5.2).bind fun p7 => if p7.1 = 0 then (some (some (.int (-1000000001)), p7.2)) else (if (mS p7.2 l0).1 = 9 then ((rdI p7.2 (mR p7.2 l0 0) 0).bind fun v10 => if v10 = 10 then (some (some (.int (-1000000003)), p7.2)) else (if (mS p7.2 l0).1 = 9 ∧ l0 < 999999 then ((cV d 145 [.ref l0, .int x1, .int x2, .int x3, .int x4] p7.2).bind fun p12 => if (mS p12 l0).1 = 9 then ((rdI p12 (mR p12 l0 0) 0).bind fun v15 => some (some (.int (v15 - 1)), p12)) else none) else none)) else none)))) :=
  (e_nx f_146_0 rfl).trans ((e_nx f_146_1 rfl).trans ((e_nx (q := (_, _, .long 0 :: _, _)) f_146_2 rfl).trans ((e_nx (q := (_, _, .long 5 :: _, _)) f_146_3 rfl).trans ((e_cI (L := [.ref l0, .int x1, .int x2, .int x3, .int x4]) (st := [.long 5, .long 0, .long ((x1 : Int32).toInt64)]) (μ := μ) (L' := [.ref l0, .int x1, .int x2, .int x3, .int x4]) (st' := []) f_146_6 rfl rfl).trans (m_congr fun p1 => (e_eq f_146_9 rfl).trans (b_congr (fun h2 => (e_nx (q := (_, _, .int (-1000000001) :: _, _)) f_146_44 rfl).trans (e_rt f_146_46 rfl)) (fun h2 => (e_nx f_146_12 rfl).trans ((e_nx f_146_13 rfl).trans ((e_nx (q := (_, _, .long 0 :: _, _)) f_146_14 rfl).trans ((e_nx (q := (_, _, .long 99 :: _, _)) f_146_15 rfl).trans ((e_cI (L := [.ref l0, .int x1, .int x2, .int x3, .int x4]) (st := [.long 99, .long 0, .long ((x2 : Int32).toInt64)]) (μ := p1.2) (L' := [.ref l0, .int x1, .int x2, .int x3, .int x4]) (st' := []) f_146_18 rfl rfl).trans (m_congr fun p3 => (e_eq f_146_21 rfl).trans (b_congr (fun h4 => (e_nx (q := (_, _, .int (-1000000001) :: _, _)) f_146_44 rfl).trans (e_rt f_146_46 rfl)) (fun h4 => (e_nx f_146_24 rfl).trans ((e_nx f_146_25 rfl).trans ((e_nx (q := (_, _, .long 0 :: _, _)) f_146_26 rfl).trans ((e_nx (q := (_, _, .long 10 :: _, _)) f_146_27 rfl).trans ((e_cI (L := [.ref l0, .int x1, .int x2, .int x3, .int x4]) (st := [.long 10, .long 0, .long ((x3 : Int32).toInt64)]) (μ := p3.2) (L' := [.ref l0, .int x1, .int x2, .int x3, .int x4]) (st' := []) f_146_30 rfl rfl).trans (m_congr fun p5 => (e_eq f_146_33 rfl).trans (b_congr (fun h6 => (e_nx (q := (_, _, .int (-1000000001) :: _, _)) f_146_44 rfl).trans (e_rt f_146_46 rfl)) (fun h6 => (e_nx f_146_36 rfl).trans ((e_cI (L := [.ref l0, .int x1, .int x2, .int x3, .int x4]) (st := [.int x4]) (μ := p5.2) (L' := [.ref l0, .int x1, .int x2, .int x3, .int x4]) (st' := []) f_146_38 rfl rfl).trans (m_congr fun p7 => (e_ne f_146_41 rfl).trans (b_congr (fun h8 => (e_nx (q := (_, _, .int (-1000000001) :: _, _)) f_146_44 rfl).trans (e_rt f_146_46 rfl)) (fun h8 => (e_nx f_146_47 rfl).trans ((e_gd f_146_48 rfl).trans (g_congr (Iff.rfl) (fun h9 => (e_nx (q := (_, _, .int 0 :: _, _)) f_146_51 rfl).trans ((e_ia (L := [.ref l0, .int x1, .int x2, .int x3, .int x4]) (r := []) (μ := p7.2) f_146_52).trans (m_congr fun v10 => (e_nx (q := (_, _, .int 10 :: _, _)) f_146_53 rfl).trans ((e_ne f_146_55 rfl).trans (b_congr (fun h11 => (e_nx (q := (_, _, .int (-1000000003) :: _, _)) f_146_58 rfl).trans (e_rt f_146_60 rfl)) (fun h11 => (e_nx f_146_61 rfl).trans ((e_nx f_146_62 rfl).trans ((e_nx f_146_63 rfl).trans ((e_nx f_146_64 rfl).trans ((e_nx f_146_65 rfl).trans ((e_gV (L := [.ref l0, .int x1, .int x2, .int x3, .int x4]) (st := [.int x4, .int x3, .int x2, .int x1, .ref l0]) (μ := p7.2) (L' := [.ref l0, .int x1, .int x2, .int x3, .int x4]) (st' := []) f_146_67 rfl rfl).trans (g_congr (v_c2 rfl (Nat.le_of_ble_eq_true rfl)) (fun h13 => m_congr fun p12 => (e_nx f_146_70 rfl).trans ((e_gd f_146_71 rfl).trans (g_congr (Iff.rfl) (fun h14 => (e_nx (q := (_, _, .int 0 :: _, _)) f_146_74 rfl).trans ((e_ia (L := [.ref l0, .int x1, .int x2, .int x3, .int x4]) (r := []) (μ := p12) f_146_75).trans (m_congr fun v15 => (e_nx (q := (_, _, .int 1 :: _, _)) f_146_76 rfl).trans ((e_nx f_146_77 rfl).trans (e_rt f_146_78 rfl)))))))))))))))))))))))))))))))))))))))))))))))
theorem pg_147 (pc : Nat) : fe0 147 pc = lk prg_147 pc := rfl
theorem f_147_0 : fe0 147 0 = some (.iconst 0, 1, 0, 0, 0, 0, 0) := (pg_147 0).trans rfl
theorem f_147_1 : fe0 147 1 = some (.istore_n 2, 1, 0, 0, 0, 0, 0) := (pg_147 1).trans rfl
theorem f_147_2 : fe0 147 2 = some (.iconst 0, 1, 0, 0, 0, 0, 0) := (pg_147 2).trans rfl
theorem f_147_3 : fe0 147 3 = some (.istore_n 3, 1, 0, 0, 0, 0, 0) := (pg_147 3).trans rfl
theorem f_147_4 : fe0 147 4 = some (.iconst 0, 1, 0, 0, 0, 0, 0) := (pg_147 4).trans rfl
theorem f_147_5 : fe0 147 5 = some (.istore 4, 2, 0, 0, 0, 0, 0) := (pg_147 5).trans rfl
theorem f_147_7 : fe0 147 7 = some (.iload 4, 2, 0, 0, 0, 0, 0) := (pg_147 7).trans rfl
theorem f_147_9 : fe0 147 9 = some (.aload_n 0, 1, 0, 0, 0, 0, 0) := (pg_147 9).trans rfl
theorem f_147_10 : fe0 147 10 = some (.getfield 7, 3, 9, 0, 1, 0, 5024) := (pg_147 10).trans rfl
theorem f_147_13 : fe0 147 13 = some (.iconst 1, 1, 0, 0, 0, 0, 0) := (pg_147 13).trans rfl
theorem f_147_14 : fe0 147 14 = some (.iaload, 1, 0, 0, 0, 0, 0) := (pg_147 14).trans rfl
theorem f_147_15 : fe0 147 15 = some (.if_icmp .ge 57, 3, 0, 0, 0, 0, 0) := (pg_147 15).trans rfl
theorem f_147_18 : fe0 147 18 = some (.bipush 54, 2, 0, 0, 0, 0, 0) := (pg_147 18).trans rfl
theorem f_147_20 : fe0 147 20 = some (.iconst 3, 1, 0, 0, 0, 0, 0) := (pg_147 20).trans rfl
theorem f_147_21 : fe0 147 21 = some (.iload 4, 2, 0, 0, 0, 0, 0) := (pg_147 21).trans rfl
theorem f_147_23 : fe0 147 23 = some (.imul, 1, 0, 0, 0, 0, 0) := (pg_147 23).trans rfl
theorem f_147_24 : fe0 147 24 = some (.iadd, 1, 0, 0, 0, 0, 0) := (pg_147 24).trans rfl
theorem f_147_25 : fe0 147 25 = some (.istore 5, 2, 0, 0, 0, 0, 0) := (pg_147 25).trans rfl
theorem f_147_27 : fe0 147 27 = some (.iload_n 1, 1, 0, 0, 0, 0, 0) := (pg_147 27).trans rfl
theorem f_147_28 : fe0 147 28 = some (.ifCond .lt 14, 3, 0, 0, 0, 0, 0) := (pg_147 28).trans rfl
theorem f_147_31 : fe0 147 31 = some (.aload_n 0, 1, 0, 0, 0, 0, 0) := (pg_147 31).trans rfl
theorem f_147_32 : fe0 147 32 = some (.getfield 7, 3, 9, 0, 1, 0, 5024) := (pg_147 32).trans rfl
theorem f_147_35 : fe0 147 35 = some (.iload 5, 2, 0, 0, 0, 0, 0) := (pg_147 35).trans rfl
theorem f_147_37 : fe0 147 37 = some (.iaload, 1, 0, 0, 0, 0, 0) := (pg_147 37).trans rfl
theorem f_147_38 : fe0 147 38 = some (.iload_n 1, 1, 0, 0, 0, 0, 0) := (pg_147 38).trans rfl
theorem f_147_39 : fe0 147 39 = some (.if_icmp .ne 27, 3, 0, 0, 0, 0, 0) := (pg_147 39).trans rfl
theorem f_147_42 : fe0 147 42 = some (.iload_n 3, 1, 0, 0, 0, 0, 0) := (pg_147 42).trans rfl
theorem f_147_43 : fe0 147 43 = some (.aload_n 0, 1, 0, 0, 0, 0, 0) := (pg_147 43).trans rfl
theorem f_147_44 : fe0 147 44 = some (.getfield 7, 3, 9, 0, 1, 0, 5024) := (pg_147 44).trans rfl
theorem f_147_47 : fe0 147 47 = some (.iload 5, 2, 0, 0, 0, 0, 0) := (pg_147 47).trans rfl
theorem f_147_49 : fe0 147 49 = some (.iconst 1, 1, 0, 0, 0, 0, 0) := (pg_147 49).trans rfl
theorem f_147_50 : fe0 147 50 = some (.iadd, 1, 0, 0, 0, 0, 0) := (pg_147 50).trans rfl
theorem f_147_51 : fe0 147 51 = some (.iaload, 1, 0, 0, 0, 0, 0) := (pg_147 51).trans rfl
theorem f_147_52 : fe0 147 52 = some (.iadd, 1, 0, 0, 0, 0, 0) := (pg_147 52).trans rfl
theorem f_147_53 : fe0 147 53 = some (.istore_n 3, 1, 0, 0, 0, 0, 0) := (pg_147 53).trans rfl
theorem f_147_54 : fe0 147 54 = some (.iload_n 2, 1, 0, 0, 0, 0, 0) := (pg_147 54).trans rfl
theorem f_147_55 : fe0 147 55 = some (.aload_n 0, 1, 0, 0, 0, 0, 0) := (pg_147 55).trans rfl
theorem f_147_56 : fe0 147 56 = some (.getfield 7, 3, 9, 0, 1, 0, 5024) := (pg_147 56).trans rfl
theorem f_147_59 : fe0 147 59 = some (.iload 5, 2, 0, 0, 0, 0, 0) := (pg_147 59).trans rfl
theorem f_147_61 : fe0 147 61 = some (.iconst 2, 1, 0, 0, 0, 0, 0) := (pg_147 61).trans rfl
theorem f_147_62 : fe0 147 62 = some (.iadd, 1, 0, 0, 0, 0, 0) := (pg_147 62).trans rfl
theorem f_147_63 : fe0 147 63 = some (.iaload, 1, 0, 0, 0, 0, 0) := (pg_147 63).trans rfl
theorem f_147_64 : fe0 147 64 = some (.iadd, 1, 0, 0, 0, 0, 0) := (pg_147 64).trans rfl
theorem f_147_65 : fe0 147 65 = some (.istore_n 2, 1, 0, 0, 0, 0, 0) := (pg_147 65).trans rfl
theorem f_147_66 : fe0 147 66 = some (.iinc 4 1, 3, 0, 0, 0, 0, 0) := (pg_147 66).trans rfl
theorem f_147_69 : fe0 147 69 = some (.goto (-62), 3, 0, 0, 0, 0, 0) := (pg_147 69).trans rfl
theorem f_147_72 : fe0 147 72 = some (.iload_n 3, 1, 0, 0, 0, 0, 0) := (pg_147 72).trans rfl
theorem f_147_73 : fe0 147 73 = some (.ifCond .ne 8, 3, 0, 0, 0, 0, 0) := (pg_147 73).trans rfl
theorem f_147_76 : fe0 147 76 = some (.bipush 100, 2, 0, 0, 0, 0, 0) := (pg_147 76).trans rfl
theorem f_147_78 : fe0 147 78 = some (.goto 9, 3, 0, 0, 0, 0, 0) := (pg_147 78).trans rfl
theorem f_147_81 : fe0 147 81 = some (.bipush 100, 2, 0, 0, 0, 0, 0) := (pg_147 81).trans rfl
theorem f_147_83 : fe0 147 83 = some (.iload_n 2, 1, 0, 0, 0, 0, 0) := (pg_147 83).trans rfl
theorem f_147_84 : fe0 147 84 = some (.imul, 1, 0, 0, 0, 0, 0) := (pg_147 84).trans rfl
theorem f_147_85 : fe0 147 85 = some (.iload_n 3, 1, 0, 0, 0, 0, 0) := (pg_147 85).trans rfl
theorem f_147_86 : fe0 147 86 = some (.idiv, 1, 0, 0, 0, 0, 0) := (pg_147 86).trans rfl
theorem f_147_87 : fe0 147 87 = some (.istore 4, 2, 0, 0, 0, 0, 0) := (pg_147 87).trans rfl
theorem f_147_89 : fe0 147 89 = some (.iload 4, 2, 0, 0, 0, 0, 0) := (pg_147 89).trans rfl
theorem f_147_91 : fe0 147 91 = some (.iconst 1, 1, 0, 0, 0, 0, 0) := (pg_147 91).trans rfl
theorem f_147_92 : fe0 147 92 = some (.if_icmp .ge 7, 3, 0, 0, 0, 0, 0) := (pg_147 92).trans rfl
theorem f_147_95 : fe0 147 95 = some (.iconst 1, 1, 0, 0, 0, 0, 0) := (pg_147 95).trans rfl
theorem f_147_96 : fe0 147 96 = some (.goto 19, 3, 0, 0, 0, 0, 0) := (pg_147 96).trans rfl
theorem f_147_99 : fe0 147 99 = some (.iload 4, 2, 0, 0, 0, 0, 0) := (pg_147 99).trans rfl
theorem f_147_101 : fe0 147 101 = some (.sipush 999, 3, 0, 0, 0, 0, 0) := (pg_147 101).trans rfl
theorem f_147_104 : fe0 147 104 = some (.if_icmp .le 9, 3, 0, 0, 0, 0, 0) := (pg_147 104).trans rfl
theorem f_147_107 : fe0 147 107 = some (.sipush 999, 3, 0, 0, 0, 0, 0) := (pg_147 107).trans rfl
theorem f_147_110 : fe0 147 110 = some (.goto 5, 3, 0, 0, 0, 0, 0) := (pg_147 110).trans rfl
theorem f_147_113 : fe0 147 113 = some (.iload 4, 2, 0, 0, 0, 0, 0) := (pg_147 113).trans rfl
theorem f_147_115 : fe0 147 115 = some (.ireturn, 1, 0, 0, 0, 0, 0) := (pg_147 115).trans rfl
theorem q_147_0 (d : Nat) (l0 : Nat) (x1 : Int32) (μ : aMem) : Rn d 147 (0, [.ref l0, .int x1, un, un, un, un], [], μ) = Rn d 147 (7, [.ref l0, .int x1, .int 0, .int 0, .int 0, un], [], μ) :=
  (e_nx (q := (_, _, .int 0 :: _, _)) f_147_0 rfl).trans ((e_nx (q := (_, [.ref l0, .int x1, .int 0, un, un, un], _, _)) f_147_1 rfl).trans ((e_nx (q := (_, _, .int 0 :: _, _)) f_147_2 rfl).trans ((e_nx (q := (_, [.ref l0, .int x1, .int 0, .int 0, un, un], _, _)) f_147_3 rfl).trans ((e_nx (q := (_, _, .int 0 :: _, _)) f_147_4 rfl).trans (e_nx (q := (_, [.ref l0, .int x1, .int 0, .int 0, .int 0, un], _, _)) f_147_5 rfl)))))
theorem q_147_7 (d : Nat) (l0 : Nat) (x1 : Int32) (x2 : Int32) (x3 : Int32) (x4 : Int32) (w5 : Value) (μ : aMem) : Rn d 147 (7, [.ref l0, .int x1, .int x2, .int x3, .int x4, w5], [], μ) = if (mS μ l0).1 = 9 then ((rdI μ (mR μ l0 0) 1).bind fun v2 => if v2 ≤ x4 then (if x3 = 0 then (if 1 ≤ (100 : Int32) then (if (100 : Int32) ≤ 999 then (some (some (.int 100), μ)) else (some (some (.int 999), μ))) else (some (some (.int 1), μ))) else (if ¬ x3 = 0 then (if 1 ≤ ((100 * x2) / x3) then (if ((100 * x2) / x3) ≤ 999 then (some (some (.int ((100 * x2) / x3)), μ)) else (some (some (.int 999), μ))) else (some (some (.int 1), μ))) else none)) else (if x1 < 0 then ((rdI μ (mR μ l0 0) ((54 + (3 * x4)) + 1)).bind fun v11 => (rdI μ (mR μ l0 0) ((54 + (3 * x4)) + 2)).bind fun v12 => Rn d 147 (7, [.ref l0, .int x1, .int (x2 + v12), .int (x3 + v11), .int (x4 + 1), .int (54 + (3 * x4))], [], μ)) else ((rdI μ (mR μ l0 0) (54 + (3 * x4))).bind fun v13 => if v13 = x1 then ((rdI μ (mR μ l0 0) ((54 + (3 * x4)) + 1)).bind fun v15 => (rdI μ (mR μ l0 0) ((54 + (3 * x4)) + 2)).bind fun v16 => Rn d 147 (7, [.ref l0, .int x1, .int (x2 + v16), .int (x3 + v15), .int (x4 + 1), .int (54 + (3 * x4))], [], μ)) else (Rn d 147 (7, [.ref l0, .int x1, .int x2, .int x3, .int (x4 + 1), .int (54 + (3 * x4))], [], μ))))) else none :=
  (e_nx f_147_7 rfl).trans ((e_nx f_147_9 rfl).trans ((e_gd f_147_10 rfl).trans (g_congr (Iff.rfl) (fun h1 => (e_nx (q := (_, _, .int 1 :: _, _)) f_147_13 rfl).trans ((e_ia (L := [.ref l0, .int x1, .int x2, .int x3, .int x4, w5]) (r := [.int x4]) (μ := μ) f_147_14).trans (m_congr fun v2 => (e_ge f_147_15 rfl).trans (b_congr (fun h3 => (e_nx f_147_72 rfl).trans ((e_ne f_147_73 rfl).trans (b_congr (fun h4 => (e_nx (q := (_, _, .int 100 :: _, _)) f_147_76 rfl).trans ((e_nx f_147_78 rfl).trans ((e_nx (q := (_, [.ref l0, .int x1, .int x2, .int x3, .int 100, w5], _, _)) f_147_87 rfl).trans ((e_nx f_147_89 rfl).trans ((e_nx (q := (_, _, .int 1 :: _, _)) f_147_91 rfl).trans ((e_ge f_147_92 rfl).trans (b_congr (fun h5 => (e_nx f_147_99 rfl).trans ((e_nx (q := (_, _, .int 999 :: _, _)) f_147_101 rfl).trans ((e_le f_147_104 rfl).trans (b_congr (fun h6 => (e_nx f_147_113 rfl).trans (e_rt f_147_115 rfl)) (fun h6 => (e_nx (q := (_, _, .int 999 :: _, _)) f_147_107 rfl).trans ((e_nx f_147_110 rfl).trans (e_rt f_147_115 rfl))))))) (fun h5 => (e_nx (q := (_, _, .int 1 :: _, _)) f_147_95 rfl).trans ((e_nx f_147_96 rfl).trans (e_rt f_147_115 rfl)))))))))) (fun h4 => (e_nx (q := (_, _, .int 100 :: _, _)) f_147_81 rfl).trans ((e_nx f_147_83 rfl).trans ((e_nx f_147_84 rfl).trans ((e_nx f_147_85 rfl).trans ((e_gd f_147_86 rfl).trans (g_congr (Iff.rfl) (fun h7 => (e_nx (q := (_, [.ref l0, .int x1, .int x2, .int x3, .int ((100 * x2) / x3), w5], _, _)) f_147_87 rfl).trans ((e_nx f_147_89 rfl).trans ((e_nx (q := (_, _, .int 1 :: _, _)) f_147_91 rfl).trans ((e_ge f_147_92 rfl).trans (b_congr (fun h8 => (e_nx f_147_99 rfl).trans ((e_nx (q := (_, _, .int 999 :: _, _)) f_147_101 rfl).trans ((e_le f_147_104 rfl).trans (b_congr (fun h9 => (e_nx f_147_113 rfl).trans (e_rt f_147_115 rfl)) (fun h9 => (e_nx (q := (_, _, .int 999 :: _, _)) f_147_107 rfl).trans ((e_nx f_147_110 rfl).trans (e_rt f_147_115 rfl))))))) (fun h8 => (e_nx (q := (_, _, .int 1 :: _, _)) f_147_95 rfl).trans ((e_nx f_147_96 rfl).trans (e_rt f_147_115 rfl))))))))))))))))) (fun h3 => (e_nx (q := (_, _, .int 54 :: _, _)) f_147_18 rfl).trans ((e_nx (q := (_, _, .int 3 :: _, _)) f_147_20 rfl).trans ((e_nx f_147_21 rfl).trans ((e_nx f_147_23 rfl).trans ((e_nx f_147_24 rfl).trans ((e_nx (q := (_, [.ref l0, .int x1, .int x2, .int x3, .int x4, .int (54 + (3 * x4))], _, _)) f_147_25 rfl).trans ((e_nx f_147_27 rfl).trans ((e_lt f_147_28 rfl).trans (b_congr (fun h10 => (e_nx f_147_42 rfl).trans ((e_nx f_147_43 rfl).trans ((e_gk f_147_44 (h1) rfl).trans ((e_nx f_147_47 rfl).trans ((e_nx (q := (_, _, .int 1 :: _, _)) f_147_49 rfl).trans ((e_nx f_147_50 rfl).trans ((e_ia (L := [.ref l0, .int x1, .int x2, .int x3, .int x4, .int (54 + (3 * x4))]) (r := [.int x3]) (μ := μ) f_147_51).trans (m_congr fun v11 => (e_nx f_147_52 rfl).trans ((e_nx (q := (_, [.ref l0, .int x1, .int x2, .int (x3 + v11), .int x4, .int (54 + (3 * x4))], _, _)) f_147_53 rfl).trans ((e_nx f_147_54 rfl).trans ((e_nx f_147_55 rfl).trans ((e_gk f_147_56 (h1) rfl).trans ((e_nx f_147_59 rfl).trans ((e_nx (q := (_, _, .int 2 :: _, _)) f_147_61 rfl).trans ((e_nx f_147_62 rfl).trans ((e_ia (L := [.ref l0, .int x1, .int x2, .int (x3 + v11), .int x4, .int (54 + (3 * x4))]) (r := [.int x2]) (μ := μ) f_147_63).trans (m_congr fun v12 => (e_nx f_147_64 rfl).trans ((e_nx (q := (_, [.ref l0, .int x1, .int (x2 + v12), .int (x3 + v11), .int x4, .int (54 + (3 * x4))], _, _)) f_147_65 rfl).trans ((e_nx (q := (_, [.ref l0, .int x1, .int (x2 + v12), .int (x3 + v11), .int (x4 + 1), .int (54 + (3 * x4))], _, _)) f_147_66 rfl).trans (e_nx f_147_69 rfl)))))))))))))))))))) (fun h10 => (e_nx f_147_31 rfl).trans ((e_gk f_147_32 (h1) rfl).trans ((e_nx f_147_35 rfl).trans ((e_ia (L := [.ref l0, .int x1, .int x2, .int x3, .int x4, .int (54 + (3 * x4))]) (r := []) (μ := μ) f_147_37).trans (m_congr fun v13 => (e_nx f_147_38 rfl).trans ((e_ne f_147_39 rfl).trans (b_congr (fun h14 => (e_nx f_147_42 rfl).trans ((e_nx f_147_43 rfl).trans ((e_gk f_147_44 (h1) rfl).trans ((e_nx f_147_47 rfl).trans ((e_nx (q := (_, _, .int 1 :: _, _)) f_147_49 rfl).trans ((e_nx f_147_50 rfl).trans ((e_ia (L := [.ref l0, .int x1, .int x2, .int x3, .int x4, .int (54 + (3 * x4))]) (r := [.int x3]) (μ := μ) f_147_51).trans (m_congr fun v15 => (e_nx f_147_52 rfl).trans ((e_nx (q := (_, [.ref l0, .int x1, .int x2, .int (x3 + v15), .int x4, .int (54 + (3 * x4))], _, _)) f_147_53 rfl).trans ((e_nx f_147_54 rfl).trans ((e_nx f_147_55 rfl).trans ((e_gk f_147_56 (h1) rfl).trans ((e_nx f_147_59 rfl).trans ((e_nx (q := (_, _, .int 2 :: _, _)) f_147_61 rfl).trans ((e_nx f_147_62 rfl).trans ((e_ia (L := [.ref l0, .int x1, .int x2, .int (x3 + v15), .int x4, .int (54 + (3 * x4))]) (r := [.int x2]) (μ := μ) f_147_63).trans (m_congr fun v16 => (e_nx f_147_64 rfl).trans ((e_nx (q := (_, [.ref l0, .int x1, .int (x2 + v16), .int (x3 + v15), .int x4, .int (54 + (3 * x4))], _, _)) f_147_65 rfl).trans ((e_nx (q := (_, [.ref l0, .int x1, .int (x2 + v16), .int (x3 + v15), .int (x4 + 1), .int (54 + (3 * x4))], _, _)) f_147_66 rfl).trans (e_nx f_147_69 rfl)))))))))))))))))))) (fun h14 => (e_nx (q := (_, [.ref l0, .int x1, .int x2, .int x3, .int (x4 + 1), .int (54 + (3 * x4))], _, _)) f_147_66 rfl).trans (e_nx f_147_69 rfl)))))))))))))))))))))))))
theorem pg_148 (pc : Nat) : fe0 148 pc = lk prg_148 pc := rfl
theorem f_148_0 : fe0 148 0 = some (.iconst 1, 1, 0, 0, 0, 0, 0) := (pg_148 0).trans rfl
theorem f_148_1 : fe0 148 1 = some (.istore_n 1, 1, 0, 0, 0, 0, 0) := (pg_148 1).trans rfl
theorem f_148_2 : fe0 148 2 = some (.iconst 2, 1, 0, 0, 0, 0, 0) := (pg_148 2).trans rfl
theorem f_148_3 : fe0 148 3 = some (.istore_n 2, 1, 0, 0, 0, 0, 0) := (pg_148 3).trans rfl
theorem f_148_4 : fe0 148 4 = some (.iload_n 1, 1, 0, 0, 0, 0, 0) := (pg_148 4).trans rfl
theorem f_148_5 : fe0 148 5 = some (.iload_n 0, 1, 0, 0, 0, 0, 0) := (pg_148 5).trans rfl
theorem f_148_6 : fe0 148 6 = some (.if_icmp .ge 20, 3, 0, 0, 0, 0, 0) := (pg_148 6).trans rfl
theorem f_148_9 : fe0 148 9 = some (.iload_n 1, 1, 0, 0, 0, 0, 0) := (pg_148 9).trans rfl
theorem f_148_10 : fe0 148 10 = some (.bipush 89, 2, 0, 0, 0, 0, 0) := (pg_148 10).trans rfl
theorem f_148_12 : fe0 148 12 = some (.if_icmp .ge 14, 3, 0, 0, 0, 0, 0) := (pg_148 12).trans rfl
theorem f_148_15 : fe0 148 15 = some (.iload_n 1, 1, 0, 0, 0, 0, 0) := (pg_148 15).trans rfl
theorem f_148_16 : fe0 148 16 = some (.iload_n 2, 1, 0, 0, 0, 0, 0) := (pg_148 16).trans rfl
theorem f_148_17 : fe0 148 17 = some (.iadd, 1, 0, 0, 0, 0, 0) := (pg_148 17).trans rfl
theorem f_148_18 : fe0 148 18 = some (.istore_n 3, 1, 0, 0, 0, 0, 0) := (pg_148 18).trans rfl
theorem f_148_19 : fe0 148 19 = some (.iload_n 2, 1, 0, 0, 0, 0, 0) := (pg_148 19).trans rfl
theorem f_148_20 : fe0 148 20 = some (.istore_n 1, 1, 0, 0, 0, 0, 0) := (pg_148 20).trans rfl
theorem f_148_21 : fe0 148 21 = some (.iload_n 3, 1, 0, 0, 0, 0, 0) := (pg_148 21).trans rfl
theorem f_148_22 : fe0 148 22 = some (.istore_n 2, 1, 0, 0, 0, 0, 0) := (pg_148 22).trans rfl
theorem f_148_23 : fe0 148 23 = some (.goto (-19), 3, 0, 0, 0, 0, 0) := (pg_148 23).trans rfl
theorem f_148_26 : fe0 148 26 = some (.iload_n 1, 1, 0, 0, 0, 0, 0) := (pg_148 26).trans rfl
theorem f_148_27 : fe0 148 27 = some (.ireturn, 1, 0, 0, 0, 0, 0) := (pg_148 27).trans rfl
theorem q_148_0 (d : Nat) (x0 : Int32) (μ : aMem) : Rn d 148 (0, [.int x0, un, un, un], [], μ) = Rn d 148 (4, [.int x0, .int 1, .int 2, un], [], μ) :=
  (e_nx (q := (_, _, .int 1 :: _, _)) f_148_0 rfl).trans ((e_nx (q := (_, [.int x0, .int 1, un, un], _, _)) f_148_1 rfl).trans ((e_nx (q := (_, _, .int 2 :: _, _)) f_148_2 rfl).trans (e_nx (q := (_, [.int x0, .int 1, .int 2, un], _, _)) f_148_3 rfl)))
theorem q_148_4 (d : Nat) (x0 : Int32) (x1 : Int32) (x2 : Int32) (w3 : Value) (μ : aMem) : Rn d 148 (4, [.int x0, .int x1, .int x2, w3], [], μ) = if x0 ≤ x1 then (some (some (.int x1), μ)) else (if 89 ≤ x1 then (some (some (.int x1), μ)) else (Rn d 148 (4, [.int x0, .int x2, .int (x1 + x2), .int (x1 + x2)], [], μ))) :=
  (e_nx f_148_4 rfl).trans ((e_nx f_148_5 rfl).trans ((e_ge f_148_6 rfl).trans (b_congr (fun h1 => (e_nx f_148_26 rfl).trans (e_rt f_148_27 rfl)) (fun h1 => (e_nx f_148_9 rfl).trans ((e_nx (q := (_, _, .int 89 :: _, _)) f_148_10 rfl).trans ((e_ge f_148_12 rfl).trans (b_congr (fun h2 => (e_nx f_148_26 rfl).trans (e_rt f_148_27 rfl)) (fun h2 => (e_nx f_148_15 rfl).trans ((e_nx f_148_16 rfl).trans ((e_nx f_148_17 rfl).trans ((e_nx (q := (_, [.int x0, .int x1, .int x2, .int (x1 + x2)], _, _)) f_148_18 rfl).trans ((e_nx f_148_19 rfl).trans ((e_nx (q := (_, [.int x0, .int x2, .int x2, .int (x1 + x2)], _, _)) f_148_20 rfl).trans ((e_nx f_148_21 rfl).trans ((e_nx (q := (_, [.int x0, .int x2, .int (x1 + x2), .int (x1 + x2)], _, _)) f_148_22 rfl).trans (e_nx f_148_23 rfl))))))))))))))))
theorem pg_149 (pc : Nat) : fe0 149 pc = lk prg_149 pc := rfl
theorem f_149_0 : fe0 149 0 = some (.aload_n 0, 1, 0, 0, 0, 0, 0) := (pg_149 0).trans rfl
theorem f_149_1 : fe0 149 1 = some (.iload_n 1, 1, 0, 0, 0, 0, 0) := (pg_149 1).trans rfl
theorem f_149_2 : fe0 149 2 = some (.iconst 1, 1, 0, 0, 0, 0, 0) := (pg_149 2).trans rfl
theorem f_149_3 : fe0 149 3 = some (.invokevirtual 105, 3, 139, 2, 0, 9, 5166) := (pg_149 3).trans rfl
theorem f_149_6 : fe0 149 6 = some (.istore_n 2, 1, 0, 0, 0, 0, 0) := (pg_149 6).trans rfl
theorem f_149_7 : fe0 149 7 = some (.aload_n 0, 1, 0, 0, 0, 0, 0) := (pg_149 7).trans rfl
theorem f_149_8 : fe0 149 8 = some (.iconst 0, 1, 0, 0, 0, 0, 0) := (pg_149 8).trans rfl
theorem f_149_9 : fe0 149 9 = some (.invokevirtual 109, 3, 209, 1, 0, 9, 5174) := (pg_149 9).trans rfl
theorem f_149_12 : fe0 149 12 = some (.istore_n 3, 1, 0, 0, 0, 0, 0) := (pg_149 12).trans rfl
theorem f_149_13 : fe0 149 13 = some (.iload_n 3, 1, 0, 0, 0, 0, 0) := (pg_149 13).trans rfl
theorem f_149_14 : fe0 149 14 = some (.ifCond .lt 53, 3, 0, 0, 0, 0, 0) := (pg_149 14).trans rfl
theorem f_149_17 : fe0 149 17 = some (.aload_n 0, 1, 0, 0, 0, 0, 0) := (pg_149 17).trans rfl
theorem f_149_18 : fe0 149 18 = some (.getfield 65, 3, 9, 31, 1, 0, 5055) := (pg_149 18).trans rfl
theorem f_149_21 : fe0 149 21 = some (.bipush 103, 2, 0, 0, 0, 0, 0) := (pg_149 21).trans rfl
theorem f_149_23 : fe0 149 23 = some (.aload_n 0, 1, 0, 0, 0, 0, 0) := (pg_149 23).trans rfl
theorem f_149_24 : fe0 149 24 = some (.iload_n 1, 1, 0, 0, 0, 0, 0) := (pg_149 24).trans rfl
theorem f_149_25 : fe0 149 25 = some (.iconst 1, 1, 0, 0, 0, 0, 0) := (pg_149 25).trans rfl
theorem f_149_26 : fe0 149 26 = some (.invokevirtual 105, 3, 139, 2, 0, 9, 5166) := (pg_149 26).trans rfl
theorem f_149_29 : fe0 149 29 = some (.iastore, 1, 0, 0, 0, 0, 0) := (pg_149 29).trans rfl
theorem f_149_30 : fe0 149 30 = some (.aload_n 0, 1, 0, 0, 0, 0, 0) := (pg_149 30).trans rfl
theorem f_149_31 : fe0 149 31 = some (.getfield 65, 3, 9, 31, 1, 0, 5055) := (pg_149 31).trans rfl
theorem f_149_34 : fe0 149 34 = some (.bipush 116, 2, 0, 0, 0, 0, 0) := (pg_149 34).trans rfl
theorem f_149_36 : fe0 149 36 = some (.aload_n 0, 1, 0, 0, 0, 0, 0) := (pg_149 36).trans rfl
theorem f_149_37 : fe0 149 37 = some (.iload_n 1, 1, 0, 0, 0, 0, 0) := (pg_149 37).trans rfl
theorem f_149_38 : fe0 149 38 = some (.iconst 2, 1, 0, 0, 0, 0, 0) := (pg_149 38).trans rfl
theorem f_149_39 : fe0 149 39 = some (.invokevirtual 105, 3, 139, 2, 0, 9, 5166) := (pg_149 39).trans rfl
theorem f_149_42 : fe0 149 42 = some (.iastore, 1, 0, 0, 0, 0, 0) := (pg_149 42).trans rfl
theorem f_149_43 : fe0 149 43 = some (.aload_n 0, 1, 0, 0, 0, 0, 0) := (pg_149 43).trans rfl
theorem f_149_44 : fe0 149 44 = some (.getfield 65, 3, 9, 31, 1, 0, 5055) := (pg_149 44).trans rfl
theorem f_149_47 : fe0 149 47 = some (.bipush 102, 2, 0, 0, 0, 0, 0) := (pg_149 47).trans rfl
theorem f_149_49 : fe0 149 49 = some (.aload_n 0, 1, 0, 0, 0, 0, 0) := (pg_149 49).trans rfl
theorem f_149_50 : fe0 149 50 = some (.iconst (-1), 1, 0, 0, 0, 0, 0) := (pg_149 50).trans rfl
theorem f_149_51 : fe0 149 51 = some (.invokevirtual 113, 3, 147, 1, 0, 9, 5182) := (pg_149 51).trans rfl
theorem f_149_54 : fe0 149 54 = some (.iastore, 1, 0, 0, 0, 0, 0) := (pg_149 54).trans rfl
theorem f_149_55 : fe0 149 55 = some (.aload_n 0, 1, 0, 0, 0, 0, 0) := (pg_149 55).trans rfl
theorem f_149_56 : fe0 149 56 = some (.iload_n 3, 1, 0, 0, 0, 0, 0) := (pg_149 56).trans rfl
theorem f_149_57 : fe0 149 57 = some (.invokevirtual 116, 3, 212, 1, 0, 9, 5186) := (pg_149 57).trans rfl
theorem f_149_60 : fe0 149 60 = some (.sipush 999, 3, 0, 0, 0, 0, 0) := (pg_149 60).trans rfl
theorem f_149_63 : fe0 149 63 = some (.invokestatic 119, 3, 134, 2, 2, 0, 5193) := (pg_149 63).trans rfl
theorem f_149_66 : fe0 149 66 = some (.istore_n 2, 1, 0, 0, 0, 0, 0) := (pg_149 66).trans rfl
theorem f_149_67 : fe0 149 67 = some (.iload_n 2, 1, 0, 0, 0, 0, 0) := (pg_149 67).trans rfl
theorem f_149_68 : fe0 149 68 = some (.aload_n 0, 1, 0, 0, 0, 0, 0) := (pg_149 68).trans rfl
theorem f_149_69 : fe0 149 69 = some (.iload_n 1, 1, 0, 0, 0, 0, 0) := (pg_149 69).trans rfl
theorem f_149_70 : fe0 149 70 = some (.iconst 2, 1, 0, 0, 0, 0, 0) := (pg_149 70).trans rfl
theorem f_149_71 : fe0 149 71 = some (.invokevirtual 105, 3, 139, 2, 0, 9, 5166) := (pg_149 71).trans rfl
theorem f_149_74 : fe0 149 74 = some (.iadd, 1, 0, 0, 0, 0, 0) := (pg_149 74).trans rfl
theorem f_149_75 : fe0 149 75 = some (.sipush 999, 3, 0, 0, 0, 0, 0) := (pg_149 75).trans rfl
theorem f_149_78 : fe0 149 78 = some (.invokestatic 119, 3, 134, 2, 2, 0, 5193) := (pg_149 78).trans rfl
theorem f_149_81 : fe0 149 81 = some (.istore 4, 2, 0, 0, 0, 0, 0) := (pg_149 81).trans rfl
theorem f_149_83 : fe0 149 83 = some (.aload_n 0, 1, 0, 0, 0, 0, 0) := (pg_149 83).trans rfl
theorem f_149_84 : fe0 149 84 = some (.iload_n 1, 1, 0, 0, 0, 0, 0) := (pg_149 84).trans rfl
theorem f_149_85 : fe0 149 85 = some (.iconst 0, 1, 0, 0, 0, 0, 0) := (pg_149 85).trans rfl
theorem f_149_86 : fe0 149 86 = some (.invokevirtual 105, 3, 139, 2, 0, 9, 5166) := (pg_149 86).trans rfl
theorem f_149_89 : fe0 149 89 = some (.tableswitch 89 1 5 #[35, 38, 55, 62, 84], 35, 0, 0, 0, 0, 0) := (pg_149 89).trans rfl
theorem f_149_124 : fe0 149 124 = some (.iload 4, 2, 0, 0, 0, 0, 0) := (pg_149 124).trans rfl
theorem f_149_126 : fe0 149 126 = some (.ireturn, 1, 0, 0, 0, 0, 0) := (pg_149 126).trans rfl
theorem f_149_127 : fe0 149 127 = some (.iload_n 2, 1, 0, 0, 0, 0, 0) := (pg_149 127).trans rfl
theorem f_149_128 : fe0 149 128 = some (.aload_n 0, 1, 0, 0, 0, 0, 0) := (pg_149 128).trans rfl
theorem f_149_129 : fe0 149 129 = some (.iconst (-1), 1, 0, 0, 0, 0, 0) := (pg_149 129).trans rfl
theorem f_149_130 : fe0 149 130 = some (.invokevirtual 113, 3, 147, 1, 0, 9, 5182) := (pg_149 130).trans rfl
theorem f_149_133 : fe0 149 133 = some (.imul, 1, 0, 0, 0, 0, 0) := (pg_149 133).trans rfl
theorem f_149_134 : fe0 149 134 = some (.bipush 100, 2, 0, 0, 0, 0, 0) := (pg_149 134).trans rfl
theorem f_149_136 : fe0 149 136 = some (.idiv, 1, 0, 0, 0, 0, 0) := (pg_149 136).trans rfl
theorem f_149_137 : fe0 149 137 = some (.sipush 999, 3, 0, 0, 0, 0, 0) := (pg_149 137).trans rfl
theorem f_149_140 : fe0 149 140 = some (.invokestatic 119, 3, 134, 2, 2, 0, 5193) := (pg_149 140).trans rfl
theorem f_149_143 : fe0 149 143 = some (.ireturn, 1, 0, 0, 0, 0, 0) := (pg_149 143).trans rfl
theorem f_149_144 : fe0 149 144 = some (.iconst 2, 1, 0, 0, 0, 0, 0) := (pg_149 144).trans rfl
theorem f_149_145 : fe0 149 145 = some (.iload 4, 2, 0, 0, 0, 0, 0) := (pg_149 145).trans rfl
theorem f_149_147 : fe0 149 147 = some (.imul, 1, 0, 0, 0, 0, 0) := (pg_149 147).trans rfl
theorem f_149_148 : fe0 149 148 = some (.iconst 3, 1, 0, 0, 0, 0, 0) := (pg_149 148).trans rfl
theorem f_149_149 : fe0 149 149 = some (.idiv, 1, 0, 0, 0, 0, 0) := (pg_149 149).trans rfl
theorem f_149_150 : fe0 149 150 = some (.ireturn, 1, 0, 0, 0, 0, 0) := (pg_149 150).trans rfl
theorem f_149_151 : fe0 149 151 = some (.iload_n 2, 1, 0, 0, 0, 0, 0) := (pg_149 151).trans rfl
theorem f_149_152 : fe0 149 152 = some (.aload_n 0, 1, 0, 0, 0, 0, 0) := (pg_149 152).trans rfl
theorem f_149_153 : fe0 149 153 = some (.aload_n 0, 1, 0, 0, 0, 0, 0) := (pg_149 153).trans rfl
theorem f_149_154 : fe0 149 154 = some (.iload_n 1, 1, 0, 0, 0, 0, 0) := (pg_149 154).trans rfl
theorem f_149_155 : fe0 149 155 = some (.iconst 3, 1, 0, 0, 0, 0, 0) := (pg_149 155).trans rfl
theorem f_149_156 : fe0 149 156 = some (.invokevirtual 105, 3, 139, 2, 0, 9, 5166) := (pg_149 156).trans rfl
theorem f_149_159 : fe0 149 159 = some (.invokevirtual 113, 3, 147, 1, 0, 9, 5182) := (pg_149 159).trans rfl
theorem f_149_162 : fe0 149 162 = some (.imul, 1, 0, 0, 0, 0, 0) := (pg_149 162).trans rfl
theorem f_149_163 : fe0 149 163 = some (.bipush 100, 2, 0, 0, 0, 0, 0) := (pg_149 163).trans rfl
theorem f_149_165 : fe0 149 165 = some (.idiv, 1, 0, 0, 0, 0, 0) := (pg_149 165).trans rfl
theorem f_149_166 : fe0 149 166 = some (.sipush 999, 3, 0, 0, 0, 0, 0) := (pg_149 166).trans rfl
theorem f_149_169 : fe0 149 169 = some (.invokestatic 119, 3, 134, 2, 2, 0, 5193) := (pg_149 169).trans rfl
theorem f_149_172 : fe0 149 172 = some (.ireturn, 1, 0, 0, 0, 0, 0) := (pg_149 172).trans rfl
theorem f_149_173 : fe0 149 173 = some (.iload_n 2, 1, 0, 0, 0, 0, 0) := (pg_149 173).trans rfl
theorem f_149_174 : fe0 149 174 = some (.invokestatic 122, 3, 148, 1, 2, 0, 5196) := (pg_149 174).trans rfl
theorem f_149_177 : fe0 149 177 = some (.ireturn, 1, 0, 0, 0, 0, 0) := (pg_149 177).trans rfl
theorem f_149_178 : fe0 149 178 = some (.iload_n 2, 1, 0, 0, 0, 0, 0) := (pg_149 178).trans rfl
theorem f_149_179 : fe0 149 179 = some (.ireturn, 1, 0, 0, 0, 0, 0) := (pg_149 179).trans rfl
theorem q_149_0 (d : Nat) (l0 : Nat) (x1 : Int32) (μ : aMem) : Rn (d + 1) 149 (0, [.ref l0, .int x1, un, un, un], [], μ) = if (mS μ l0).1 = 9 ∧ l0 < 999999 then ((cI d 139 [.ref l0, .int x1, .int 1] μ).bind fun p1 => if (mS p1.2 l0).1 = 9 ∧ l0 < 999999 then ((cI d 209 [.ref l0, .int 0] p1.2).bind fun p3 => if p3.1 < 0 then (if (mS p3.2 l0).1 = 9 ∧ l0 < 999999 then ((cI d 139 [.ref l0, .int x1, .int 2] p3.2).bind fun p6 => (cI d 134 [.int (p1.1 + p6.1), .int 999] p6.2).bind fun p8 => if (mS p8.2 l0).1 = 9 ∧ l0 < 999999 then ((cI d 139 [.ref l0, .int x1, .int 0] p8.2).bind fun p9 => if p9.1 = 1 then (some (some (.int p8.1), p9.2)) else (if p9.1 = 2 then (if (mS p9.2 l0).1 = 9 ∧ l0 < 999999 then ((cI d 147 [.ref l0, .int (-1)] p9.2).bind fun p11 => (cI d 134 [.int ((p1.1 * p11.1) / 100), .int 999] p11.2).bind fun p13 => some (some (.int p13.1), p13.2)) else none) else (if p9.1 = 3 then (some (some (.int ((2 * p8.1) / 3)), p9.2)) else (if p9.1 = 4 then (if (mS p9.2 l0).1 = 9 ∧ l0 < 999999 then ((cI d 139 [.ref l0, .int x1, .int 3] p9.2).bind fun p14 => if (mS p14.2 l0).1 = 9 ∧ l0 < 999999 then ((cI d 147 [.ref l0, .int p14.1] p14.2).bind fun p16 => (cI d 134 [.int ((p1.1 * p16.1) / 100), .int 999] p16.2).bind fun p18 => some (some (.int p18.1), p18.2)) else none) else none) else (if p9.1 = 5 then ((cI d 148 [.int p1.1] p9.2).bind fun p19 => some (some (.int p19.1), p19.2)) else (some (some (.int p1.1), p9.2))))))) else none) else none) else (if (mS p3.2 l0).1 = 9 then (if (mS p3.2 l0).1 = 9 ∧ l0 < 999999 then ((cI d 139 [.ref l0, .int x1, .int 1] p3.2).bind fun p21 => if (mS p21.2 (mR p3.2 l0 31)).1 = 10 ∧ inb 103 (mS p21.2 (mR p3.2 l0 31)).2 then (if (mS p21.2 l0).1 = 9 then (if (mS p21.2 l0).1 = 9 ∧ l0 < 999999 then ((cI d 139 [.ref l0, .int x1, .int 2] (setF p21.2 (mR p3.2 l0 31) (ix 103) p21.1)).bind fun p25 => if (mS p25.2 (mR p21.2 l0 31)).1 = 10 ∧ inb 116 (mS p25.2 (mR p21.2 l0 31)).2 then (if (mS p25.2 l0).1 = 9 then (if (mS p25.2 l0).1 = 9 ∧ l0 < 999999 then ((cI d 147 [.ref l0, .int (-1)] (setF p25.2 (mR p21.2 l0 31) (ix 116) p25.1)).bind fun p29 => if (mS p29.2 (mR p25.2 l0 31)).1 = 10 ∧ inb 102 (mS p29.2 (mR p25.2 l0 31)).2 then (if (mS p29.2 l0).1 = 9 ∧ l0 < 999999 then ((cI d 212 [.ref l0, .int p3.1] (setF p29.2 (mR p25.2 l0 31) (ix 102) p29.1)).bind fun p32 => (cI d 134 [.int p32.1, .int 999] p32.2).bind fun p34 => if (mS p34.2 l0).1 = 9 ∧ l0 < 999999 then ((cI d 139 [.ref l0, .int x1, .int 2] p34.2).bind fun p35 => (cI d 134 [.int (p34.1 + p35.1), .int 999] p35.2).bind fun p37 => if (mS p37.2 l0).1 = 9 ∧ l0 < 999999 then ((cI d 139 [.ref l0, .int x1, .int 0] p37.2).bind fun p38 => if p38.1 = 1 then (some (some (.int p37.1), p38.2)) else (if p38.1 = 2 then (if (mS p38.2 l0).1 = 9 ∧ l0 < 999999 then ((cI d 147 [.ref l0, .int (-1)] p38.2).bind fun p40 => (cI d 134 [.int ((p34.1 * p40.1) / 100), .int 999] p40.2).bind fun p42 => some (some (.int p42.1), p42.2)) else none) else (if p38.1 = 3 then (some (some (.int ((2 * p37.1) / 3)), p38.2)) else (if p38.1 = 4 then (if (mS p38.2 l0).1 = 9 ∧ l0 < 999999 then ((cI d 139 [.ref l0, .int x1, .int 3] p38.2).bind fun p43 => if (mS p43.2 l0).1 = 9 ∧ l0 < 999999 then ((cI d 147 [.ref l0, .int p43.1] p43.2).bind fun p45 => (cI d 134 [.int ((p34.1 * p45.1) / 100), .int 999] p45.2).bind fun p47 => some (some (.int p47.1), p47.2)) else none) else none) else (if p38.1 = 5 then ((cI d 148 [.int p34.1] p38.2).bind fun p48 => some (some (.int p48.1), p48.2)) else (some (some (.int p34.1), p38.2))))))) else none) else none) else none) else none) else none) else none) else none) else none) else none) else none) else none) else none)) else none) else none :=
  (e_nx f_149_0 rfl).trans ((e_nx f_149_1 rfl).trans ((e_nx (q := (_, _, .int 1 :: _, _)) f_149_2 rfl).trans ((e_gI (L := [.ref l0, .int x1, un, un, un]) (st := [.int 1, .int x1, .ref l0]) (μ := μ) (L' := [.ref l0, .int x1, un, un, un]) (st' := []) f_149_3 rfl rfl).trans (g_congr (v_c2 rfl (Nat.le_of_ble_eq_true rfl)) (fun h2 => m_congr fun p1 => (e_nx (q := (_, [.ref l0, .int x1, .int p1.1, un, un], _, _)) f_149_6 rfl).trans ((e_nx f_149_7 rfl).trans ((e_nx (q := (_, _, .int 0 :: _, _)) f_149_8 rfl).trans ((e_gI (L := [.ref l0, .int x1, .int p1.1, un, un]) (st := [.int 0, .ref l0]) (μ := p1.2) (L' := [.ref l0, .int x1, .int p1.1, un, un]) (st' := []) f_149_9 rfl rfl).trans (g_congr (v_c2 rfl (Nat.le_of_ble_eq_true rfl)) (fun h4 => m_congr fun p3 => (e_nx (q := (_, [.ref l0, .int x1, .int p1.1, .int p3.1, un], _, _)) f_149_12 rfl).trans ((e_nx f_149_13 rfl).trans ((e_lt f_149_14 rfl).trans (b_congr (fun h5 => (e_nx f_149_67 rfl).trans ((e_nx f_149_68 rfl).trans ((e_nx f_149_69 rfl).trans ((e_nx (q := (_, _, .int 2 :: _, _)) f_149_70 rfl).trans ((e_gI (L := [.ref l0, .int x1, .int p1.1, .int p3.1, un]) (st := [.int 2, .int x1, .ref l0, .int p1.1]) (μ := p3.2) (L' := [.ref l0, .int x1, .int p1.1, .int p3.1, un]) (st' := [.int p1.1]) f_149_71 rfl rfl).trans (g_congr (v_c2 rfl (Nat.le_of_ble_eq_true rfl)) (fun h7 => m_congr fun p6 => (e_nx f_149_74 rfl).trans ((e_nx (q := (_, _, .int 999 :: _, _)) f_149_75 rfl).trans ((e_cI (L := [.ref l0, .int x1, .int p1.1, .int p3.1, un]) (st := [.int 999, .int (p1.1 + p6.1)]) (μ := p6.2) (L' := [.ref l0, .int x1, .int p1.1, .int p3.1, un]) (st' := []) f_149_78 rfl rfl).trans (m_congr fun p8 => (e_nx (q := (_, [.ref l0, .int x1, .int p1.1, .int p3.1, .int p8.1], _, _)) f_149_81 rfl).trans ((e_nx f_149_83 rfl).trans ((e_nx f_149_84 rfl).trans ((e_nx (q := (_, _, .int 0 :: _, _)) f_149_85 rfl).trans ((e_gI (L := [.ref l0, .int x1, .int p1.1, .int p3.1, .int p8.1]) (st := [.int 0, .int x1, .ref l0]) (μ := p8.2) (L' := [.ref l0, .int x1, .int p1.1, .int p3.1, .int p8.1]) (st' := []) f_149_86 rfl rfl).trans (g_congr (v_c2 rfl (Nat.le_of_ble_eq_true rfl)) (fun h10 => m_congr fun p9 => (e_tab f_149_89 (ts := [124, 127, 144, 151, 173]) (df := 178) (lo := 1) rfl rfl rfl (by decide) (by decide)).trans (b_congr (fun _ => (e_nx f_149_124 rfl).trans (e_rt f_149_126 rfl)) (fun _ => b_congr (fun _ => (e_nx f_149_127 rfl).trans ((e_nx f_149_128 rfl).trans ((e_nx (q := (_, _, .int (-1) :: _, _)) f_149_129 rfl).trans ((e_gI (L := [.ref l0, .int x1, .int p1.1, .int p3.1, .int p8.1]) (st := [.int (-1), .ref l0, .int p1.1]) (μ := p9.2) (L' := [.ref l0, .int x1, .int p1.1, .int p3.1, .int p8.1]) (st' := [.int p1.1]) f_149_130 rfl rfl).trans (g_congr (v_c2 rfl (Nat.le_of_ble_eq_true rfl)) (fun h12 => m_congr fun p11 => (e_nx f_149_133 rfl).trans ((e_nx (q := (_, _, .int 100 :: _, _)) f_149_134 rfl).trans ((e_nx f_149_136 rfl).trans ((e_nx (q := (_, _, .int 999 :: _, _)) f_149_137 rfl).trans ((e_cI (L := [.ref l0, .int x1, .int p1.1, .int p3.1, .int p8.1]) (st := [.int 999, .int ((p1.1 * p11.1) / 100)]) (μ := p11.2) (L' := [.ref l0, .int x1, .int p1.1, .int p3.1, .int p8.1]) (st' := []) f_149_140 rfl rfl).trans (m_congr fun p13 => e_rt f_149_143 rfl))))))))))) (fun _ => b_congr (fun _ => (e_nx (q := (_, _, .int 2 :: _, _)) f_149_144 rfl).trans ((e_nx f_149_145 rfl).trans ((e_nx f_149_147 rfl).trans ((e_nx (q := (_, _, .int 3 :: _, _)) f_149_148 rfl).trans ((e_nx f_149_149 rfl).trans (e_rt f_149_150 rfl)))))) (fun _ => b_congr (fun _ => (e_nx f_149_151 rfl).trans ((e_nx f_149_152 rfl).trans ((e_nx f_149_153 rfl).trans ((e_nx f_149_154 rfl).trans ((e_nx (q := (_, _, .int 3 :: _, _)) f_149_155 rfl).trans ((e_gI (L := [.ref l0, .int x1, .int p1.1, .int p3.1, .int p8.1]) (st := [.int 3, .int x1, .ref l0, .ref l0, .int p1.1]) (μ := p9.2) (L' := [.ref l0, .int x1, .int p1.1, .int p3.1, .int p8.1]) (st' := [.ref l0, .int p1.1]) f_149_156 rfl rfl).trans (g_congr (v_c2 rfl (Nat.le_of_ble_eq_true rfl)) (fun h15 => m_congr fun p14 => (e_gI (L := [.ref l0, .int x1, .int p1.1, .int p3.1, .int p8.1]) (st := [.int p14.1, .ref l0, .int p1.1]) (μ := p14.2) (L' := [.ref l0, .int x1, .int p1.1, .int p3.1, .int p8.1]) (st' := [.int p1.1]) f_149_159 rfl rfl).trans (g_congr (v_c2 rfl (Nat.le_of_ble_eq_true rfl)) (fun h17 => m_congr fun p16 => (e_nx f_149_162 rfl).trans ((e_nx (q := (_, _, .int 100 :: _, _)) f_149_163 rfl).trans ((e_nx f_149_165 rfl).trans ((e_nx (q := (_, _, .int 999 :: _, _)) f_149_166 rfl).trans ((e_cI (L := [.ref l0, .int x1, .int p1.1, .int p3.1, .int p8.1]) (st := [.int 999, .int ((p1.1 * p16.1) / 100)]) (μ := p16.2) (L' := [.ref l0, .int x1, .int p1.1, .int p3.1, .int p8.1]) (st' := []) f_149_169 rfl rfl).trans (m_congr fun p18 => e_rt f_149_172 rfl))))))))))))))) (fun _ => b_congr (fun _ => (e_nx f_149_173 rfl).trans ((e_cI (L := [.ref l0, .int x1, .int p1.1, .int p3.1, .int p8.1]) (st := [.int p1.1]) (μ := p9.2) (L' := [.ref l0, .int x1, .int p1.1, .int p3.1, .int p8.1]) (st' := []) f_149_174 rfl rfl).trans (m_congr fun p19 => e_rt f_149_177 rfl))) (fun _ => (e_nx f_149_178 rfl).trans (e_rt f_149_179 rfl))))))))))))))))))))))) (fun h5 => (e_nx f_149_17 rfl).trans ((e_gd f_149_18 rfl).trans (g_congr (Iff.rfl) (fun h20 => (e_nx (q := (_, _, .int 103 :: _, _)) f_149_21 rfl).trans ((e_nx f_149_23 rfl).trans ((e_nx f_149_24 rfl).trans ((e_nx (q := (_, _, .int 1 :: _, _)) f_149_25 rfl).trans ((e_gI (L := [.ref l0, .int x1, .int p1.1, .int p3.1, un]) (st := [.int 1, .int x1, .ref l0, .int 103, .ref (mR p3.2 l0 31)]) (μ := p3.2) (L' := [.ref l0, .int x1, .int p1.1, .int p3.1, un]) (st' := [.int 103, .ref (mR p3.2 l0 31)]) f_149_26 rfl rfl).trans (g_congr (v_c2 rfl (Nat.le_of_ble_eq_true rfl)) (fun h22 => m_congr fun p21 => (e_gd f_149_29 rfl).trans (g_congr (Iff.rfl) (fun h23 => (e_nx f_149_30 rfl).trans ((e_gd f_149_31 rfl).trans (g_congr (Iff.rfl) (fun h24 => (e_nx (q := (_, _, .int 116 :: _, _)) f_149_34 rfl).trans ((e_nx f_149_36 rfl).trans ((e_nx f_149_37 rfl).trans ((e_nx (q := (_, _, .int 2 :: _, _)) f_149_38 rfl).trans ((e_gI (L := [.ref l0, .int x1, .int p1.1, .int p3.1, un]) (st := [.int 2, .int x1, .ref l0, .int 116, .ref (mR p21.2 l0 31)]) (μ := setF p21.2 (mR p3.2 l0 31) (ix 103) p21.1) (L' := [.ref l0, .int x1, .int p1.1, .int p3.1, un]) (st' := [.int 116, .ref (mR p21.2 l0 31)]) f_149_39 rfl rfl).trans (g_congr (v_c2 rfl (Nat.le_of_ble_eq_true rfl)) (fun h26 => m_congr fun p25 => (e_gd f_149_42 rfl).trans (g_congr (Iff.rfl) (fun h27 => (e_nx f_149_43 rfl).trans ((e_gd f_149_44 rfl).trans (g_congr (Iff.rfl) (fun h28 => (e_nx (q := (_, _, .int 102 :: _, _)) f_149_47 rfl).trans ((e_nx f_149_49 rfl).trans ((e_nx (q := (_, _, .int (-1) :: _, _)) f_149_50 rfl).trans ((e_gI (L := [.ref l0, .int x1, .int p1.1, .int p3.1, un]) (st := [.int (-1), .ref l0, .int 102, .ref (mR p25.2 l0 31)]) (μ := setF p25.2 (mR p21.2 l0 31) (ix 116) p25.1) (L' := [.ref l0, .int x1, .int p1.1, .int p3.1, un]) (st' := [.int 102, .ref (mR p25.2 l0 31)]) f_149_51 rfl rfl).trans (g_congr (v_c2 rfl (Nat.le_of_ble_eq_true rfl)) (fun h30 => m_congr fun p29 => (e_gd f_149_54 rfl).trans (g_congr (Iff.rfl) (fun h31 => (e_nx f_149_55 rfl).trans ((e_nx f_149_56 rfl).trans ((e_gI (L := [.ref l0, .int x1, .int p1.1, .int p3.1, un]) (st := [.int p3.1, .ref l0]) (μ := setF p29.2 (mR p25.2 l0 31) (ix 102) p29.1) (L' := [.ref l0, .int x1, .int p1.1, .int p3.1, un]) (st' := []) f_149_57 rfl rfl).trans (g_congr (v_c2 rfl (Nat.le_of_ble_eq_true rfl)) (fun h33 => m_congr fun p32 => (e_nx (q := (_, _, .int 999 :: _, _)) f_149_60 rfl).trans ((e_cI (L := [.ref l0, .int x1, .int p1.1, .int p3.1, un]) (st := [.int 999, .int p32.1]) (μ := p32.2) (L' := [.ref l0, .int x1, .int p1.1, .int p3.1, un]) (st' := []) f_149_63 rfl rfl).trans (m_congr fun p34 => (e_nx (q := (_, [.ref l0, .int x1, .int p34.1, .int p3.1, un], _, _)) f_149_66 rfl).trans ((e_nx f_149_67 rfl).trans ((e_nx f_149_68 rfl).trans ((e_nx f_149_69 rfl).trans ((e_nx (q := (_, _, .int 2 :: _, _)) f_149_70 rfl).trans ((e_gI (L := [.ref l0, .int x1, .int p34.1, .int p3.1, un]) (st := [.int 2, .int x1, .ref l0, .int p34.1]) (μ := p34.2) (L' := [.ref l0, .int x1, .int p34.1, .int p3.1, un]) (st' := [.int p34.1]) f_149_71 rfl rfl).trans (g_congr (v_c2 rfl (Nat.le_of_ble_eq_true rfl)) (fun h36 => m_congr fun p35 => (e_nx f_149_74 rfl).trans ((e_nx (q := (_, _, .int 999 :: _, _)) f_149_75 rfl).trans ((e_cI (L := [.ref l0, .int x1, .int p34.1, .int p3.1, un]) (st := [.int 999, .int (p34.1 + p35.1)]) (μ := p35.2) (L' := [.ref l0, .int x1, .int p34.1, .int p3.1, un]) (st' := []) f_149_78 rfl rfl).trans (m_congr fun p37 => (e_nx (q := (_, [.ref l0, .int x1, .int p34.1, .int p3.1, .int p37.1], _, _)) f_149_81 rfl).trans ((e_nx f_149_83 rfl).trans ((e_nx f_149_84 rfl).trans ((e_nx (q := (_, _, .int 0 :: _, _)) f_149_85 rfl).trans ((e_gI (L := [.ref l0, .int x1, .int p34.1, .int p3.1, .int p37.1]) (st := [.int 0, .int x1, .ref l0]) (μ := p37.2) (L' := [.ref l0, .int x1, .int p34.1, .int p3.1, .int p37.1]) (st' := []) f_149_86 rfl rfl).trans (g_congr (v_c2 rfl (Nat.le_of_ble_eq_true rfl)) (fun h39 => m_congr fun p38 => (e_tab f_149_89 (ts := [124, 127, 144, 151, 173]) (df := 178) (lo := 1) rfl rfl rfl (by decide) (by decide)).trans (b_congr (fun _ => (e_nx f_149_124 rfl).trans (e_rt f_149_126 rfl)) (fun _ => b_congr (fun _ => (e_nx f_149_127 rfl).trans ((e_nx f_149_128 rfl).trans ((e_nx (q := (_, _, .int (-1) :: _, _)) f_149_129 rfl).trans ((e_gI (L := [.ref l0, .int x1, .int p34.1, .int p3.1, .int p37.1]) (st := [.int (-1), .ref l0, .int p34.1]) (μ := p38.2) (L' := [.ref l0, .int x1, .int p34.1, .int p3.1, .int p37.1]) (st' := [.int p34.1]) f_149_130 rfl rfl).trans (g_congr (v_c2 rfl (Nat.le_of_ble_eq_true rfl)) (fun h41 => m_congr fun p40 => (e_nx f_149_133 rfl).trans ((e_nx (q := (_, _, .int 100 :: _, _)) f_149_134 rfl).trans ((e_nx f_149_136 rfl).trans ((e_nx (q := (_, _, .int 999 :: _, _)) f_149_137 rfl).trans ((e_cI (L := [.ref l0, .int x1, .int p34.1, .int p3.1, .int p37.1]) (st := [.int 999, .int ((p34.1 * p40.1) / 100)]) (μ := p40.2) (L' := [.ref l0, .int x1, .int p34.1, .int p3.1, .int p37.1]) (st' := []) f_149_140 rfl rfl).trans (m_congr fun p42 => e_rt f_149_143 rfl))))))))))) (fun _ => b_congr (fun _ => (e_nx (q := (_, _, .int 2 :: _, _)) f_149_144 rfl).trans ((e_nx f_149_145 rfl).trans ((e_nx f_149_147 rfl).trans ((e_nx (q := (_, _, .int 3 :: _, _)) f_149_148 rfl).trans ((e_nx f_149_149 rfl).trans (e_rt f_149_150 rfl)))))) (fun _ => b_congr (fun _ => (e_nx f_149_151 rfl).trans ((e_nx f_149_152 rfl).trans ((e_nx f_149_153 rfl).trans ((e_nx f_149_154 rfl).trans ((e_nx (q := (_, _, .int 3 :: _, _)) f_149_155 rfl).trans ((e_gI (L := [.ref l0, .int x1, .int p34.1, .int p3.1, .int p37.1]) (st := [.int 3, .int x1, .ref l0, .ref l0, .int p34.1]) (μ := p38.2) (L' := [.ref l0, .int x1, .int p34.1, .int p3.1, .int p37.1]) (st' := [.ref l0, .int p34.1]) f_149_156 rfl rfl).trans (g_congr (v_c2 rfl (Nat.le_of_ble_eq_true rfl)) (fun h44 => m_congr fun p43 => (e_gI (L := [.ref l0, .int x1, .int p34.1, .int p3.1, .int p37.1]) (st := [.int p43.1, .ref l0, .int p34.1]) (μ := p43.2) (L' := [.ref l0, .int x1, .int p34.1, .int p3.1, .int p37.1]) (st' := [.int p34.1]) f_149_159 rfl rfl).trans (g_congr (v_c2 rfl (Nat.le_of_ble_eq_true rfl)) (fun h46 => m_congr fun p45 => (e_nx f_149_162 rfl).trans ((e_nx (q := (_, _, .int 100 :: _, _)) f_149_163 rfl).trans ((e_nx f_149_165 rfl).trans ((e_nx (q := (_, _, .int 999 :: _, _)) f_149_166 rfl).trans ((e_cI (L := [.ref l0, .int x1, .int p34.1, .int p3.1, .int p37.1]) (st := [.int 999, .int ((p34.1 * p45.1) / 100)]) (μ := p45.2) (L' := [.ref l0, .int x1, .int p34.1, .int p3.1, .int p37.1]) (st' := []) f_149_169 rfl rfl).trans (m_congr fun p47 => e_rt f_149_172 rfl))))))))))))))) (fun _ => b_congr (fun _ => (e_nx f_149_173 rfl).trans ((e_cI (L := [.ref l0, .int x1, .int p34.1, .int p3.1, .int p37.1]) (st := [.int p34.1]) (μ := p38.2) (L' := [.ref l0, .int x1, .int p34.1, .int p3.1, .int p37.1]) (st' := []) f_149_174 rfl rfl).trans (m_congr fun p48 => e_rt f_149_177 rfl))) (fun _ => (e_nx f_149_178 rfl).trans (e_rt f_149_179 rfl)))))))))))))))))))))))))))))))))))))))))))))))))))))))))))))))))))))))))))
theorem pg_150 (pc : Nat) : fe0 150 pc = lk prg_150 pc := rfl
theorem f_150_0 : fe0 150 0 = some (.aload_n 0, 1, 0, 0, 0, 0, 0) := (pg_150 0).trans rfl
theorem f_150_1 : fe0 150 1 = some (.iconst 1, 1, 0, 0, 0, 0, 0) := (pg_150 1).trans rfl
theorem f_150_2 : fe0 150 2 = some (.invokevirtual 109, 3, 209, 1, 0, 9, 5174) := (pg_150 2).trans rfl
theorem f_150_5 : fe0 150 5 = some (.istore_n 2, 1, 0, 0, 0, 0, 0) := (pg_150 5).trans rfl
theorem f_150_6 : fe0 150 6 = some (.iload_n 2, 1, 0, 0, 0, 0, 0) := (pg_150 6).trans rfl
theorem f_150_7 : fe0 150 7 = some (.ifCond .ge 5, 3, 0, 0, 0, 0, 0) := (pg_150 7).trans rfl
theorem f_150_10 : fe0 150 10 = some (.iconst 0, 1, 0, 0, 0, 0, 0) := (pg_150 10).trans rfl
theorem f_150_11 : fe0 150 11 = some (.ireturn, 1, 0, 0, 0, 0, 0) := (pg_150 11).trans rfl
theorem f_150_12 : fe0 150 12 = some (.aload_n 0, 1, 0, 0, 0, 0, 0) := (pg_150 12).trans rfl
theorem f_150_13 : fe0 150 13 = some (.getfield 65, 3, 9, 31, 1, 0, 5055) := (pg_150 13).trans rfl
theorem f_150_16 : fe0 150 16 = some (.bipush 110, 2, 0, 0, 0, 0, 0) := (pg_150 16).trans rfl
theorem f_150_18 : fe0 150 18 = some (.aload_n 0, 1, 0, 0, 0, 0, 0) := (pg_150 18).trans rfl
theorem f_150_19 : fe0 150 19 = some (.iload_n 1, 1, 0, 0, 0, 0, 0) := (pg_150 19).trans rfl
theorem f_150_20 : fe0 150 20 = some (.iconst 4, 1, 0, 0, 0, 0, 0) := (pg_150 20).trans rfl
theorem f_150_21 : fe0 150 21 = some (.invokevirtual 105, 3, 139, 2, 0, 9, 5166) := (pg_150 21).trans rfl
theorem f_150_24 : fe0 150 24 = some (.invokestatic 125, 3, 144, 1, 2, 0, 5203) := (pg_150 24).trans rfl
theorem f_150_27 : fe0 150 27 = some (.iastore, 1, 0, 0, 0, 0, 0) := (pg_150 27).trans rfl
theorem f_150_28 : fe0 150 28 = some (.aload_n 0, 1, 0, 0, 0, 0, 0) := (pg_150 28).trans rfl
theorem f_150_29 : fe0 150 29 = some (.getfield 65, 3, 9, 31, 1, 0, 5055) := (pg_150 29).trans rfl
theorem f_150_32 : fe0 150 32 = some (.bipush 103, 2, 0, 0, 0, 0, 0) := (pg_150 32).trans rfl
theorem f_150_34 : fe0 150 34 = some (.aload_n 0, 1, 0, 0, 0, 0, 0) := (pg_150 34).trans rfl
theorem f_150_35 : fe0 150 35 = some (.iload_n 1, 1, 0, 0, 0, 0, 0) := (pg_150 35).trans rfl
theorem f_150_36 : fe0 150 36 = some (.iconst 1, 1, 0, 0, 0, 0, 0) := (pg_150 36).trans rfl
theorem f_150_37 : fe0 150 37 = some (.invokevirtual 105, 3, 139, 2, 0, 9, 5166) := (pg_150 37).trans rfl
theorem f_150_40 : fe0 150 40 = some (.iastore, 1, 0, 0, 0, 0, 0) := (pg_150 40).trans rfl
theorem f_150_41 : fe0 150 41 = some (.aload_n 0, 1, 0, 0, 0, 0, 0) := (pg_150 41).trans rfl
theorem f_150_42 : fe0 150 42 = some (.getfield 65, 3, 9, 31, 1, 0, 5055) := (pg_150 42).trans rfl
theorem f_150_45 : fe0 150 45 = some (.bipush 116, 2, 0, 0, 0, 0, 0) := (pg_150 45).trans rfl
theorem f_150_47 : fe0 150 47 = some (.aload_n 0, 1, 0, 0, 0, 0, 0) := (pg_150 47).trans rfl
theorem f_150_48 : fe0 150 48 = some (.iload_n 1, 1, 0, 0, 0, 0, 0) := (pg_150 48).trans rfl
theorem f_150_49 : fe0 150 49 = some (.iconst 2, 1, 0, 0, 0, 0, 0) := (pg_150 49).trans rfl
theorem f_150_50 : fe0 150 50 = some (.invokevirtual 105, 3, 139, 2, 0, 9, 5166) := (pg_150 50).trans rfl
theorem f_150_53 : fe0 150 53 = some (.iastore, 1, 0, 0, 0, 0, 0) := (pg_150 53).trans rfl
theorem f_150_54 : fe0 150 54 = some (.aload_n 0, 1, 0, 0, 0, 0, 0) := (pg_150 54).trans rfl
theorem f_150_55 : fe0 150 55 = some (.iload_n 2, 1, 0, 0, 0, 0, 0) := (pg_150 55).trans rfl
theorem f_150_56 : fe0 150 56 = some (.invokevirtual 116, 3, 212, 1, 0, 9, 5186) := (pg_150 56).trans rfl
theorem f_150_59 : fe0 150 59 = some (.bipush 99, 2, 0, 0, 0, 0, 0) := (pg_150 59).trans rfl
theorem f_150_61 : fe0 150 61 = some (.invokestatic 119, 3, 134, 2, 2, 0, 5193) := (pg_150 61).trans rfl
theorem f_150_64 : fe0 150 64 = some (.ireturn, 1, 0, 0, 0, 0, 0) := (pg_150 64).trans rfl
theorem q_150_0 (d : Nat) (l0 : Nat) (x1 : Int32) (μ : aMem) : Rn (d + 1) 150 (0, [.ref l0, .int x1, un], [], μ) = if (mS μ l0).1 = 9 ∧ l0 < 999999 then ((cI d 209 [.ref l0, .int 1] μ).bind fun p1 => if 0 ≤ p1.1 then (if (mS p1.2 l0).1 = 9 then (if (mS p1.2 l0).1 = 9 ∧ l0 < 999999 then ((cI d 139 [.ref l0, .int x1, .int 4] p1.2).bind fun p5 => (cI d 144 [.int p5.1] p5.2).bind fun p7 => if (mS p7.2 (mR p1.2 l0 31)).1 = 10 ∧ inb 110 (mS p7.2 (mR p1.2 l0 31)).2 then (if (mS p7.2 l0).1 = 9 then (if (mS p7.2 l0).1 = 9 ∧ l0 < 999999 then ((cI d 139 [.ref l0, .int x1, .int 1] (setF p7.2 (mR p1.2 l0 31) (ix 110) p7.1)).bind fun p10 => if (mS p10.2 (mR p7.2 l0 31)).1 = 10 ∧ inb 103 (mS p10.2 (mR p7.2 l0 31)).2 then (if (mS p10.2 l0).1 = 9 then (if (mS p10.2 l0).1 = 9 ∧ l0 < 999999 then ((cI d 139 [.ref l0, .int x1, .int 2] (setF p10.2 (mR p7.2 l0 31) (ix 103) p10.1)).bind fun p14 => if (mS p14.2 (mR p10.2 l0 31)).1 = 10 ∧ inb 116 (mS p14.2 (mR p10.2 l0 31)).2 then (if (mS p14.2 l0).1 = 9 ∧ l0 < 999999 then ((cI d 212 [.ref l0, .int p1.1] (setF p14.2 (mR p10.2 l0 31) (ix 116) p14.1)).bind fun p17 => (cI d 134 [.int p17.1, .int 99] p17.2).bind fun p19 => some (some (.int p19.1), p19.2)) else none) else none) else none) else none) else none) else none) else none) else none) else none) else none) else (some (some (.int 0), p1.2))) else none :=
  (e_nx f_150_0 rfl).trans ((e_nx (q := (_, _, .int 1 :: _, _)) f_150_1 rfl).trans ((e_gI (L := [.ref l0, .int x1, un]) (st := [.int 1, .ref l0]) (μ := μ) (L' := [.ref l0, .int x1, un]) (st' := []) f_150_2 rfl rfl).trans (g_congr (v_c2 rfl (Nat.le_of_ble_eq_true rfl)) (fun h2 => m_congr fun p1 => (e_nx (q := (_, [.ref l0, .int x1, .int p1.1], _, _)) f_150_5 rfl).trans ((e_nx f_150_6 rfl).trans ((e_ge f_150_7 rfl).trans (b_congr (fun h3 => (e_nx f_150_12 rfl).trans ((e_gd f_150_13 rfl).trans (g_congr (Iff.rfl) (fun h4 => (e_nx (q := (_, _, .int 110 :: _, _)) f_150_16 rfl).trans ((e_nx f_150_18 rfl).trans ((e_nx f_150_19 rfl).trans ((e_nx (q := (_, _, .int 4 :: _, _)) f_150_20 rfl).trans ((e_gI (L := [.ref l0, .int x1, .int p1.1]) (st := [.int 4, .int x1, .ref l0, .int 110, .ref (mR p1.2 l0 31)]) (μ := p1.2) (L' := [.ref l0, .int x1, .int p1.1]) (st' := [.int 110, .ref (mR p1.2 l0 31)]) f_150_21 rfl rfl).trans (g_congr (v_c2 rfl (Nat.le_of_ble_eq_true rfl)) (fun h6 => m_congr fun p5 => (e_cI (L := [.ref l0, .int x1, .int p1.1]) (st := [.int p5.1, .int 110, .ref (mR p1.2 l0 31)]) (μ := p5.2) (L' := [.ref l0, .int x1, .int p1.1]) (st' := [.int 110, .ref (mR p1.2 l0 31)]) f_150_24 rfl rfl).trans (m_congr fun p7 => (e_gd f_150_27 rfl).trans (g_congr (Iff.rfl) (fun h8 => (e_nx f_150_28 rfl).trans ((e_gd f_150_29 rfl).trans (g_congr (Iff.rfl) (fun h9 => (e_nx (q := (_, _, .int 103 :: _, _)) f_150_32 rfl).trans ((e_nx f_150_34 rfl).trans ((e_nx f_150_35 rfl).trans ((e_nx (q := (_, _, .int 1 :: _, _)) f_150_36 rfl).trans ((e_gI (L := [.ref l0, .int x1, .int p1.1]) (st := [.int 1, .int x1, .ref l0, .int 103, .ref (mR p7.2 l0 31)]) (μ := setF p7.2 (mR p1.2 l0 31) (ix 110) p7.1) (L' := [.ref l0, .int x1, .int p1.1]) (st' := [.int 103, .ref (mR p7.2 l0 31)]) f_150_37 rfl rfl).trans (g_congr (v_c2 rfl (Nat.le_of_ble_eq_true rfl)) (fun h11 => m_congr fun p10 => (e_gd f_150_40 rfl).trans (g_congr (Iff.rfl) (fun h12 => (e_nx f_150_41 rfl).trans ((e_gd f_150_42 rfl).trans (g_congr (Iff.rfl) (fun h13 => (e_nx (q := (_, _, .int 116 :: _, _)) f_150_45 rfl).trans ((e_nx f_150_47 rfl).trans ((e_nx f_150_48 rfl).trans ((e_nx (q := (_, _, .int 2 :: _, _)) f_150_49 rfl).trans ((e_gI (L := [.ref l0, .int x1, .int p1.1]) (st := [.int 2, .int x1, .ref l0, .int 116, .ref (mR p10.2 l0 31)]) (μ := setF p10.2 (mR p7.2 l0 31) (ix 103) p10.1) (L' := [.ref l0, .int x1, .int p1.1]) (st' := [.int 116, .ref (mR p10.2 l0 31)]) f_150_50 rfl rfl).trans (g_congr (v_c2 rfl (Nat.le_of_ble_eq_true rfl)) (fun h15 => m_congr fun p14 => (e_gd f_150_53 rfl).trans (g_congr (Iff.rfl) (fun h16 => (e_nx f_150_54 rfl).trans ((e_nx f_150_55 rfl).trans ((e_gI (L := [.ref l0, .int x1, .int p1.1]) (st := [.int p1.1, .ref l0]) (μ := setF p14.2 (mR p10.2 l0 31) (ix 116) p14.1) (L' := [.ref l0, .int x1, .int p1.1]) (st' := []) f_150_56 rfl rfl).trans (g_congr (v_c2 rfl (Nat.le_of_ble_eq_true rfl)) (fun h18 => m_congr fun p17 => (e_nx (q := (_, _, .int 99 :: _, _)) f_150_59 rfl).trans ((e_cI (L := [.ref l0, .int x1, .int p1.1]) (st := [.int 99, .int p17.1]) (μ := p17.2) (L' := [.ref l0, .int x1, .int p1.1]) (st' := []) f_150_61 rfl rfl).trans (m_congr fun p19 => e_rt f_150_64 rfl))))))))))))))))))))))))))))))))))))))))) (fun h3 => (e_nx (q := (_, _, .int 0 :: _, _)) f_150_10 rfl).trans (e_rt f_150_11 rfl)))))))))
