theorem pg_151 (pc : Nat) : fe0 151 pc = lk prg_151 pc := rfl
theorem f_151_0 : fe0 151 0 = some (.aload_n 0, 1, 0, 0, 0, 0, 0) := (pg_151 0).trans rfl
theorem f_151_1 : fe0 151 1 = some (.iload_n 1, 1, 0, 0, 0, 0, 0) := (pg_151 1).trans rfl
theorem f_151_2 : fe0 151 2 = some (.iconst 1, 1, 0, 0, 0, 0, 0) := (pg_151 2).trans rfl
theorem f_151_3 : fe0 151 3 = some (.invokevirtual 105, 3, 139, 2, 0, 9, 5166) := (pg_151 3).trans rfl
theorem f_151_6 : fe0 151 6 = some (.istore_n 2, 1, 0, 0, 0, 0, 0) := (pg_151 6).trans rfl
theorem f_151_7 : fe0 151 7 = some (.aload_n 0, 1, 0, 0, 0, 0, 0) := (pg_151 7).trans rfl
theorem f_151_8 : fe0 151 8 = some (.iload_n 1, 1, 0, 0, 0, 0, 0) := (pg_151 8).trans rfl
theorem f_151_9 : fe0 151 9 = some (.iconst 0, 1, 0, 0, 0, 0, 0) := (pg_151 9).trans rfl
theorem f_151_10 : fe0 151 10 = some (.invokevirtual 105, 3, 139, 2, 0, 9, 5166) := (pg_151 10).trans rfl
theorem f_151_13 : fe0 151 13 = some (.tableswitch 75 1 5 #[35, 44, 49, 60, 72], 35, 0, 0, 0, 0, 0) := (pg_151 13).trans rfl
theorem f_151_48 : fe0 151 48 = some (.iload_n 2, 1, 0, 0, 0, 0, 0) := (pg_151 48).trans rfl
theorem f_151_49 : fe0 151 49 = some (.aload_n 0, 1, 0, 0, 0, 0, 0) := (pg_151 49).trans rfl
theorem f_151_50 : fe0 151 50 = some (.iload_n 1, 1, 0, 0, 0, 0, 0) := (pg_151 50).trans rfl
theorem f_151_51 : fe0 151 51 = some (.iconst 2, 1, 0, 0, 0, 0, 0) := (pg_151 51).trans rfl
theorem f_151_52 : fe0 151 52 = some (.invokevirtual 105, 3, 139, 2, 0, 9, 5166) := (pg_151 52).trans rfl
theorem f_151_55 : fe0 151 55 = some (.iadd, 1, 0, 0, 0, 0, 0) := (pg_151 55).trans rfl
theorem f_151_56 : fe0 151 56 = some (.ireturn, 1, 0, 0, 0, 0, 0) := (pg_151 56).trans rfl
theorem f_151_57 : fe0 151 57 = some (.bipush 50, 2, 0, 0, 0, 0, 0) := (pg_151 57).trans rfl
theorem f_151_59 : fe0 151 59 = some (.iload_n 2, 1, 0, 0, 0, 0, 0) := (pg_151 59).trans rfl
theorem f_151_60 : fe0 151 60 = some (.isub, 1, 0, 0, 0, 0, 0) := (pg_151 60).trans rfl
theorem f_151_61 : fe0 151 61 = some (.ireturn, 1, 0, 0, 0, 0, 0) := (pg_151 61).trans rfl
theorem f_151_62 : fe0 151 62 = some (.iconst 2, 1, 0, 0, 0, 0, 0) := (pg_151 62).trans rfl
theorem f_151_63 : fe0 151 63 = some (.iload_n 2, 1, 0, 0, 0, 0, 0) := (pg_151 63).trans rfl
theorem f_151_64 : fe0 151 64 = some (.aload_n 0, 1, 0, 0, 0, 0, 0) := (pg_151 64).trans rfl
theorem f_151_65 : fe0 151 65 = some (.iload_n 1, 1, 0, 0, 0, 0, 0) := (pg_151 65).trans rfl
theorem f_151_66 : fe0 151 66 = some (.iconst 2, 1, 0, 0, 0, 0, 0) := (pg_151 66).trans rfl
theorem f_151_67 : fe0 151 67 = some (.invokevirtual 105, 3, 139, 2, 0, 9, 5166) := (pg_151 67).trans rfl
theorem f_151_70 : fe0 151 70 = some (.iadd, 1, 0, 0, 0, 0, 0) := (pg_151 70).trans rfl
theorem f_151_71 : fe0 151 71 = some (.imul, 1, 0, 0, 0, 0, 0) := (pg_151 71).trans rfl
theorem f_151_72 : fe0 151 72 = some (.ireturn, 1, 0, 0, 0, 0, 0) := (pg_151 72).trans rfl
theorem f_151_73 : fe0 151 73 = some (.bipush 50, 2, 0, 0, 0, 0, 0) := (pg_151 73).trans rfl
theorem f_151_75 : fe0 151 75 = some (.iload_n 2, 1, 0, 0, 0, 0, 0) := (pg_151 75).trans rfl
theorem f_151_76 : fe0 151 76 = some (.isub, 1, 0, 0, 0, 0, 0) := (pg_151 76).trans rfl
theorem f_151_77 : fe0 151 77 = some (.aload_n 0, 1, 0, 0, 0, 0, 0) := (pg_151 77).trans rfl
theorem f_151_78 : fe0 151 78 = some (.iload_n 1, 1, 0, 0, 0, 0, 0) := (pg_151 78).trans rfl
theorem f_151_79 : fe0 151 79 = some (.iconst 3, 1, 0, 0, 0, 0, 0) := (pg_151 79).trans rfl
theorem f_151_80 : fe0 151 80 = some (.invokevirtual 105, 3, 139, 2, 0, 9, 5166) := (pg_151 80).trans rfl
theorem f_151_83 : fe0 151 83 = some (.iadd, 1, 0, 0, 0, 0, 0) := (pg_151 83).trans rfl
theorem f_151_84 : fe0 151 84 = some (.ireturn, 1, 0, 0, 0, 0, 0) := (pg_151 84).trans rfl
theorem f_151_85 : fe0 151 85 = some (.bipush 13, 2, 0, 0, 0, 0, 0) := (pg_151 85).trans rfl
theorem f_151_87 : fe0 151 87 = some (.ireturn, 1, 0, 0, 0, 0, 0) := (pg_151 87).trans rfl
theorem f_151_88 : fe0 151 88 = some (.iload_n 2, 1, 0, 0, 0, 0, 0) := (pg_151 88).trans rfl
theorem f_151_89 : fe0 151 89 = some (.ireturn, 1, 0, 0, 0, 0, 0) := (pg_151 89).trans rfl
theorem q_151_0 (d : Nat) (l0 : Nat) (x1 : Int32) (μ : aMem) : Rn (d + 1) 151 (0, [.ref l0, .int x1, un], [], μ) = if (mS μ l0).1 = 9 ∧ l0 < 999999 then ((cI d 139 [.ref l0, .int x1, .int 1] μ).bind fun p1 => if (mS p1.2 l0).1 = 9 ∧ l0 < 999999 then ((cI d 139 [.ref l0, .int x1, .int 0] p1.2).bind fun p3 => if p3.1 = 1 then (if (mS p3.2 l0).1 = 9 ∧ l0 < 999999 then ((cI d 139 [.ref l0, .int x1, .int 2] p3.2).bind fun p5 => some (some (.int (p1.1 + p5.1)), p5.2)) else none) else (if p3.1 = 2 then (some (some (.int (50 - p1.1)), p3.2)) else (if p3.1 = 3 then (if (mS p3.2 l0).1 = 9 ∧ l0 < 999999 then ((cI d 139 [.ref l0, .int x1, .int 2] p3.2).bind fun p7 => some (some (.int (2 * (p1.1 + p7.1))), p7.2)) else none) else (if p3.1 = 4 then (if (mS p3.2 l0).1 = 9 ∧ l0 < 999999 then ((cI d 139 [.ref l0, .int x1, .int 3] p3.2).bind fun p9 => some (some (.int ((50 - p1.1) + p9.1)), p9.2)) else none) else (if p3.1 = 5 then (some (some (.int 13), p3.2)) else (some (some (.int p1.1), p3.2))))))) else none) else none :=
  (e_nx f_151_0 rfl).trans ((e_nx f_151_1 rfl).trans ((e_nx (q := (_, _, .int 1 :: _, _)) f_151_2 rfl).trans ((e_gI (L := [.ref l0, .int x1, un]) (st := [.int 1, .int x1, .ref l0]) (μ := μ) (L' := [.ref l0, .int x1, un]) (st' := []) f_151_3 rfl rfl).trans (g_congr (v_c2 rfl (Nat.le_of_ble_eq_true rfl)) (fun h2 => m_congr fun p1 => (e_nx (q := (_, [.ref l0, .int x1, .int p1.1], _, _)) f_151_6 rfl).trans ((e_nx f_151_7 rfl).trans ((e_nx f_151_8 rfl).trans ((e_nx (q := (_, _, .int 0 :: _, _)) f_151_9 rfl).trans ((e_gI (L := [.ref l0, .int x1, .int p1.1]) (st := [.int 0, .int x1, .ref l0]) (μ := p1.2) (L' := [.ref l0, .int x1, .int p1.1]) (st' := []) f_151_10 rfl rfl).trans (g_congr (v_c2 rfl (Nat.le_of_ble_eq_true rfl)) (fun h4 => m_congr fun p3 => (e_tab f_151_13 (ts := [48, 57, 62, 73, 85]) (df := 88) (lo := 1) rfl rfl rfl (by decide) (by decide)).trans (b_congr (fun _ => (e_nx f_151_48 rfl).trans ((e_nx f_151_49 rfl).trans ((e_nx f_151_50 rfl).trans ((e_nx (q := (_, _, .int 2 :: _, _)) f_151_51 rfl).trans ((e_gI (L := [.ref l0, .int x1, .int p1.1]) (st := [.int 2, .int x1, .ref l0, .int p1.1]) (μ := p3.2) (L' := [.ref l0, .int x1, .int p1.1]) (st' := [.int p1.1]) f_151_52 rfl rfl).trans (g_congr (v_c2 rfl (Nat.le_of_ble_eq_true rfl)) (fun h6 => m_congr fun p5 => (e_nx f_151_55 rfl).trans (e_rt f_151_56 rfl)))))))) (fun _ => b_congr (fun _ => (e_nx (q := (_, _, .int 50 :: _, _)) f_151_57 rfl).trans ((e_nx f_151_59 rfl).trans ((e_nx f_151_60 rfl).trans (e_rt f_151_61 rfl)))) (fun _ => b_congr (fun _ => (e_nx (q := (_, _, .int 2 :: _, _)) f_151_62 rfl).trans ((e_nx f_151_63 rfl).trans ((e_nx f_151_64 rfl).trans ((e_nx f_151_65 rfl).trans ((e_nx (q := (_, _, .int 2 :: _, _)) f_151_66 rfl).trans ((e_gI (L := [.ref l0, .int x1, .int p1.1]) (st := [.int 2, .int x1, .ref l0, .int p1.1, .int 2]) (μ := p3.2) (L' := [.ref l0, .int x1, .int p1.1]) (st' := [.int p1.1, .int 2]) f_151_67 rfl rfl).trans (g_congr (v_c2 rfl (Nat.le_of_ble_eq_true rfl)) (fun h8 => m_congr fun p7 => (e_nx f_151_70 rfl).trans ((e_nx f_151_71 rfl).trans (e_rt f_151_72 rfl)))))))))) (fun _ => b_congr (fun _ => (e_nx (q := (_, _, .int 50 :: _, _)) f_151_73 rfl).trans ((e_nx f_151_75 rfl).trans ((e_nx f_151_76 rfl).trans ((e_nx f_151_77 rfl).trans ((e_nx f_151_78 rfl).trans ((e_nx (q := (_, _, .int 3 :: _, _)) f_151_79 rfl).trans ((e_gI (L := [.ref l0, .int x1, .int p1.1]) (st := [.int 3, .int x1, .ref l0, .int (50 - p1.1)]) (μ := p3.2) (L' := [.ref l0, .int x1, .int p1.1]) (st' := [.int (50 - p1.1)]) f_151_80 rfl rfl).trans (g_congr (v_c2 rfl (Nat.le_of_ble_eq_true rfl)) (fun h10 => m_congr fun p9 => (e_nx f_151_83 rfl).trans (e_rt f_151_84 rfl)))))))))) (fun _ => b_congr (fun _ => (e_nx (q := (_, _, .int 13 :: _, _)) f_151_85 rfl).trans (e_rt f_151_87 rfl)) (fun _ => (e_nx f_151_88 rfl).trans (e_rt f_151_89 rfl))))))))))))))))))
theorem pg_152 (pc : Nat) : fe0 152 pc = lk prg_152 pc := rfl
theorem f_152_0 : fe0 152 0 = some (.iconst 0, 1, 0, 0, 0, 0, 0) := (pg_152 0).trans rfl
theorem f_152_1 : fe0 152 1 = some (.istore_n 1, 1, 0, 0, 0, 0, 0) := (pg_152 1).trans rfl
theorem f_152_2 : fe0 152 2 = some (.iload_n 1, 1, 0, 0, 0, 0, 0) := (pg_152 2).trans rfl
theorem f_152_3 : fe0 152 3 = some (.aload_n 0, 1, 0, 0, 0, 0, 0) := (pg_152 3).trans rfl
theorem f_152_4 : fe0 152 4 = some (.getfield 7, 3, 9, 0, 1, 0, 5024) := (pg_152 4).trans rfl
theorem f_152_7 : fe0 152 7 = some (.iconst 0, 1, 0, 0, 0, 0, 0) := (pg_152 7).trans rfl
theorem f_152_8 : fe0 152 8 = some (.iaload, 1, 0, 0, 0, 0, 0) := (pg_152 8).trans rfl
theorem f_152_9 : fe0 152 9 = some (.if_icmp .ge 20, 3, 0, 0, 0, 0, 0) := (pg_152 9).trans rfl
theorem f_152_12 : fe0 152 12 = some (.aload_n 0, 1, 0, 0, 0, 0, 0) := (pg_152 12).trans rfl
theorem f_152_13 : fe0 152 13 = some (.getfield 46, 3, 9, 13, 1, 0, 5037) := (pg_152 13).trans rfl
theorem f_152_16 : fe0 152 16 = some (.iload_n 1, 1, 0, 0, 0, 0, 0) := (pg_152 16).trans rfl
theorem f_152_17 : fe0 152 17 = some (.aload_n 0, 1, 0, 0, 0, 0, 0) := (pg_152 17).trans rfl
theorem f_152_18 : fe0 152 18 = some (.iload_n 1, 1, 0, 0, 0, 0, 0) := (pg_152 18).trans rfl
theorem f_152_19 : fe0 152 19 = some (.invokevirtual 128, 3, 150, 1, 0, 9, 5199) := (pg_152 19).trans rfl
theorem f_152_22 : fe0 152 22 = some (.iastore, 1, 0, 0, 0, 0, 0) := (pg_152 22).trans rfl
theorem f_152_23 : fe0 152 23 = some (.iinc 1 1, 3, 0, 0, 0, 0, 0) := (pg_152 23).trans rfl
theorem f_152_26 : fe0 152 26 = some (.goto (-24), 3, 0, 0, 0, 0, 0) := (pg_152 26).trans rfl
theorem f_152_29 : fe0 152 29 = some (.return_, 1, 0, 0, 0, 0, 0) := (pg_152 29).trans rfl
theorem q_152_0 (d : Nat) (l0 : Nat) (μ : aMem) : Rn (d + 1) 152 (0, [.ref l0, un], [], μ) = Rn (d + 1) 152 (2, [.ref l0, .int 0], [], μ) :=
  (e_nx (q := (_, _, .int 0 :: _, _)) f_152_0 rfl).trans (e_nx (q := (_, [.ref l0, .int 0], _, _)) f_152_1 rfl)
theorem q_152_2 (d : Nat) (l0 : Nat) (x1 : Int32) (μ : aMem) : Rn (d + 1) 152 (2, [.ref l0, .int x1], [], μ) = if (mS μ l0).1 = 9 then ((rdI μ (mR μ l0 0) 0).bind fun v2 => if v2 ≤ x1 then (some (none, μ)) else (if (mS μ l0).1 = 9 ∧ l0 < 999999 then ((cI d 150 [.ref l0, .int x1] μ).bind fun p4 => if (mS p4.2 (mR μ l0 13)).1 = 10 ∧ inb x1 (mS p4.2 (mR μ l0 13)).2 then (Rn (d + 1) 152 (2, [.ref l0, .int (x1 + 1)], [], setF p4.2 (mR μ l0 13) (ix x1) p4.1)) else none) else none)) else none :=
  (e_nx f_152_2 rfl).trans ((e_nx f_152_3 rfl).trans ((e_gd f_152_4 rfl).trans (g_congr (Iff.rfl) (fun h1 => (e_nx (q := (_, _, .int 0 :: _, _)) f_152_7 rfl).trans ((e_ia (L := [.ref l0, .int x1]) (r := [.int x1]) (μ := μ) f_152_8).trans (m_congr fun v2 => (e_ge f_152_9 rfl).trans (b_congr (fun h3 => e_rt f_152_29 rfl) (fun h3 => (e_nx f_152_12 rfl).trans ((e_gk f_152_13 (h1) rfl).trans ((e_nx f_152_16 rfl).trans ((e_nx f_152_17 rfl).trans ((e_nx f_152_18 rfl).trans ((e_gI (L := [.ref l0, .int x1]) (st := [.int x1, .ref l0, .int x1, .ref (mR μ l0 13)]) (μ := μ) (L' := [.ref l0, .int x1]) (st' := [.int x1, .ref (mR μ l0 13)]) f_152_19 rfl rfl).trans (g_congr (v_c2 rfl (Nat.le_of_ble_eq_true rfl)) (fun h5 => m_congr fun p4 => (e_gd f_152_22 rfl).trans (g_congr (Iff.rfl) (fun h6 => (e_nx (q := (_, [.ref l0, .int (x1 + 1)], _, _)) f_152_23 rfl).trans (e_nx f_152_26 rfl))))))))))))))))))
theorem pg_153 (pc : Nat) : fe0 153 pc = lk prg_153 pc := rfl
theorem f_153_0 : fe0 153 0 = some (.aload_n 0, 1, 0, 0, 0, 0, 0) := (pg_153 0).trans rfl
theorem f_153_1 : fe0 153 1 = some (.invokevirtual 131, 3, 152, 0, 0, 9, 5222) := (pg_153 1).trans rfl
theorem f_153_4 : fe0 153 4 = some (.iconst 0, 1, 0, 0, 0, 0, 0) := (pg_153 4).trans rfl
theorem f_153_5 : fe0 153 5 = some (.istore_n 1, 1, 0, 0, 0, 0, 0) := (pg_153 5).trans rfl
theorem f_153_6 : fe0 153 6 = some (.iload_n 1, 1, 0, 0, 0, 0, 0) := (pg_153 6).trans rfl
theorem f_153_7 : fe0 153 7 = some (.aload_n 0, 1, 0, 0, 0, 0, 0) := (pg_153 7).trans rfl
theorem f_153_8 : fe0 153 8 = some (.getfield 7, 3, 9, 0, 1, 0, 5024) := (pg_153 8).trans rfl
theorem f_153_11 : fe0 153 11 = some (.iconst 0, 1, 0, 0, 0, 0, 0) := (pg_153 11).trans rfl
theorem f_153_12 : fe0 153 12 = some (.iaload, 1, 0, 0, 0, 0, 0) := (pg_153 12).trans rfl
theorem f_153_13 : fe0 153 13 = some (.if_icmp .ge 20, 3, 0, 0, 0, 0, 0) := (pg_153 13).trans rfl
theorem f_153_16 : fe0 153 16 = some (.aload_n 0, 1, 0, 0, 0, 0, 0) := (pg_153 16).trans rfl
theorem f_153_17 : fe0 153 17 = some (.getfield 43, 3, 9, 12, 1, 0, 5036) := (pg_153 17).trans rfl
theorem f_153_20 : fe0 153 20 = some (.iload_n 1, 1, 0, 0, 0, 0, 0) := (pg_153 20).trans rfl
theorem f_153_21 : fe0 153 21 = some (.aload_n 0, 1, 0, 0, 0, 0, 0) := (pg_153 21).trans rfl
theorem f_153_22 : fe0 153 22 = some (.iload_n 1, 1, 0, 0, 0, 0, 0) := (pg_153 22).trans rfl
theorem f_153_23 : fe0 153 23 = some (.invokevirtual 134, 3, 149, 1, 0, 9, 5170) := (pg_153 23).trans rfl
theorem f_153_26 : fe0 153 26 = some (.iastore, 1, 0, 0, 0, 0, 0) := (pg_153 26).trans rfl
theorem f_153_27 : fe0 153 27 = some (.iinc 1 1, 3, 0, 0, 0, 0, 0) := (pg_153 27).trans rfl
theorem f_153_30 : fe0 153 30 = some (.goto (-24), 3, 0, 0, 0, 0, 0) := (pg_153 30).trans rfl
theorem f_153_33 : fe0 153 33 = some (.return_, 1, 0, 0, 0, 0, 0) := (pg_153 33).trans rfl
theorem q_153_0 (d : Nat) (l0 : Nat) (μ : aMem) : Rn (d + 1) 153 (0, [.ref l0, un], [], μ) = if (mS μ l0).1 = 9 ∧ l0 < 999999 then ((cV d 152 [.ref l0] μ).bind fun p1 => Rn (d + 1) 153 (6, [.ref l0, .int 0], [], p1)) else none :=
  (e_nx f_153_0 rfl).trans ((e_gV (L := [.ref l0, un]) (st := [.ref l0]) (μ := μ) (L' := [.ref l0, un]) (st' := []) f_153_1 rfl rfl).trans (g_congr (v_c2 rfl (Nat.le_of_ble_eq_true rfl)) (fun h2 => m_congr fun p1 => (e_nx (q := (_, _, .int 0 :: _, _)) f_153_4 rfl).trans (e_nx (q := (_, [.ref l0, .int 0], _, _)) f_153_5 rfl))))
theorem q_153_6 (d : Nat) (l0 : Nat) (x1 : Int32) (μ : aMem) : Rn (d + 1) 153 (6, [.ref l0, .int x1], [], μ) = if (mS μ l0).1 = 9 then ((rdI μ (mR μ l0 0) 0).bind fun v2 => if v2 ≤ x1 then (some (none, μ)) else (if (mS μ l0).1 = 9 ∧ l0 < 999999 then ((cI d 149 [.ref l0, .int x1] μ).bind fun p4 => if (mS p4.2 (mR μ l0 12)).1 = 10 ∧ inb x1 (mS p4.2 (mR μ l0 12)).2 then (Rn (d + 1) 153 (6, [.ref l0, .int (x1 + 1)], [], setF p4.2 (mR μ l0 12) (ix x1) p4.1)) else none) else none)) else none :=
  (e_nx f_153_6 rfl).trans ((e_nx f_153_7 rfl).trans ((e_gd f_153_8 rfl).trans (g_congr (Iff.rfl) (fun h1 => (e_nx (q := (_, _, .int 0 :: _, _)) f_153_11 rfl).trans ((e_ia (L := [.ref l0, .int x1]) (r := [.int x1]) (μ := μ) f_153_12).trans (m_congr fun v2 => (e_ge f_153_13 rfl).trans (b_congr (fun h3 => e_rt f_153_33 rfl) (fun h3 => (e_nx f_153_16 rfl).trans ((e_gk f_153_17 (h1) rfl).trans ((e_nx f_153_20 rfl).trans ((e_nx f_153_21 rfl).trans ((e_nx f_153_22 rfl).trans ((e_gI (L := [.ref l0, .int x1]) (st := [.int x1, .ref l0, .int x1, .ref (mR μ l0 12)]) (μ := μ) (L' := [.ref l0, .int x1]) (st' := [.int x1, .ref (mR μ l0 12)]) f_153_23 rfl rfl).trans (g_congr (v_c2 rfl (Nat.le_of_ble_eq_true rfl)) (fun h5 => m_congr fun p4 => (e_gd f_153_26 rfl).trans (g_congr (Iff.rfl) (fun h6 => (e_nx (q := (_, [.ref l0, .int (x1 + 1)], _, _)) f_153_27 rfl).trans (e_nx f_153_30 rfl))))))))))))))))))
theorem pg_154 (pc : Nat) : fe0 154 pc = lk prg_154 pc := rfl
theorem f_154_0 : fe0 154 0 = some (.iconst 0, 1, 0, 0, 0, 0, 0) := (pg_154 0).trans rfl
theorem f_154_1 : fe0 154 1 = some (.istore_n 1, 1, 0, 0, 0, 0, 0) := (pg_154 1).trans rfl
theorem f_154_2 : fe0 154 2 = some (.iconst 0, 1, 0, 0, 0, 0, 0) := (pg_154 2).trans rfl
theorem f_154_3 : fe0 154 3 = some (.istore_n 2, 1, 0, 0, 0, 0, 0) := (pg_154 3).trans rfl
theorem f_154_4 : fe0 154 4 = some (.iload_n 2, 1, 0, 0, 0, 0, 0) := (pg_154 4).trans rfl
theorem f_154_5 : fe0 154 5 = some (.aload_n 0, 1, 0, 0, 0, 0, 0) := (pg_154 5).trans rfl
theorem f_154_6 : fe0 154 6 = some (.getfield 7, 3, 9, 0, 1, 0, 5024) := (pg_154 6).trans rfl
theorem f_154_9 : fe0 154 9 = some (.iconst 0, 1, 0, 0, 0, 0, 0) := (pg_154 9).trans rfl
theorem f_154_10 : fe0 154 10 = some (.iaload, 1, 0, 0, 0, 0, 0) := (pg_154 10).trans rfl
theorem f_154_11 : fe0 154 11 = some (.if_icmp .ge 97, 3, 0, 0, 0, 0, 0) := (pg_154 11).trans rfl
theorem f_154_14 : fe0 154 14 = some (.iconst 0, 1, 0, 0, 0, 0, 0) := (pg_154 14).trans rfl
theorem f_154_15 : fe0 154 15 = some (.istore_n 3, 1, 0, 0, 0, 0, 0) := (pg_154 15).trans rfl
theorem f_154_16 : fe0 154 16 = some (.iconst 0, 1, 0, 0, 0, 0, 0) := (pg_154 16).trans rfl
theorem f_154_17 : fe0 154 17 = some (.istore 4, 2, 0, 0, 0, 0, 0) := (pg_154 17).trans rfl
theorem f_154_19 : fe0 154 19 = some (.iload 4, 2, 0, 0, 0, 0, 0) := (pg_154 19).trans rfl
theorem f_154_21 : fe0 154 21 = some (.iload_n 2, 1, 0, 0, 0, 0, 0) := (pg_154 21).trans rfl
theorem f_154_22 : fe0 154 22 = some (.if_icmp .ge 48, 3, 0, 0, 0, 0, 0) := (pg_154 22).trans rfl
theorem f_154_25 : fe0 154 25 = some (.aload_n 0, 1, 0, 0, 0, 0, 0) := (pg_154 25).trans rfl
theorem f_154_26 : fe0 154 26 = some (.iload_n 2, 1, 0, 0, 0, 0, 0) := (pg_154 26).trans rfl
theorem f_154_27 : fe0 154 27 = some (.iconst 4, 1, 0, 0, 0, 0, 0) := (pg_154 27).trans rfl
theorem f_154_28 : fe0 154 28 = some (.invokevirtual 105, 3, 139, 2, 0, 9, 5166) := (pg_154 28).trans rfl
theorem f_154_31 : fe0 154 31 = some (.iload 4, 2, 0, 0, 0, 0, 0) := (pg_154 31).trans rfl
theorem f_154_33 : fe0 154 33 = some (.ishr, 1, 0, 0, 0, 0, 0) := (pg_154 33).trans rfl
theorem f_154_34 : fe0 154 34 = some (.iconst 1, 1, 0, 0, 0, 0, 0) := (pg_154 34).trans rfl
theorem f_154_35 : fe0 154 35 = some (.iand, 1, 0, 0, 0, 0, 0) := (pg_154 35).trans rfl
theorem f_154_36 : fe0 154 36 = some (.iconst 1, 1, 0, 0, 0, 0, 0) := (pg_154 36).trans rfl
theorem f_154_37 : fe0 154 37 = some (.if_icmp .ne 25, 3, 0, 0, 0, 0, 0) := (pg_154 37).trans rfl
theorem f_154_40 : fe0 154 40 = some (.iload_n 3, 1, 0, 0, 0, 0, 0) := (pg_154 40).trans rfl
theorem f_154_41 : fe0 154 41 = some (.aload_n 0, 1, 0, 0, 0, 0, 0) := (pg_154 41).trans rfl
theorem f_154_42 : fe0 154 42 = some (.getfield 49, 3, 9, 14, 1, 0, 5038) := (pg_154 42).trans rfl
theorem f_154_45 : fe0 154 45 = some (.iload 4, 2, 0, 0, 0, 0, 0) := (pg_154 45).trans rfl
theorem f_154_47 : fe0 154 47 = some (.iaload, 1, 0, 0, 0, 0, 0) := (pg_154 47).trans rfl
theorem f_154_48 : fe0 154 48 = some (.aload_n 0, 1, 0, 0, 0, 0, 0) := (pg_154 48).trans rfl
theorem f_154_49 : fe0 154 49 = some (.getfield 43, 3, 9, 12, 1, 0, 5036) := (pg_154 49).trans rfl
theorem f_154_52 : fe0 154 52 = some (.iload 4, 2, 0, 0, 0, 0, 0) := (pg_154 52).trans rfl
theorem f_154_54 : fe0 154 54 = some (.iaload, 1, 0, 0, 0, 0, 0) := (pg_154 54).trans rfl
theorem f_154_55 : fe0 154 55 = some (.iadd, 1, 0, 0, 0, 0, 0) := (pg_154 55).trans rfl
theorem f_154_56 : fe0 154 56 = some (.invokestatic 137, 3, 136, 2, 2, 0, 5230) := (pg_154 56).trans rfl
theorem f_154_59 : fe0 154 59 = some (.goto 4, 3, 0, 0, 0, 0, 0) := (pg_154 59).trans rfl
theorem f_154_62 : fe0 154 62 = some (.iload_n 3, 1, 0, 0, 0, 0, 0) := (pg_154 62).trans rfl
theorem f_154_63 : fe0 154 63 = some (.istore_n 3, 1, 0, 0, 0, 0, 0) := (pg_154 63).trans rfl
theorem f_154_64 : fe0 154 64 = some (.iinc 4 1, 3, 0, 0, 0, 0, 0) := (pg_154 64).trans rfl
theorem f_154_67 : fe0 154 67 = some (.goto (-48), 3, 0, 0, 0, 0, 0) := (pg_154 67).trans rfl
theorem f_154_70 : fe0 154 70 = some (.aload_n 0, 1, 0, 0, 0, 0, 0) := (pg_154 70).trans rfl
theorem f_154_71 : fe0 154 71 = some (.getfield 49, 3, 9, 14, 1, 0, 5038) := (pg_154 71).trans rfl
theorem f_154_74 : fe0 154 74 = some (.iload_n 2, 1, 0, 0, 0, 0, 0) := (pg_154 74).trans rfl
theorem f_154_75 : fe0 154 75 = some (.iload_n 3, 1, 0, 0, 0, 0, 0) := (pg_154 75).trans rfl
theorem f_154_76 : fe0 154 76 = some (.aload_n 0, 1, 0, 0, 0, 0, 0) := (pg_154 76).trans rfl
theorem f_154_77 : fe0 154 77 = some (.getfield 46, 3, 9, 13, 1, 0, 5037) := (pg_154 77).trans rfl
theorem f_154_80 : fe0 154 80 = some (.iload_n 2, 1, 0, 0, 0, 0, 0) := (pg_154 80).trans rfl
theorem f_154_81 : fe0 154 81 = some (.iaload, 1, 0, 0, 0, 0, 0) := (pg_154 81).trans rfl
theorem f_154_82 : fe0 154 82 = some (.iadd, 1, 0, 0, 0, 0, 0) := (pg_154 82).trans rfl
theorem f_154_83 : fe0 154 83 = some (.iastore, 1, 0, 0, 0, 0, 0) := (pg_154 83).trans rfl
theorem f_154_84 : fe0 154 84 = some (.iload_n 1, 1, 0, 0, 0, 0, 0) := (pg_154 84).trans rfl
theorem f_154_85 : fe0 154 85 = some (.aload_n 0, 1, 0, 0, 0, 0, 0) := (pg_154 85).trans rfl
theorem f_154_86 : fe0 154 86 = some (.getfield 49, 3, 9, 14, 1, 0, 5038) := (pg_154 86).trans rfl
theorem f_154_89 : fe0 154 89 = some (.iload_n 2, 1, 0, 0, 0, 0, 0) := (pg_154 89).trans rfl
theorem f_154_90 : fe0 154 90 = some (.iaload, 1, 0, 0, 0, 0, 0) := (pg_154 90).trans rfl
theorem f_154_91 : fe0 154 91 = some (.aload_n 0, 1, 0, 0, 0, 0, 0) := (pg_154 91).trans rfl
theorem f_154_92 : fe0 154 92 = some (.getfield 43, 3, 9, 12, 1, 0, 5036) := (pg_154 92).trans rfl
theorem f_154_95 : fe0 154 95 = some (.iload_n 2, 1, 0, 0, 0, 0, 0) := (pg_154 95).trans rfl
theorem f_154_96 : fe0 154 96 = some (.iaload, 1, 0, 0, 0, 0, 0) := (pg_154 96).trans rfl
theorem f_154_97 : fe0 154 97 = some (.iadd, 1, 0, 0, 0, 0, 0) := (pg_154 97).trans rfl
theorem f_154_98 : fe0 154 98 = some (.invokestatic 137, 3, 136, 2, 2, 0, 5230) := (pg_154 98).trans rfl
theorem f_154_101 : fe0 154 101 = some (.istore_n 1, 1, 0, 0, 0, 0, 0) := (pg_154 101).trans rfl
theorem f_154_102 : fe0 154 102 = some (.iinc 2 1, 3, 0, 0, 0, 0, 0) := (pg_154 102).trans rfl
theorem f_154_105 : fe0 154 105 = some (.goto (-101), 3, 0, 0, 0, 0, 0) := (pg_154 105).trans rfl
theorem f_154_108 : fe0 154 108 = some (.iload_n 1, 1, 0, 0, 0, 0, 0) := (pg_154 108).trans rfl
theorem f_154_109 : fe0 154 109 = some (.ireturn, 1, 0, 0, 0, 0, 0) := (pg_154 109).trans rfl
theorem q_154_0 (d : Nat) (l0 : Nat) (μ : aMem) : Rn (d + 1) 154 (0, [.ref l0, un, un, un, un], [], μ) = Rn (d + 1) 154 (4, [.ref l0, .int 0, .int 0, un, un], [], μ) :=
  (e_nx (q := (_, _, .int 0 :: _, _)) f_154_0 rfl).trans ((e_nx (q := (_, [.ref l0, .int 0, un, un, un], _, _)) f_154_1 rfl).trans ((e_nx (q := (_, _, .int 0 :: _, _)) f_154_2 rfl).trans (e_nx (q := (_, [.ref l0, .int 0, .int 0, un, un], _, _)) f_154_3 rfl)))
theorem q_154_4 (d : Nat) (l0 : Nat) (x1 : Int32) (x2 : Int32) (w3 : Value) (w4 : Value) (μ : aMem) : Rn (d + 1) 154 (4, [.ref l0, .int x1, .int x2, w3, w4], [], μ) = if (mS μ l0).1 = 9 then ((rdI μ (mR μ l0 0) 0).bind fun v2 => if v2 ≤ x2 then (some (some (.int x1), μ)) else (Rn (d + 1) 154 (19, [.ref l0, .int x1, .int x2, .int 0, .int 0], [], μ))) else none :=
  (e_nx f_154_4 rfl).trans ((e_nx f_154_5 rfl).trans ((e_gd f_154_6 rfl).trans (g_congr (Iff.rfl) (fun h1 => (e_nx (q := (_, _, .int 0 :: _, _)) f_154_9 rfl).trans ((e_ia (L := [.ref l0, .int x1, .int x2, w3, w4]) (r := [.int x2]) (μ := μ) f_154_10).trans (m_congr fun v2 => (e_ge f_154_11 rfl).trans (b_congr (fun h3 => (e_nx f_154_108 rfl).trans (e_rt f_154_109 rfl)) (fun h3 => (e_nx (q := (_, _, .int 0 :: _, _)) f_154_14 rfl).trans ((e_nx (q := (_, [.ref l0, .int x1, .int x2, .int 0, w4], _, _)) f_154_15 rfl).trans ((e_nx (q := (_, _, .int 0 :: _, _)) f_154_16 rfl).trans (e_nx (q := (_, [.ref l0, .int x1, .int x2, .int 0, .int 0], _, _)) f_154_17 rfl)))))))))))
theorem q_154_19 (d : Nat) (l0 : Nat) (x1 : Int32) (x2 : Int32) (x3 : Int32) (x4 : Int32) (μ : aMem) : Rn (d + 1) 154 (19, [.ref l0, .int x1, .int x2, .int x3, .int x4], [], μ) = if x2 ≤ x4 then (if (mS μ l0).1 = 9 then ((rdI μ (mR μ l0 13) x2).bind fun v3 => if (mS μ (mR μ l0 14)).1 = 10 ∧ inb x2 (mS μ (mR μ l0 14)).2 then ((rdI (setF μ (mR μ l0 14) (ix x2) (x3 + v3)) (mR μ l0 14) x2).bind fun v5 => (rdI (setF μ (mR μ l0 14) (ix x2) (x3 + v3)) (mR μ l0 12) x2).bind fun v6 => (cI d 136 [.int x1, .int (v5 + v6)] (setF μ (mR μ l0 14) (ix x2) (x3 + v3))).bind fun p7 => Rn (d + 1) 154 (4, [.ref l0, .int p7.1, .int (x2 + 1), .int x3, .int x4], [], p7.2)) else none) else none) else (if (mS μ l0).1 = 9 ∧ l0 < 999999 then ((cI d 139 [.ref l0, .int x2, .int 4] μ).bind fun p8 => if ((p8.1 >>> (x4 &&& 31)) &&& 1) = 1 then (if (mS p8.2 l0).1 = 9 then ((rdI p8.2 (mR p8.2 l0 14) x4).bind fun v12 => (rdI p8.2 (mR p8.2 l0 12) x4).bind fun v13 => (cI d 136 [.int x3, .int (v12 + v13)] p8.2).bind fun p14 => Rn (d + 1) 154 (19, [.ref l0, .int x1, .int x2, .int p14.1, .int (x4 + 1)], [], p14.2)) else none) else (Rn (d + 1) 154 (19, [.ref l0, .int x1, .int x2, .int x3, .int (x4 + 1)], [], p8.2))) else none) :=
  (e_nx f_154_19 rfl).trans ((e_nx f_154_21 rfl).trans ((e_ge f_154_22 rfl).trans (b_congr (fun h1 => (e_nx f_154_70 rfl).trans ((e_gd f_154_71 rfl).trans (g_congr (Iff.rfl) (fun h2 => (e_nx f_154_74 rfl).trans ((e_nx f_154_75 rfl).trans ((e_nx f_154_76 rfl).trans ((e_gk f_154_77 (h2) rfl).trans ((e_nx f_154_80 rfl).trans ((e_ia (L := [.ref l0, .int x1, .int x2, .int x3, .int x4]) (r := [.int x3, .int x2, .ref (mR μ l0 14)]) (μ := μ) f_154_81).trans (m_congr fun v3 => (e_nx f_154_82 rfl).trans ((e_gd f_154_83 rfl).trans (g_congr (Iff.rfl) (fun h4 => (e_nx f_154_84 rfl).trans ((e_nx f_154_85 rfl).trans ((e_gk f_154_86 (h2) rfl).trans ((e_nx f_154_89 rfl).trans ((e_ia (L := [.ref l0, .int x1, .int x2, .int x3, .int x4]) (r := [.int x1]) (μ := setF μ (mR μ l0 14) (ix x2) (x3 + v3)) f_154_90).trans (m_congr fun v5 => (e_nx f_154_91 rfl).trans ((e_gk f_154_92 (h2) rfl).trans ((e_nx f_154_95 rfl).trans ((e_ia (L := [.ref l0, .int x1, .int x2, .int x3, .int x4]) (r := [.int v5, .int x1]) (μ := setF μ (mR μ l0 14) (ix x2) (x3 + v3)) f_154_96).trans (m_congr fun v6 => (e_nx f_154_97 rfl).trans ((e_cI (L := [.ref l0, .int x1, .int x2, .int x3, .int x4]) (st := [.int (v5 + v6), .int x1]) (μ := setF μ (mR μ l0 14) (ix x2) (x3 + v3)) (L' := [.ref l0, .int x1, .int x2, .int x3, .int x4]) (st' := []) f_154_98 rfl rfl).trans (m_congr fun p7 => (e_nx (q := (_, [.ref l0, .int p7.1, .int x2, .int x3, .int x4], _, _)) f_154_101 rfl).trans ((e_nx (q := (_, [.ref l0, .int p7.1, .int (x2 + 1), .int x3, .int x4], _, _)) f_154_102 rfl).trans (e_nx f_154_105 rfl)))))))))))))))))))))))))) (fun h1 => (e_nx f_154_25 rfl).trans ((e_nx f_154_26 rfl).trans ((e_nx (q := (_, _, .int 4 :: _, _)) f_154_27 rfl).trans ((e_gI (L := [.ref l0, .int x1, .int x2, .int x3, .int x4]) (st := [.int 4, .int x2, .ref l0]) (μ := μ) (L' := [.ref l0, .int x1, .int x2, .int x3, .int x4]) (st' := []) f_154_28 rfl rfl).trans (g_congr (v_c2 rfl (Nat.le_of_ble_eq_true rfl)) (fun h9 => m_congr fun p8 => (e_nx f_154_31 rfl).trans ((e_nx f_154_33 rfl).trans ((e_nx (q := (_, _, .int 1 :: _, _)) f_154_34 rfl).trans ((e_nx f_154_35 rfl).trans ((e_nx (q := (_, _, .int 1 :: _, _)) f_154_36 rfl).trans ((e_ne f_154_37 rfl).trans (b_congr (fun h10 => (e_nx f_154_40 rfl).trans ((e_nx f_154_41 rfl).trans ((e_gd f_154_42 rfl).trans (g_congr (Iff.rfl) (fun h11 => (e_nx f_154_45 rfl).trans ((e_ia (L := [.ref l0, .int x1, .int x2, .int x3, .int x4]) (r := [.int x3]) (μ := p8.2) f_154_47).trans (m_congr fun v12 => (e_nx f_154_48 rfl).trans ((e_gk f_154_49 (h11) rfl).trans ((e_nx f_154_52 rfl).trans ((e_ia (L := [.ref l0, .int x1, .int x2, .int x3, .int x4]) (r := [.int v12, .int x3]) (μ := p8.2) f_154_54).trans (m_congr fun v13 => (e_nx f_154_55 rfl).trans ((e_cI (L := [.ref l0, .int x1, .int x2, .int x3, .int x4]) (st := [.int (v12 + v13), .int x3]) (μ := p8.2) (L' := [.ref l0, .int x1, .int x2, .int x3, .int x4]) (st' := []) f_154_56 rfl rfl).trans (m_congr fun p14 => (e_nx f_154_59 rfl).trans ((e_nx (q := (_, [.ref l0, .int x1, .int x2, .int p14.1, .int x4], _, _)) f_154_63 rfl).trans ((e_nx (q := (_, [.ref l0, .int x1, .int x2, .int p14.1, .int (x4 + 1)], _, _)) f_154_64 rfl).trans (e_nx f_154_67 rfl)))))))))))))))) (fun h10 => (e_nx f_154_62 rfl).trans ((e_nx (q := (_, [.ref l0, .int x1, .int x2, .int x3, .int x4], _, _)) f_154_63 rfl).trans ((e_nx (q := (_, [.ref l0, .int x1, .int x2, .int x3, .int (x4 + 1)], _, _)) f_154_64 rfl).trans (e_nx f_154_67 rfl)))))))))))))))))))
theorem pg_155 (pc : Nat) : fe0 155 pc = lk prg_155 pc := rfl
theorem f_155_0 : fe0 155 0 = some (.aload_n 0, 1, 0, 0, 0, 0, 0) := (pg_155 0).trans rfl
theorem f_155_1 : fe0 155 1 = some (.invokevirtual 140, 3, 153, 0, 0, 9, 5218) := (pg_155 1).trans rfl
theorem f_155_4 : fe0 155 4 = some (.aload_n 0, 1, 0, 0, 0, 0, 0) := (pg_155 4).trans rfl
theorem f_155_5 : fe0 155 5 = some (.invokevirtual 143, 3, 154, 0, 0, 9, 5226) := (pg_155 5).trans rfl
theorem f_155_8 : fe0 155 8 = some (.ireturn, 1, 0, 0, 0, 0, 0) := (pg_155 8).trans rfl
theorem q_155_0 (d : Nat) (l0 : Nat) (μ : aMem) : Rn (d + 1) 155 (0, [.ref l0], [], μ) = if (mS μ l0).1 = 9 ∧ l0 < 999999 then ((cV d 153 [.ref l0] μ).bind fun p1 => if (mS p1 l0).1 = 9 ∧ l0 < 999999 then ((cI d 154 [.ref l0] p1).bind fun p3 => some (some (.int p3.1), p3.2)) else none) else none :=
  (e_nx f_155_0 rfl).trans ((e_gV (L := [.ref l0]) (st := [.ref l0]) (μ := μ) (L' := [.ref l0]) (st' := []) f_155_1 rfl rfl).trans (g_congr (v_c2 rfl (Nat.le_of_ble_eq_true rfl)) (fun h2 => m_congr fun p1 => (e_nx f_155_4 rfl).trans ((e_gI (L := [.ref l0]) (st := [.ref l0]) (μ := p1) (L' := [.ref l0]) (st' := []) f_155_5 rfl rfl).trans (g_congr (v_c2 rfl (Nat.le_of_ble_eq_true rfl)) (fun h4 => m_congr fun p3 => e_rt f_155_8 rfl))))))
theorem pg_156 (pc : Nat) : fe0 156 pc = lk prg_156 pc := rfl
theorem f_156_0 : fe0 156 0 = some (.aload_n 0, 1, 0, 0, 0, 0, 0) := (pg_156 0).trans rfl
theorem f_156_1 : fe0 156 1 = some (.invokevirtual 147, 3, 155, 0, 0, 9, 5214) := (pg_156 1).trans rfl
theorem f_156_4 : fe0 156 4 = some (.istore_n 1, 1, 0, 0, 0, 0, 0) := (pg_156 4).trans rfl
theorem f_156_5 : fe0 156 5 = some (.aload_n 0, 1, 0, 0, 0, 0, 0) := (pg_156 5).trans rfl
theorem f_156_6 : fe0 156 6 = some (.getfield 7, 3, 9, 0, 1, 0, 5024) := (pg_156 6).trans rfl
theorem f_156_9 : fe0 156 9 = some (.iconst 0, 1, 0, 0, 0, 0, 0) := (pg_156 9).trans rfl
theorem f_156_10 : fe0 156 10 = some (.iaload, 1, 0, 0, 0, 0, 0) := (pg_156 10).trans rfl
theorem f_156_11 : fe0 156 11 = some (.iconst 1, 1, 0, 0, 0, 0, 0) := (pg_156 11).trans rfl
theorem f_156_12 : fe0 156 12 = some (.isub, 1, 0, 0, 0, 0, 0) := (pg_156 12).trans rfl
theorem f_156_13 : fe0 156 13 = some (.istore_n 2, 1, 0, 0, 0, 0, 0) := (pg_156 13).trans rfl
theorem f_156_14 : fe0 156 14 = some (.iload_n 2, 1, 0, 0, 0, 0, 0) := (pg_156 14).trans rfl
theorem f_156_15 : fe0 156 15 = some (.ifCond .lt 100, 3, 0, 0, 0, 0, 0) := (pg_156 15).trans rfl
theorem f_156_18 : fe0 156 18 = some (.aload_n 0, 1, 0, 0, 0, 0, 0) := (pg_156 18).trans rfl
theorem f_156_19 : fe0 156 19 = some (.getfield 52, 3, 9, 15, 1, 0, 5039) := (pg_156 19).trans rfl
theorem f_156_22 : fe0 156 22 = some (.iload_n 2, 1, 0, 0, 0, 0, 0) := (pg_156 22).trans rfl
theorem f_156_23 : fe0 156 23 = some (.iload_n 1, 1, 0, 0, 0, 0, 0) := (pg_156 23).trans rfl
theorem f_156_24 : fe0 156 24 = some (.iastore, 1, 0, 0, 0, 0, 0) := (pg_156 24).trans rfl
theorem f_156_25 : fe0 156 25 = some (.iload_n 2, 1, 0, 0, 0, 0, 0) := (pg_156 25).trans rfl
theorem f_156_26 : fe0 156 26 = some (.iconst 1, 1, 0, 0, 0, 0, 0) := (pg_156 26).trans rfl
theorem f_156_27 : fe0 156 27 = some (.iadd, 1, 0, 0, 0, 0, 0) := (pg_156 27).trans rfl
theorem f_156_28 : fe0 156 28 = some (.istore_n 3, 1, 0, 0, 0, 0, 0) := (pg_156 28).trans rfl
theorem f_156_29 : fe0 156 29 = some (.iload_n 3, 1, 0, 0, 0, 0, 0) := (pg_156 29).trans rfl
theorem f_156_30 : fe0 156 30 = some (.aload_n 0, 1, 0, 0, 0, 0, 0) := (pg_156 30).trans rfl
theorem f_156_31 : fe0 156 31 = some (.getfield 7, 3, 9, 0, 1, 0, 5024) := (pg_156 31).trans rfl
theorem f_156_34 : fe0 156 34 = some (.iconst 0, 1, 0, 0, 0, 0, 0) := (pg_156 34).trans rfl
theorem f_156_35 : fe0 156 35 = some (.iaload, 1, 0, 0, 0, 0, 0) := (pg_156 35).trans rfl
theorem f_156_36 : fe0 156 36 = some (.if_icmp .ge 73, 3, 0, 0, 0, 0, 0) := (pg_156 36).trans rfl
theorem f_156_39 : fe0 156 39 = some (.aload_n 0, 1, 0, 0, 0, 0, 0) := (pg_156 39).trans rfl
theorem f_156_40 : fe0 156 40 = some (.getfield 52, 3, 9, 15, 1, 0, 5039) := (pg_156 40).trans rfl
theorem f_156_43 : fe0 156 43 = some (.iload_n 3, 1, 0, 0, 0, 0, 0) := (pg_156 43).trans rfl
theorem f_156_44 : fe0 156 44 = some (.iaload, 1, 0, 0, 0, 0, 0) := (pg_156 44).trans rfl
theorem f_156_45 : fe0 156 45 = some (.aload_n 0, 1, 0, 0, 0, 0, 0) := (pg_156 45).trans rfl
theorem f_156_46 : fe0 156 46 = some (.getfield 43, 3, 9, 12, 1, 0, 5036) := (pg_156 46).trans rfl
theorem f_156_49 : fe0 156 49 = some (.iload_n 3, 1, 0, 0, 0, 0, 0) := (pg_156 49).trans rfl
theorem f_156_50 : fe0 156 50 = some (.iaload, 1, 0, 0, 0, 0, 0) := (pg_156 50).trans rfl
theorem f_156_51 : fe0 156 51 = some (.isub, 1, 0, 0, 0, 0, 0) := (pg_156 51).trans rfl
theorem f_156_52 : fe0 156 52 = some (.aload_n 0, 1, 0, 0, 0, 0, 0) := (pg_156 52).trans rfl
theorem f_156_53 : fe0 156 53 = some (.getfield 46, 3, 9, 13, 1, 0, 5037) := (pg_156 53).trans rfl
theorem f_156_56 : fe0 156 56 = some (.iload_n 3, 1, 0, 0, 0, 0, 0) := (pg_156 56).trans rfl
theorem f_156_57 : fe0 156 57 = some (.iaload, 1, 0, 0, 0, 0, 0) := (pg_156 57).trans rfl
theorem f_156_58 : fe0 156 58 = some (.isub, 1, 0, 0, 0, 0, 0) := (pg_156 58).trans rfl
theorem f_156_59 : fe0 156 59 = some (.istore 4, 2, 0, 0, 0, 0, 0) := (pg_156 59).trans rfl
theorem f_156_61 : fe0 156 61 = some (.aload_n 0, 1, 0, 0, 0, 0, 0) := (pg_156 61).trans rfl
theorem f_156_62 : fe0 156 62 = some (.getfield 52, 3, 9, 15, 1, 0, 5039) := (pg_156 62).trans rfl
theorem f_156_65 : fe0 156 65 = some (.iload_n 2, 1, 0, 0, 0, 0, 0) := (pg_156 65).trans rfl
theorem f_156_66 : fe0 156 66 = some (.aload_n 0, 1, 0, 0, 0, 0, 0) := (pg_156 66).trans rfl
theorem f_156_67 : fe0 156 67 = some (.iload_n 3, 1, 0, 0, 0, 0, 0) := (pg_156 67).trans rfl
theorem f_156_68 : fe0 156 68 = some (.iconst 4, 1, 0, 0, 0, 0, 0) := (pg_156 68).trans rfl
theorem f_156_69 : fe0 156 69 = some (.invokevirtual 105, 3, 139, 2, 0, 9, 5166) := (pg_156 69).trans rfl
theorem f_156_72 : fe0 156 72 = some (.iload_n 2, 1, 0, 0, 0, 0, 0) := (pg_156 72).trans rfl
theorem f_156_73 : fe0 156 73 = some (.ishr, 1, 0, 0, 0, 0, 0) := (pg_156 73).trans rfl
theorem f_156_74 : fe0 156 74 = some (.iconst 1, 1, 0, 0, 0, 0, 0) := (pg_156 74).trans rfl
theorem f_156_75 : fe0 156 75 = some (.iand, 1, 0, 0, 0, 0, 0) := (pg_156 75).trans rfl
theorem f_156_76 : fe0 156 76 = some (.iconst 1, 1, 0, 0, 0, 0, 0) := (pg_156 76).trans rfl
theorem f_156_77 : fe0 156 77 = some (.if_icmp .ne 19, 3, 0, 0, 0, 0, 0) := (pg_156 77).trans rfl
theorem f_156_80 : fe0 156 80 = some (.iload 4, 2, 0, 0, 0, 0, 0) := (pg_156 80).trans rfl
theorem f_156_82 : fe0 156 82 = some (.aload_n 0, 1, 0, 0, 0, 0, 0) := (pg_156 82).trans rfl
theorem f_156_83 : fe0 156 83 = some (.getfield 52, 3, 9, 15, 1, 0, 5039) := (pg_156 83).trans rfl
theorem f_156_86 : fe0 156 86 = some (.iload_n 2, 1, 0, 0, 0, 0, 0) := (pg_156 86).trans rfl
theorem f_156_87 : fe0 156 87 = some (.iaload, 1, 0, 0, 0, 0, 0) := (pg_156 87).trans rfl
theorem f_156_88 : fe0 156 88 = some (.if_icmp .ge 8, 3, 0, 0, 0, 0, 0) := (pg_156 88).trans rfl
theorem f_156_91 : fe0 156 91 = some (.iload 4, 2, 0, 0, 0, 0, 0) := (pg_156 91).trans rfl
theorem f_156_93 : fe0 156 93 = some (.goto 9, 3, 0, 0, 0, 0, 0) := (pg_156 93).trans rfl
theorem f_156_96 : fe0 156 96 = some (.aload_n 0, 1, 0, 0, 0, 0, 0) := (pg_156 96).trans rfl
theorem f_156_97 : fe0 156 97 = some (.getfield 52, 3, 9, 15, 1, 0, 5039) := (pg_156 97).trans rfl
theorem f_156_100 : fe0 156 100 = some (.iload_n 2, 1, 0, 0, 0, 0, 0) := (pg_156 100).trans rfl
theorem f_156_101 : fe0 156 101 = some (.iaload, 1, 0, 0, 0, 0, 0) := (pg_156 101).trans rfl
theorem f_156_102 : fe0 156 102 = some (.iastore, 1, 0, 0, 0, 0, 0) := (pg_156 102).trans rfl
theorem f_156_103 : fe0 156 103 = some (.iinc 3 1, 3, 0, 0, 0, 0, 0) := (pg_156 103).trans rfl
theorem f_156_106 : fe0 156 106 = some (.goto (-77), 3, 0, 0, 0, 0, 0) := (pg_156 106).trans rfl
theorem f_156_109 : fe0 156 109 = some (.iinc 2 (-1), 3, 0, 0, 0, 0, 0) := (pg_156 109).trans rfl
theorem f_156_112 : fe0 156 112 = some (.goto (-98), 3, 0, 0, 0, 0, 0) := (pg_156 112).trans rfl
theorem f_156_115 : fe0 156 115 = some (.return_, 1, 0, 0, 0, 0, 0) := (pg_156 115).trans rfl
theorem q_156_0 (d : Nat) (l0 : Nat) (μ : aMem) : Rn (d + 1) 156 (0, [.ref l0, un, un, un, un], [], μ) = if (mS μ l0).1 = 9 ∧ l0 < 999999 then ((cI d 155 [.ref l0] μ).bind fun p1 => if (mS p1.2 l0).1 = 9 then ((rdI p1.2 (mR p1.2 l0 0) 0).bind fun v4 => Rn (d + 1) 156 (14, [.ref l0, .int p1.1, .int (v4 - 1), un, un], [], p1.2)) else none) else none :=
  (e_nx f_156_0 rfl).trans ((e_gI (L := [.ref l0, un, un, un, un]) (st := [.ref l0]) (μ := μ) (L' := [.ref l0, un, un, un, un]) (st' := []) f_156_1 rfl rfl).trans (g_congr (v_c2 rfl (Nat.le_of_ble_eq_true rfl)) (fun h2 => m_congr fun p1 => (e_nx (q := (_, [.ref l0, .int p1.1, un, un, un], _, _)) f_156_4 rfl).trans ((e_nx f_156_5 rfl).trans ((e_gd f_156_6 rfl).trans (g_congr (Iff.rfl) (fun h3 => (e_nx (q := (_, _, .int 0 :: _, _)) f_156_9 rfl).trans ((e_ia (L := [.ref l0, .int p1.1, un, un, un]) (r := []) (μ := p1.2) f_156_10).trans (m_congr fun v4 => (e_nx (q := (_, _, .int 1 :: _, _)) f_156_11 rfl).trans ((e_nx f_156_12 rfl).trans (e_nx (q := (_, [.ref l0, .int p1.1, .int (v4 - 1), un, un], _, _)) f_156_13 rfl)))))))))))
theorem q_156_14 (d : Nat) (l0 : Nat) (x1 : Int32) (x2 : Int32) (w3 : Value) (w4 : Value) (μ : aMem) : Rn (d + 1) 156 (14, [.ref l0, .int x1, .int x2, w3, w4], [], μ) = if x2 < 0 then (some (none, μ)) else (if (mS μ l0).1 = 9 then (if (mS μ (mR μ l0 15)).1 = 10 ∧ inb x2 (mS μ (mR μ l0 15)).2 then (Rn (d + 1) 156 (29, [.ref l0, .int x1, .int x2, .int (x2 + 1), w4], [], setF μ (mR μ l0 15) (ix x2) x1)) else none) else none) :=
  (e_nx f_156_14 rfl).trans ((e_lt f_156_15 rfl).trans (b_congr (fun h1 => e_rt f_156_115 rfl) (fun h1 => (e_nx f_156_18 rfl).trans ((e_gd f_156_19 rfl).trans (g_congr (Iff.rfl) (fun h2 => (e_nx f_156_22 rfl).trans ((e_nx f_156_23 rfl).trans ((e_gd f_156_24 rfl).trans (g_congr (Iff.rfl) (fun h3 => (e_nx f_156_25 rfl).trans ((e_nx (q := (_, _, .int 1 :: _, _)) f_156_26 rfl).trans ((e_nx f_156_27 rfl).trans (e_nx (q := (_, [.ref l0, .int x1, .int x2, .int (x2 + 1), w4], _, _)) f_156_28 rfl)))))))))))))
theorem q_156_29 (d : Nat) (l0 : Nat) (x1 : Int32) (x2 : Int32) (x3 : Int32) (w4 : Value) (μ : aMem) : Rn (d + 1) 156 (29, [.ref l0, .int x1, .int x2, .int x3, w4], [], μ) = if (mS μ l0).1 = 9 then ((rdI μ (mR μ l0 0) 0).bind fun v2 => if v2 ≤ x3 then (Rn (d + 1) 156 (14, [.ref l0, .int x1, .int (x2 + (-1)), .int x3, w4], [], μ)) else ((rdI μ (mR μ l0 15) x3).bind fun v4 => (rdI μ (mR μ l0 12) x3).bind fun v5 => (rdI μ (mR μ l0 13) x3).bind fun v6 => if (mS μ l0).1 = 9 ∧ l0 < 999999 then ((cI d 139 [.ref l0, .int x3, .int 4] μ).bind fun p7 => if ((p7.1 >>> (x2 &&& 31)) &&& 1) = 1 then (if (mS p7.2 l0).1 = 9 then ((rdI p7.2 (mR p7.2 l0 15) x2).bind fun v11 => if v11 ≤ ((v4 - v5) - v6) then ((rdI p7.2 (mR p7.2 l0 15) x2).bind fun v13 => if (mS p7.2 (mR μ l0 15)).1 = 10 ∧ inb x2 (mS p7.2 (mR μ l0 15)).2 then (Rn (d + 1) 156 (29, [.ref l0, .int x1, .int x2, .int (x3 + 1), .int ((v4 - v5) - v6)], [], setF p7.2 (mR μ l0 15) (ix x2) v13)) else none) else (if (mS p7.2 (mR μ l0 15)).1 = 10 ∧ inb x2 (mS p7.2 (mR μ l0 15)).2 then (Rn (d + 1) 156 (29, [.ref l0, .int x1, .int x2, .int (x3 + 1), .int ((v4 - v5) - v6)], [], setF p7.2 (mR μ l0 15) (ix x2) ((v4 - v5) - v6))) else none)) else none) else (if (mS p7.2 l0).1 = 9 then ((rdI p7.2 (mR p7.2 l0 15) x2).bind fun v17 => if (mS p7.2 (mR μ l0 15)).1 = 10 ∧ inb x2 (mS p7.2 (mR μ l0 15)).2 then (Rn (d + 1) 156 (29, [.ref l0, .int x1, .int x2, .int (x3 + 1), .int ((v4 - v5) - v6)], [], setF p7.2 (mR μ l0 15) (ix x2) v17)) else none) else none)) else none)) else none :=
  (e_nx f_156_29 rfl).trans ((e_nx f_156_30 rfl).trans ((e_gd f_156_31 rfl).trans (g_congr (Iff.rfl) (fun h1 => (e_nx (q := (_, _, .int 0 :: _, _)) f_156_34 rfl).trans ((e_ia (L := [.ref l0, .int x1, .int x2, .int x3, w4]) (r := [.int x3]) (μ := μ) f_156_35).trans (m_congr fun v2 => (e_ge f_156_36 rfl).trans (b_congr (fun h3 => (e_nx (q := (_, [.ref l0, .int x1, .int (x2 + (-1)), .int x3, w4], _, _)) f_156_109 rfl).trans (e_nx f_156_112 rfl)) (fun h3 => (e_nx f_156_39 rfl).trans ((e_gk f_156_40 (h1) rfl).trans ((e_nx f_156_43 rfl).trans ((e_ia (L := [.ref l0, .int x1, .int x2, .int x3, w4]) (r := []) (μ := μ) f_156_44).trans (m_congr fun v4 => (e_nx f_156_45 rfl).trans ((e_gk f_156_46 (h1) rfl).trans ((e_nx f_156_49 rfl).trans ((e_ia (L := [.ref l0, .int x1, .int x2, .int x3, w4]) (r := [.int v4]) (μ := μ) f_156_50).trans (m_congr fun v5 => (e_nx f_156_51 rfl).trans ((e_nx f_156_52 rfl).trans ((e_gk f_156_53 (h1) rfl).trans ((e_nx f_156_56 rfl).trans ((e_ia (L := [.ref l0, .int x1, .int x2, .int x3, w4]) (r := [.int (v4 - v5)]) (μ := μ) f_156_57).trans (m_congr fun v6 => (e_nx f_156_58 rfl).trans ((e_nx (q := (_, [.ref l0, .int x1, .int x2, .int x3, .int ((v4 - v5) - v6)], _, _)) f_156_59 rfl).trans ((e_nx f_156_61 rfl).trans ((e_gk f_156_62 (h1) rfl).trans ((e_nx f_156_65 rfl).trans ((e_nx f_156_66 rfl).trans ((e_nx f_156_67 rfl).trans ((e_nx (q := (_, _, .int 4 :: _, _)) f_156_68 rfl).trans ((e_gI (L := [.ref l0, .int x1, .int x2, .int x3, .int ((v4 - v5) - v6)]) (st := [.int 4, .int x3, .ref l0, .int x2, .ref (mR μ l0 15)]) (μ := μ) (L' := [.ref l0, .int x1, .int x2, .int x3, .int ((v4 - v5) - v6)]) (st' := [.int x2, .ref (mR μ l0 15)]) f_156_69 rfl rfl).trans (g_congr (v_c2 rfl (Nat.le_of_ble_eq_true rfl)) (fun h8 => m_congr fun p7 => (e_nx f_156_72 rfl).trans ((e_nx f_156_73 rfl).trans ((e_nx (q := (_, _, .int 1 :: _, _)) f_156_74 rfl).trans ((e_nx f_156_75 rfl).trans ((e_nx (q := (_, _, .int 1 :: _, _)) f_156_76 rfl).trans ((e_ne f_156_77 rfl).trans (b_congr (fun h9 => (e_nx f_156_80 rfl).trans ((e_nx f_156_82 rfl).trans ((e_gd f_156_83 rfl).trans (g_congr (Iff.rfl) (fun h10 => (e_nx f_156_86 rfl).trans ((e_ia (L := [.ref l0, .int x1, .int x2, .int x3, .int ((v4 - v5) - v6)]) (r := [.int ((v4 - v5) - v6), .int x2, .ref (mR μ l0 15)]) (μ := p7.2) f_156_87).trans (m_congr fun v11 => (e_ge f_156_88 rfl).trans (b_congr (fun h12 => (e_nx f_156_96 rfl).trans ((e_gk f_156_97 (h10) rfl).trans ((e_nx f_156_100 rfl).trans ((e_ia (L := [.ref l0, .int x1, .int x2, .int x3, .int ((v4 - v5) - v6)]) (r := [.int x2, .ref (mR μ l0 15)]) (μ := p7.2) f_156_101).trans (m_congr fun v13 => (e_gd f_156_102 rfl).trans (g_congr (Iff.rfl) (fun h14 => (e_nx (q := (_, [.ref l0, .int x1, .int x2, .int (x3 + 1), .int ((v4 - v5) - v6)], _, _)) f_156_103 rfl).trans (e_nx f_156_106 rfl)))))))) (fun h12 => (e_nx f_156_91 rfl).trans ((e_nx f_156_93 rfl).trans ((e_gd f_156_102 rfl).trans (g_congr (Iff.rfl) (fun h15 => (e_nx (q := (_, [.ref l0, .int x1, .int x2, .int (x3 + 1), .int ((v4 - v5) - v6)], _, _)) f_156_103 rfl).trans (e_nx f_156_106 rfl)))))))))))))) (fun h9 => (e_nx f_156_96 rfl).trans ((e_gd f_156_97 rfl).trans (g_congr (Iff.rfl) (fun h16 => (e_nx f_156_100 rfl).trans ((e_ia (L := [.ref l0, .int x1, .int x2, .int x3, .int ((v4 - v5) - v6)]) (r := [.int x2, .ref (mR μ l0 15)]) (μ := p7.2) f_156_101).trans (m_congr fun v17 => (e_gd f_156_102 rfl).trans (g_congr (Iff.rfl) (fun h18 => (e_nx (q := (_, [.ref l0, .int x1, .int x2, .int (x3 + 1), .int ((v4 - v5) - v6)], _, _)) f_156_103 rfl).trans (e_nx f_156_106 rfl))))))))))))))))))))))))))))))))))))))))))))))
theorem pg_157 (pc : Nat) : fe0 157 pc = lk prg_157 pc := rfl
theorem f_157_0 : fe0 157 0 = some (.aload_n 0, 1, 0, 0, 0, 0, 0) := (pg_157 0).trans rfl
theorem f_157_1 : fe0 157 1 = some (.getfield 52, 3, 9, 15, 1, 0, 5039) := (pg_157 1).trans rfl
theorem f_157_4 : fe0 157 4 = some (.iload_n 1, 1, 0, 0, 0, 0, 0) := (pg_157 4).trans rfl
theorem f_157_5 : fe0 157 5 = some (.iaload, 1, 0, 0, 0, 0, 0) := (pg_157 5).trans rfl
theorem f_157_6 : fe0 157 6 = some (.aload_n 0, 1, 0, 0, 0, 0, 0) := (pg_157 6).trans rfl
theorem f_157_7 : fe0 157 7 = some (.getfield 49, 3, 9, 14, 1, 0, 5038) := (pg_157 7).trans rfl
theorem f_157_10 : fe0 157 10 = some (.iload_n 1, 1, 0, 0, 0, 0, 0) := (pg_157 10).trans rfl
theorem f_157_11 : fe0 157 11 = some (.iaload, 1, 0, 0, 0, 0, 0) := (pg_157 11).trans rfl
theorem f_157_12 : fe0 157 12 = some (.isub, 1, 0, 0, 0, 0, 0) := (pg_157 12).trans rfl
theorem f_157_13 : fe0 157 13 = some (.aload_n 0, 1, 0, 0, 0, 0, 0) := (pg_157 13).trans rfl
theorem f_157_14 : fe0 157 14 = some (.getfield 43, 3, 9, 12, 1, 0, 5036) := (pg_157 14).trans rfl
theorem f_157_17 : fe0 157 17 = some (.iload_n 1, 1, 0, 0, 0, 0, 0) := (pg_157 17).trans rfl
theorem f_157_18 : fe0 157 18 = some (.iaload, 1, 0, 0, 0, 0, 0) := (pg_157 18).trans rfl
theorem f_157_19 : fe0 157 19 = some (.isub, 1, 0, 0, 0, 0, 0) := (pg_157 19).trans rfl
theorem f_157_20 : fe0 157 20 = some (.sipush 9999, 3, 0, 0, 0, 0, 0) := (pg_157 20).trans rfl
theorem f_157_23 : fe0 157 23 = some (.invokestatic 119, 3, 134, 2, 2, 0, 5193) := (pg_157 23).trans rfl
theorem f_157_26 : fe0 157 26 = some (.ireturn, 1, 0, 0, 0, 0, 0) := (pg_157 26).trans rfl
theorem q_157_0 (d : Nat) (l0 : Nat) (x1 : Int32) (μ : aMem) : Rn (d + 1) 157 (0, [.ref l0, .int x1], [], μ) = if (mS μ l0).1 = 9 then ((rdI μ (mR μ l0 15) x1).bind fun v2 => (rdI μ (mR μ l0 14) x1).bind fun v3 => (rdI μ (mR μ l0 12) x1).bind fun v4 => (cI d 134 [.int ((v2 - v3) - v4), .int 9999] μ).bind fun p5 => some (some (.int p5.1), p5.2)) else none :=
  (e_nx f_157_0 rfl).trans ((e_gd f_157_1 rfl).trans (g_congr (Iff.rfl) (fun h1 => (e_nx f_157_4 rfl).trans ((e_ia (L := [.ref l0, .int x1]) (r := []) (μ := μ) f_157_5).trans (m_congr fun v2 => (e_nx f_157_6 rfl).trans ((e_gk f_157_7 (h1) rfl).trans ((e_nx f_157_10 rfl).trans ((e_ia (L := [.ref l0, .int x1]) (r := [.int v2]) (μ := μ) f_157_11).trans (m_congr fun v3 => (e_nx f_157_12 rfl).trans ((e_nx f_157_13 rfl).trans ((e_gk f_157_14 (h1) rfl).trans ((e_nx f_157_17 rfl).trans ((e_ia (L := [.ref l0, .int x1]) (r := [.int (v2 - v3)]) (μ := μ) f_157_18).trans (m_congr fun v4 => (e_nx f_157_19 rfl).trans ((e_nx (q := (_, _, .int 9999 :: _, _)) f_157_20 rfl).trans ((e_cI (L := [.ref l0, .int x1]) (st := [.int 9999, .int ((v2 - v3) - v4)]) (μ := μ) (L' := [.ref l0, .int x1]) (st' := []) f_157_23 rfl rfl).trans (m_congr fun p5 => e_rt f_157_26 rfl)))))))))))))))))
theorem pg_158 (pc : Nat) : fe0 158 pc = lk prg_158 pc := rfl
theorem f_158_0 : fe0 158 0 = some (.aload_n 0, 1, 0, 0, 0, 0, 0) := (pg_158 0).trans rfl
theorem f_158_1 : fe0 158 1 = some (.iload_n 1, 1, 0, 0, 0, 0, 0) := (pg_158 1).trans rfl
theorem f_158_2 : fe0 158 2 = some (.invokevirtual 150, 3, 140, 1, 0, 9, 5162) := (pg_158 2).trans rfl
theorem f_158_5 : fe0 158 5 = some (.ifCond .ne 6, 3, 0, 0, 0, 0, 0) := (pg_158 5).trans rfl
theorem f_158_8 : fe0 158 8 = some (.ldc 99, 2, 0, 0, 3294967295, 0, 5152) := (pg_158 8).trans rfl
theorem f_158_10 : fe0 158 10 = some (.ireturn, 1, 0, 0, 0, 0, 0) := (pg_158 10).trans rfl
theorem f_158_11 : fe0 158 11 = some (.iload_n 2, 1, 0, 0, 0, 0, 0) := (pg_158 11).trans rfl
theorem f_158_12 : fe0 158 12 = some (.tableswitch 132 0 10 #[60, 60, 60, 60, 60, 67, 73, 79, 85, 85, 85], 60, 0, 0, 0, 0, 0) := (pg_158 12).trans rfl
theorem f_158_72 : fe0 158 72 = some (.aload_n 0, 1, 0, 0, 0, 0, 0) := (pg_158 72).trans rfl
theorem f_158_73 : fe0 158 73 = some (.iload_n 1, 1, 0, 0, 0, 0, 0) := (pg_158 73).trans rfl
theorem f_158_74 : fe0 158 74 = some (.iload_n 2, 1, 0, 0, 0, 0, 0) := (pg_158 74).trans rfl
theorem f_158_75 : fe0 158 75 = some (.invokevirtual 105, 3, 139, 2, 0, 9, 5166) := (pg_158 75).trans rfl
theorem f_158_78 : fe0 158 78 = some (.ireturn, 1, 0, 0, 0, 0, 0) := (pg_158 78).trans rfl
theorem f_158_79 : fe0 158 79 = some (.aload_n 0, 1, 0, 0, 0, 0, 0) := (pg_158 79).trans rfl
theorem f_158_80 : fe0 158 80 = some (.iload_n 1, 1, 0, 0, 0, 0, 0) := (pg_158 80).trans rfl
theorem f_158_81 : fe0 158 81 = some (.invokevirtual 134, 3, 149, 1, 0, 9, 5170) := (pg_158 81).trans rfl
theorem f_158_84 : fe0 158 84 = some (.ireturn, 1, 0, 0, 0, 0, 0) := (pg_158 84).trans rfl
theorem f_158_85 : fe0 158 85 = some (.aload_n 0, 1, 0, 0, 0, 0, 0) := (pg_158 85).trans rfl
theorem f_158_86 : fe0 158 86 = some (.iload_n 1, 1, 0, 0, 0, 0, 0) := (pg_158 86).trans rfl
theorem f_158_87 : fe0 158 87 = some (.invokevirtual 128, 3, 150, 1, 0, 9, 5199) := (pg_158 87).trans rfl
theorem f_158_90 : fe0 158 90 = some (.ireturn, 1, 0, 0, 0, 0, 0) := (pg_158 90).trans rfl
theorem f_158_91 : fe0 158 91 = some (.aload_n 0, 1, 0, 0, 0, 0, 0) := (pg_158 91).trans rfl
theorem f_158_92 : fe0 158 92 = some (.iload_n 1, 1, 0, 0, 0, 0, 0) := (pg_158 92).trans rfl
theorem f_158_93 : fe0 158 93 = some (.invokevirtual 153, 3, 151, 1, 0, 9, 5206) := (pg_158 93).trans rfl
theorem f_158_96 : fe0 158 96 = some (.ireturn, 1, 0, 0, 0, 0, 0) := (pg_158 96).trans rfl
theorem f_158_97 : fe0 158 97 = some (.aload_n 0, 1, 0, 0, 0, 0, 0) := (pg_158 97).trans rfl
theorem f_158_98 : fe0 158 98 = some (.invokevirtual 156, 3, 156, 0, 0, 9, 5210) := (pg_158 98).trans rfl
theorem f_158_101 : fe0 158 101 = some (.iload_n 2, 1, 0, 0, 0, 0, 0) := (pg_158 101).trans rfl
theorem f_158_102 : fe0 158 102 = some (.bipush 8, 2, 0, 0, 0, 0, 0) := (pg_158 102).trans rfl
theorem f_158_104 : fe0 158 104 = some (.if_icmp .ne 12, 3, 0, 0, 0, 0, 0) := (pg_158 104).trans rfl
theorem f_158_107 : fe0 158 107 = some (.aload_n 0, 1, 0, 0, 0, 0, 0) := (pg_158 107).trans rfl
theorem f_158_108 : fe0 158 108 = some (.getfield 49, 3, 9, 14, 1, 0, 5038) := (pg_158 108).trans rfl
theorem f_158_111 : fe0 158 111 = some (.iload_n 1, 1, 0, 0, 0, 0, 0) := (pg_158 111).trans rfl
theorem f_158_112 : fe0 158 112 = some (.iaload, 1, 0, 0, 0, 0, 0) := (pg_158 112).trans rfl
theorem f_158_113 : fe0 158 113 = some (.goto 30, 3, 0, 0, 0, 0, 0) := (pg_158 113).trans rfl
theorem f_158_116 : fe0 158 116 = some (.iload_n 2, 1, 0, 0, 0, 0, 0) := (pg_158 116).trans rfl
theorem f_158_117 : fe0 158 117 = some (.bipush 9, 2, 0, 0, 0, 0, 0) := (pg_158 117).trans rfl
theorem f_158_119 : fe0 158 119 = some (.if_icmp .ne 19, 3, 0, 0, 0, 0, 0) := (pg_158 119).trans rfl
theorem f_158_122 : fe0 158 122 = some (.aload_n 0, 1, 0, 0, 0, 0, 0) := (pg_158 122).trans rfl
theorem f_158_123 : fe0 158 123 = some (.getfield 49, 3, 9, 14, 1, 0, 5038) := (pg_158 123).trans rfl
theorem f_158_126 : fe0 158 126 = some (.iload_n 1, 1, 0, 0, 0, 0, 0) := (pg_158 126).trans rfl
theorem f_158_127 : fe0 158 127 = some (.iaload, 1, 0, 0, 0, 0, 0) := (pg_158 127).trans rfl
theorem f_158_128 : fe0 158 128 = some (.aload_n 0, 1, 0, 0, 0, 0, 0) := (pg_158 128).trans rfl
theorem f_158_129 : fe0 158 129 = some (.getfield 43, 3, 9, 12, 1, 0, 5036) := (pg_158 129).trans rfl
theorem f_158_132 : fe0 158 132 = some (.iload_n 1, 1, 0, 0, 0, 0, 0) := (pg_158 132).trans rfl
theorem f_158_133 : fe0 158 133 = some (.iaload, 1, 0, 0, 0, 0, 0) := (pg_158 133).trans rfl
theorem f_158_134 : fe0 158 134 = some (.iadd, 1, 0, 0, 0, 0, 0) := (pg_158 134).trans rfl
theorem f_158_135 : fe0 158 135 = some (.goto 8, 3, 0, 0, 0, 0, 0) := (pg_158 135).trans rfl
theorem f_158_138 : fe0 158 138 = some (.aload_n 0, 1, 0, 0, 0, 0, 0) := (pg_158 138).trans rfl
theorem f_158_139 : fe0 158 139 = some (.iload_n 1, 1, 0, 0, 0, 0, 0) := (pg_158 139).trans rfl
theorem f_158_140 : fe0 158 140 = some (.invokevirtual 159, 3, 157, 1, 0, 9, 5233) := (pg_158 140).trans rfl
theorem f_158_143 : fe0 158 143 = some (.ireturn, 1, 0, 0, 0, 0, 0) := (pg_158 143).trans rfl
theorem f_158_144 : fe0 158 144 = some (.ldc 99, 2, 0, 0, 3294967295, 0, 5152) := (pg_158 144).trans rfl
theorem f_158_146 : fe0 158 146 = some (.ireturn, 1, 0, 0, 0, 0, 0) := (pg_158 146).trans rfl
theorem q_158_0 (d : Nat) (l0 : Nat) (x1 : Int32) (x2 : Int32) (μ : aMem) : Rn (d + 1) 158 (0, [.ref l0, .int x1, .int x2], [], μ) = if (mS μ l0).1 = 9 ∧ l0 < 999999 then ((cI d 140 [.ref l0, .int x1] μ).bind fun p1 => if p1.1 = 0 then (some (some (.int (-1000000001)), p1.2)) else (if x2 = 0 then (if (mS p1.2 l0).1 = 9 ∧ l0 < 999999 then ((cI d 139 [.ref l0, .int x1, .int x2] p1.2).bind fun p4 => some (some (.int p4.1), p4.2)) else none) else (if x2 = 1 then (if (mS p1.2 l0).1 = 9 ∧ l0 < 999999 then ((cI d 139 [.ref l0, .int x1, .int x2] p1.2).bind fun p6 => some (some (.int p6.1), p6.2)) else none) else (if x2 = 2 then (if (mS p1.2 l0).1 = 9 ∧ l0 < 999999 then ((cI d 139 [.ref l0, .int x1, .int x2] p1.2).bind fun p8 => some (some (.int p8.1), p8.2)) else none) else (if x2 = 3 then (if (mS p1.2 l0).1 = 9 ∧ l0 < 999999 then ((cI d 139 [.ref l0, .int x1, .int x2] p1.2).bind fun p10 => some (some (.int p10.1), p10.2)) else none) else (if x2 = 4 then (if (mS p1.2 l0).1 = 9 ∧ l0 < 999999 then ((cI d 139 [.ref l0, .int x1, .int x2] p1.2).bind fun p12 => some (some (.int p12.1), p12.2)) else none) else (if x2 = 5 then (if (mS p1.2 l0).1 = 9 ∧ l0 < 999999 then ((cI d 149 [.ref l0, .int x1] p1.2).bind fun p14 => some (some (.int p14.1), p14.2)) else none) else (if x2 = 6 then (if (mS p1.2 l0).1 = 9 ∧ l0 < 999999 then ((cI d 150 [.ref l0, .int x1] p1.2).bind fun p16 => some (some (.int p16.1), p16.2)) else none) else (if x2 = 7 then (if (mS p1.2 l0).1 = 9 ∧ l0 < 999999 then ((cI d 151 [.ref l0, .int x1] p1.2).bind fun p18 => some (some (.int p18.1), p18.2)) else none) else (if x2 = 8 then (if (mS p1.2 l0).1 = 9 ∧ l0 < 999999 then ((cV d 156 [.ref l0] p1.2).bind fun p20 => if x2 = 8 then (if (mS p20 l0).1 = 9 then ((rdI p20 (mR p20 l0 14) x1).bind fun v24 => some (some (.int v24), p20)) else none) else (if x2 = 9 then (if (mS p20 l0).1 = 9 then ((rdI p20 (mR p20 l0 14) x1).bind fun v27 => (rdI p20 (mR p20 l0 12) x1).bind fun v28 => some (some (.int (v27 + v28)), p20)) else none) else (if (mS p20 l0).1 = 9 ∧ l0 < 999999 then ((cI d 157 [.ref l0, .int x1] p20).bind fun p29 => some (some (.int p29.1), p29.2)) else none))) else none) else (if x2 = 9 then (if (mS p1.2 l0).1 = 9 ∧ l0 < 999999 then ((cV d 156 [.ref l0] p1.2).bind fun p31 => if x2 = 8 then (if (mS p31 l0).1 = 9 then ((rdI p31 (mR p31 l0 14) x1).bind fun v35 => some (some (.int v35), p31)) else none) else (if x2 = 9 then (if (mS p31 l0).1 = 9 then ((rdI p31 (mR p31 l0 14) x1).bind fun v38 => (rdI p31 (mR p31 l0 12) x1).bind fun v39 => some (some (.int (v38 + v39)), p31)) else none) else (if (mS p31 l0).1 = 9 ∧ l0 < 999999 then ((cI d 157 [.ref l0, .int x1] p31).bind fun p40 => some (some (.int p40.1), p40.2)) else none))) else none) else (if x2 = 10 then (if (mS p1.2 l0).1 = 9 ∧ l0 < 999999 then ((cV d 156 [.ref l0] p1.2).bind fun p42 => if x2 = 8 then (if (mS p42 l0).1 = 9 then ((rdI p42 (mR p42 l0 14) x1).bind fun v46 => some (some (.int v46), p42)) else none) else (if x2 = 9 then (if (mS p42 l0).1 = 9 then ((rdI p42 (mR p42 l0 14) x1).bind fun v49 => (rdI p42 (mR p42 l0 12) x1).bind fun v50 => some (some (.int (v49 + v50)), p42)) else none) else (if (mS p42 l0).1 = 9 ∧ l0 < 999999 then ((cI d 157 [.ref l0, .int x1] p42).bind fun p51 => some (some (.int p51.1), p51.2)) else none))) else none) else (some (some (.int (-1000000001)), p1.2)))))))))))))) else none :=
  (e_nx f_158_0 rfl).trans ((e_nx f_158_1 rfl).trans ((e_gI (L := [.ref l0, .int x1, .int x2]) (st := [.int x1, .ref l0]) (μ := μ) (L' := [.ref l0, .int x1, .int x2]) (st' := []) f_158_2 rfl rfl).trans (g_congr (v_c2 rfl (Nat.le_of_ble_eq_true rfl)) (fun h2 => m_congr fun p1 => (e_ne f_158_5 rfl).trans (b_congr (fun h3 => (e_nx (q := (_, _, .int (-1000000001) :: _, _)) f_158_8 rfl).trans (e_rt f_158_10 rfl)) (fun h3 => (e_nx f_158_11 rfl).trans ((e_tab f_158_12 (ts := [72, 72, 72, 72, 72, 79, 85, 91, 97, 97, 97]) (df := 144) (lo := 0) rfl rfl rfl (by decide) (by decide)).trans (b_congr (fun _ => (e_nx f_158_72 rfl).trans ((e_nx f_158_73 rfl).trans ((e_nx f_158_74 rfl).trans ((e_gI (L := [.ref l0, .int x1, .int x2]) (st := [.int x2, .int x1, .ref l0]) (μ := p1.2) (L' := [.ref l0, .int x1, .int x2]) (st' := []) f_158_75 rfl rfl).trans (g_congr (v_c2 rfl (Nat.le_of_ble_eq_true rfl)) (fun h5 => m_congr fun p4 => e_rt f_158_78 rfl)))))) (fun _ => b_congr (fun _ => (e_nx f_158_72 rfl).trans ((e_nx f_158_73 rfl).trans ((e_nx f_158_74 rfl).trans ((e_gI (L := [.ref l0, .int x1, .int x2]) (st := [.int x2, .int x1, .ref l0]) (μ := p1.2) (L' := [.ref l0, .int x1, .int x2]) (st' := []) f_158_75 rfl rfl).trans (g_congr (v_c2 rfl (Nat.le_of_ble_eq_true rfl)) (fun h7 => m_congr fun p6 => e_rt f_158_78 rfl)))))) (fun _ => b_congr (fun _ => (e_nx f_158_72 rfl).trans ((e_nx f_158_73 rfl).trans ((e_nx f_158_74 rfl).trans ((e_gI (L := [.ref l0, .int x1, .int x2]) (st := [.int x2, .int x1, .ref l0]) (μ := p1.2) (L' := [.ref l0, .int x1, .int x2]) (st' := []) f_158_75 rfl rfl).trans (g_congr (v_c2 rfl (Nat.le_of_ble_eq_true rfl)) (fun h9 => m_congr fun p8 => e_rt f_158_78 rfl)))))) (fun _ => b_congr (fun _ => (e_nx f_158_72 rfl).trans ((e_nx f_158_73 rfl).trans ((e_nx f_158_74 rfl).trans ((e_gI (L := [.ref l0, .int x1, .int x2]) (st := [.int x2, .int x1, .ref l0]) (μ := p1.2) (L' := [.ref l0, .int x1, .int x2]) (st' := []) f_158_75 rfl rfl).trans (g_congr (v_c2 rfl (Nat.le_of_ble_eq_true rfl)) (fun h11 => m_congr fun p10 => e_rt f_158_78 rfl)))))) (fun _ => b_congr (fun _ => (e_nx f_158_72 rfl).trans ((e_nx f_158_73 rfl).trans ((e_nx f_158_74 rfl).trans ((e_gI (L := [.ref l0, .int x1, .int x2]) (st := [.int x2, .int x1, .ref l0]) (μ := p1.2) (L' := [.ref l0, .int x1, .int x2]) (st' := []) f_158_75 rfl rfl).trans (g_congr (v_c2 rfl (Nat.le_of_ble_eq_true rfl)) (fun h13 => m_congr fun p12 => e_rt f_158_78 rfl)))))) (fun _ => b_congr (fun _ => (e_nx f_158_79 rfl).trans ((e_nx f_158_80 rfl).trans ((e_gI (L := [.ref l0, .int x1, .int x2]) (st := [.int x1, .ref l0]) (μ := p1.2) (L' := [.ref l0, .int x1, .int x2]) (st' := []) f_158_81 rfl rfl).trans (g_congr (v_c2 rfl (Nat.le_of_ble_eq_true rfl)) (fun h15 => m_congr fun p14 => e_rt f_158_84 rfl))))) (fun _ => b_congr (fun _ => (e_nx f_158_85 rfl).trans ((e_nx f_158_86 rfl).trans ((e_gI (L := [.ref l0, .int x1, .int x2]) (st := [.int x1, .ref l0]) (μ := p1.2) (L' := [.ref l0, .int x1, .int x2]) (st' := []) f_158_87 rfl rfl).trans (g_congr (v_c2 rfl (Nat.le_of_ble_eq_true rfl)) (fun h17 => m_congr fun p16 => e_rt f_158_90 rfl))))) (fun _ => b_congr (fun _ => (e_nx f_158_91 rfl).trans ((e_nx f_158_92 rfl).trans ((e_gI (L := [.ref l0, .int x1, .int x2]) (st := [.int x1, .ref l0]) (μ := p1.2) (L' := [.ref l0, .int x1, .int x2]) (st' := []) f_158_93 rfl rfl).trans (g_congr (v_c2 rfl (Nat.le_of_ble_eq_true rfl)) (fun h19 => m_congr fun p18 => e_rt f_158_96 rfl))))) (fun _ => b_congr (fun _ => (e_nx f_158_97 rfl).trans ((e_gV (L := [.ref l0, .int x1, .int x2]) (st := [.ref l0]) (μ := p1.2) (L' := [.ref l0, .int x1, .int x2]) (st' := []) f_158_98 rfl rfl).trans (g_congr (v_c2 rfl (Nat.le_of_ble_eq_true rfl)) (fun h21 => m_congr fun p20 => (e_nx f_158_101 rfl).trans ((e_nx (q := (_, _, .int 8 :: _, _)) f_158_102 rfl).trans ((e_ne f_158_104 rfl).trans (b_congr (fun h22 => (e_nx f_158_107 rfl).trans ((e_gd f_158_108 rfl).trans (g_congr (Iff.rfl) (fun h23 => (e_nx f_158_111 rfl).trans ((e_ia (L := [.ref l0, .int x1, .int x2]) (r := []) (μ := p20) f_158_112).trans (m_congr fun v24 => (e_nx f_158_113 rfl).trans (e_rt f_158_143 rfl))))))) (fun h22 => (e_nx f_158_116 rfl).trans ((e_nx (q := (_, _, .int 9 :: _, _)) f_158_117 rfl).trans ((e_ne f_158_119 rfl).trans (b_congr (fun h25 => (e_nx f_158_122 rfl).trans ((e_gd f_158_123 rfl).trans (g_congr (Iff.rfl) (fun h26 => (e_nx f_158_126 rfl).trans ((e_ia (L := [.ref l0, .int x1, .int x2]) (r := []) (μ := p20) f_158_127).trans (m_congr fun v27 => (e_nx f_158_128 rfl).trans ((e_gk f_158_129 (h26) rfl).trans ((e_nx f_158_132 rfl).trans ((e_ia (L := [.ref l0, .int x1, .int x2]) (r := [.int v27]) (μ := p20) f_158_133).trans (m_congr fun v28 => (e_nx f_158_134 rfl).trans ((e_nx f_158_135 rfl).trans (e_rt f_158_143 rfl)))))))))))) (fun h25 => (e_nx f_158_138 rfl).trans ((e_nx f_158_139 rfl).trans ((e_gI (L := [.ref l0, .int x1, .int x2]) (st := [.int x1, .ref l0]) (μ := p20) (L' := [.ref l0, .int x1, .int x2]) (st' := []) f_158_140 rfl rfl).trans (g_congr (v_c2 rfl (Nat.le_of_ble_eq_true rfl)) (fun h30 => m_congr fun p29 => e_rt f_158_143 rfl)))))))))))))))) (fun _ => b_congr (fun _ => (e_nx f_158_97 rfl).trans ((e_gV (L := [.ref l0, .int x1, .int x2]) (st := [.ref l0]) (μ := p1.2) (L' := [.ref l0, .int x1, .int x2]) (st' := []) f_158_98 rfl rfl).trans (g_congr (v_c2 rfl (Nat.le_of_ble_eq_true rfl)) (fun h32 => m_congr fun p31 => (e_nx f_158_101 rfl).trans ((e_nx (q := (_, _, .int 8 :: _, _)) f_158_102 rfl).trans ((e_ne f_158_104 rfl).trans (b_congr (fun h33 => (e_nx f_158_107 rfl).trans ((e_gd f_158_108 rfl).trans (g_congr (Iff.rfl) (fun h34 => (e_nx f_158_111 rfl).trans ((e_ia (L := [.ref l0, .int x1, .int x2]) (r := []) (μ := p31) f_158_112).trans (m_congr fun v35 => (e_nx f_158_113 rfl).trans (e_rt f_158_143 rfl))))))) (fun h33 => (e_nx f_158_116 rfl).trans ((e_nx (q := (_, _, .int 9 :: _, _)) f_158_117 rfl).trans ((e_ne f_158_119 rfl).trans (b_congr (fun h36 => (e_nx f_158_122 rfl).trans ((e_gd f_158_123 rfl).trans (g_congr (Iff.rfl) (fun h37 => (e_nx f_158_126 rfl).trans ((e_ia (L := [.ref l0, .int x1, .int x2]) (r := []) (μ := p31) f_158_127).trans (m_congr fun v38 => (e_nx f_158_128 rfl).trans ((e_gk f_158_129 (h37) rfl).trans ((e_nx f_158_132 rfl).trans ((e_ia (L := [.ref l0, .int x1, .int x2]) (r := [.int v38]) (μ := p31) f_158_133).trans (m_congr fun v39 => (e_nx f_158_134 rfl).trans ((e_nx f_158_135 rfl).trans (e_rt f_158_143 rfl)))))))))))) (fun h36 => (e_nx f_158_138 rfl).trans ((e_nx f_158_139 rfl).trans ((e_gI (L := [.ref l0, .int x1, .int x2]) (st := [.int x1, .ref l0]) (μ := p31) (L' := [.ref l0, .int x1, .int x2]) (st' := []) f_158_140 rfl rfl).trans (g_congr (v_c2 rfl (Nat.le_of_ble_eq_true rfl)) (fun h41 => m_congr fun p40 => e_rt f_158_143 rfl)))))))))))))))) (fun _ => b_congr (fun _ => (e_nx f_158_97 rfl).trans ((e_gV (L := [.ref l0, .int x1, .int x2]) (st := [.ref l0]) (μ := p1.2) (L' := [.ref l0, .int x1, .int x2]) (st' := []) f_158_98 rfl rfl).trans (g_congr (v_c2 rfl (Nat.le_of_ble_eq_true rfl)) (fun h43 => m_congr fun p42 => (e_nx f_158_101 rfl).trans ((e_nx (q := (_, _, .int 8 :: _, _)) f_158_102 rfl).trans ((e_ne f_158_104 rfl).trans (b_congr (fun h44 => (e_nx f_158_107 rfl).trans ((e_gd f_158_108 rfl).trans (g_congr (Iff.rfl) (fun h45 => (e_nx f_158_111 rfl).trans ((e_ia (L := [.ref l0, .int x1, .int x2]) (r := []) (μ := p42) f_158_112).trans (m_congr fun v46 => (e_nx f_158_113 rfl).trans (e_rt f_158_143 rfl))))))) (fun h44 => (e_nx f_158_116 rfl).trans ((e_nx (q := (_, _, .int 9 :: _, _)) f_158_117 rfl).trans ((e_ne f_158_119 rfl).trans (b_congr (fun h47 => (e_nx f_158_122 rfl).trans ((e_gd f_158_123 rfl).trans (g_congr (Iff.rfl) (fun h48 => (e_nx f_158_126 rfl).trans ((e_ia (L := [.ref l0, .int x1, .int x2]) (r := []) (μ := p42) f_158_127).trans (m_congr fun v49 => (e_nx f_158_128 rfl).trans ((e_gk f_158_129 (h48) rfl).trans ((e_nx f_158_132 rfl).trans ((e_ia (L := [.ref l0, .int x1, .int x2]) (r := [.int v49]) (μ := p42) f_158_133).trans (m_congr fun v50 => (e_nx f_158_134 rfl).trans ((e_nx f_158_135 rfl).trans (e_rt f_158_143 rfl)))))))))))) (fun h47 => (e_nx f_158_138 rfl).trans ((e_nx f_158_139 rfl).trans ((e_gI (L := [.ref l0, .int x1, .int x2]) (st := [.int x1, .ref l0]) (μ := p42) (L' := [.ref l0, .int x1, .int x2]) (st' := []) f_158_140 rfl rfl).trans (g_congr (v_c2 rfl (Nat.le_of_ble_eq_true rfl)) (fun h52 => m_congr fun p51 => e_rt f_158_143 rfl)))))))))))))))) (fun _ => (e_nx (q := (_, _, .int (-1000000001) :: _, _)) f_158_144 rfl).trans (e_rt f_158_146 rfl))))))))))))))))))))
theorem pg_159 (pc : Nat) : fe0 159 pc = lk prg_159 pc := rfl
theorem f_159_0 : fe0 159 0 = some (.iload_n 0, 1, 0, 0, 0, 0, 0) := (pg_159 0).trans rfl
theorem f_159_1 : fe0 159 1 = some (.iload_n 1, 1, 0, 0, 0, 0, 0) := (pg_159 1).trans rfl
theorem f_159_2 : fe0 159 2 = some (.if_icmp .eq 27, 3, 0, 0, 0, 0, 0) := (pg_159 2).trans rfl
theorem f_159_5 : fe0 159 5 = some (.iload_n 1, 1, 0, 0, 0, 0, 0) := (pg_159 5).trans rfl
theorem f_159_6 : fe0 159 6 = some (.ifCond .eq 23, 3, 0, 0, 0, 0, 0) := (pg_159 6).trans rfl
theorem f_159_9 : fe0 159 9 = some (.iload_n 1, 1, 0, 0, 0, 0, 0) := (pg_159 9).trans rfl
theorem f_159_10 : fe0 159 10 = some (.iconst 1, 1, 0, 0, 0, 0, 0) := (pg_159 10).trans rfl
theorem f_159_11 : fe0 159 11 = some (.if_icmp .ne 8, 3, 0, 0, 0, 0, 0) := (pg_159 11).trans rfl
theorem f_159_14 : fe0 159 14 = some (.iload_n 0, 1, 0, 0, 0, 0, 0) := (pg_159 14).trans rfl
theorem f_159_15 : fe0 159 15 = some (.iconst 3, 1, 0, 0, 0, 0, 0) := (pg_159 15).trans rfl
theorem f_159_16 : fe0 159 16 = some (.if_icmp .eq 13, 3, 0, 0, 0, 0, 0) := (pg_159 16).trans rfl
theorem f_159_19 : fe0 159 19 = some (.iload_n 1, 1, 0, 0, 0, 0, 0) := (pg_159 19).trans rfl
theorem f_159_20 : fe0 159 20 = some (.iconst 2, 1, 0, 0, 0, 0, 0) := (pg_159 20).trans rfl
theorem f_159_21 : fe0 159 21 = some (.if_icmp .ne 12, 3, 0, 0, 0, 0, 0) := (pg_159 21).trans rfl
theorem f_159_24 : fe0 159 24 = some (.iload_n 0, 1, 0, 0, 0, 0, 0) := (pg_159 24).trans rfl
theorem f_159_25 : fe0 159 25 = some (.iconst 4, 1, 0, 0, 0, 0, 0) := (pg_159 25).trans rfl
theorem f_159_26 : fe0 159 26 = some (.if_icmp .ne 7, 3, 0, 0, 0, 0, 0) := (pg_159 26).trans rfl
theorem f_159_29 : fe0 159 29 = some (.iconst 1, 1, 0, 0, 0, 0, 0) := (pg_159 29).trans rfl
theorem f_159_30 : fe0 159 30 = some (.goto 4, 3, 0, 0, 0, 0, 0) := (pg_159 30).trans rfl
theorem f_159_33 : fe0 159 33 = some (.iconst 0, 1, 0, 0, 0, 0, 0) := (pg_159 33).trans rfl
theorem f_159_34 : fe0 159 34 = some (.ireturn, 1, 1, 0, 0, 0, 0) := (pg_159 34).trans rfl
theorem q_159_0 (d : Nat) (x0 : Int32) (x1 : Int32) (μ : aMem) : Rn d 159 (0, [.int x0, .int x1], [], μ) = if x0 = x1 then (some (some (.int 1), μ)) else (if x1 = 0 then (some (some (.int 1), μ)) else (if x1 = 1 then (if x0 = 3 then (some (some (.int 1), μ)) else (if x1 = 2 then (if x0 = 4 then (some (some (.int 1), μ)) else (some (some (.int 0), μ))) else (some (some (.int 0), μ)))) else (if x1 = 2 then (if x0 = 4 then (some (some (.int 1), μ)) else (some (some (.int 0), μ))) else (some (some (.int 0), μ))))) :=
  (e_nx f_159_0 rfl).trans ((e_nx f_159_1 rfl).trans ((e_eq f_159_2 rfl).trans (b_congr (fun h1 => (e_nx (q := (_, _, .int 1 :: _, _)) f_159_29 rfl).trans ((e_nx f_159_30 rfl).trans (e_rt f_159_34 rfl))) (fun h1 => (e_nx f_159_5 rfl).trans ((e_eq f_159_6 rfl).trans (b_congr (fun h2 => (e_nx (q := (_, _, .int 1 :: _, _)) f_159_29 rfl).trans ((e_nx f_159_30 rfl).trans (e_rt f_159_34 rfl))) (fun h2 => (e_nx f_159_9 rfl).trans ((e_nx (q := (_, _, .int 1 :: _, _)) f_159_10 rfl).trans ((e_ne f_159_11 rfl).trans (b_congr (fun h3 => (e_nx f_159_14 rfl).trans ((e_nx (q := (_, _, .int 3 :: _, _)) f_159_15 rfl).trans ((e_eq f_159_16 rfl).trans (b_congr (fun h4 => (e_nx (q := (_, _, .int 1 :: _, _)) f_159_29 rfl).trans ((e_nx f_159_30 rfl).trans (e_rt f_159_34 rfl))) (fun h4 => (e_nx f_159_19 rfl).trans ((e_nx (q := (_, _, .int 2 :: _, _)) f_159_20 rfl).trans ((e_ne f_159_21 rfl).trans (b_congr (fun h5 => (e_nx f_159_24 rfl).trans ((e_nx (q := (_, _, .int 4 :: _, _)) f_159_25 rfl).trans ((e_ne f_159_26 rfl).trans (b_congr (fun h6 => (e_nx (q := (_, _, .int 1 :: _, _)) f_159_29 rfl).trans ((e_nx f_159_30 rfl).trans (e_rt f_159_34 rfl))) (fun h6 => (e_nx (q := (_, _, .int 0 :: _, _)) f_159_33 rfl).trans (e_rt f_159_34 rfl)))))) (fun h5 => (e_nx (q := (_, _, .int 0 :: _, _)) f_159_33 rfl).trans (e_rt f_159_34 rfl)))))))))) (fun h3 => (e_nx f_159_19 rfl).trans ((e_nx (q := (_, _, .int 2 :: _, _)) f_159_20 rfl).trans ((e_ne f_159_21 rfl).trans (b_congr (fun h7 => (e_nx f_159_24 rfl).trans ((e_nx (q := (_, _, .int 4 :: _, _)) f_159_25 rfl).trans ((e_ne f_159_26 rfl).trans (b_congr (fun h8 => (e_nx (q := (_, _, .int 1 :: _, _)) f_159_29 rfl).trans ((e_nx f_159_30 rfl).trans (e_rt f_159_34 rfl))) (fun h8 => (e_nx (q := (_, _, .int 0 :: _, _)) f_159_33 rfl).trans (e_rt f_159_34 rfl)))))) (fun h7 => (e_nx (q := (_, _, .int 0 :: _, _)) f_159_33 rfl).trans (e_rt f_159_34 rfl))))))))))))))))
theorem pg_160 (pc : Nat) : fe0 160 pc = lk prg_160 pc := rfl
theorem f_160_0 : fe0 160 0 = some (.aload_n 0, 1, 0, 0, 0, 0, 0) := (pg_160 0).trans rfl
theorem f_160_1 : fe0 160 1 = some (.iload_n 1, 1, 0, 0, 0, 0, 0) := (pg_160 1).trans rfl
theorem f_160_2 : fe0 160 2 = some (.invokevirtual 150, 3, 140, 1, 0, 9, 5162) := (pg_160 2).trans rfl
theorem f_160_5 : fe0 160 5 = some (.ifCond .eq 15, 3, 0, 0, 0, 0, 0) := (pg_160 5).trans rfl
theorem f_160_8 : fe0 160 8 = some (.iload_n 2, 1, 0, 0, 0, 0, 0) := (pg_160 8).trans rfl
theorem f_160_9 : fe0 160 9 = some (.i2l, 1, 0, 0, 0, 0, 0) := (pg_160 9).trans rfl
theorem f_160_10 : fe0 160 10 = some (.lconst 0, 1, 0, 0, 0, 0, 0) := (pg_160 10).trans rfl
theorem f_160_11 : fe0 160 11 = some (.ldc2_w 89, 3, 0, 0, 5, 0, 5143) := (pg_160 11).trans rfl
theorem f_160_14 : fe0 160 14 = some (.invokestatic 84, 3, 133, 3, 2, 0, 5144) := (pg_160 14).trans rfl
theorem f_160_17 : fe0 160 17 = some (.ifCond .ne 6, 3, 0, 0, 0, 0, 0) := (pg_160 17).trans rfl
theorem f_160_20 : fe0 160 20 = some (.ldc 99, 2, 0, 0, 3294967295, 0, 5152) := (pg_160 20).trans rfl
theorem f_160_22 : fe0 160 22 = some (.ireturn, 1, 0, 0, 0, 0, 0) := (pg_160 22).trans rfl
theorem f_160_23 : fe0 160 23 = some (.aload_n 0, 1, 0, 0, 0, 0, 0) := (pg_160 23).trans rfl
theorem f_160_24 : fe0 160 24 = some (.iload_n 1, 1, 0, 0, 0, 0, 0) := (pg_160 24).trans rfl
theorem f_160_25 : fe0 160 25 = some (.iconst 0, 1, 0, 0, 0, 0, 0) := (pg_160 25).trans rfl
theorem f_160_26 : fe0 160 26 = some (.invokevirtual 105, 3, 139, 2, 0, 9, 5166) := (pg_160 26).trans rfl
theorem f_160_29 : fe0 160 29 = some (.iload_n 2, 1, 0, 0, 0, 0, 0) := (pg_160 29).trans rfl
theorem f_160_30 : fe0 160 30 = some (.invokestatic 162, 3, 159, 2, 2, 0, 6001) := (pg_160 30).trans rfl
theorem f_160_33 : fe0 160 33 = some (.ifCond .eq 12, 3, 0, 0, 0, 0, 0) := (pg_160 33).trans rfl
theorem f_160_36 : fe0 160 36 = some (.aload_n 0, 1, 0, 0, 0, 0, 0) := (pg_160 36).trans rfl
theorem f_160_37 : fe0 160 37 = some (.iload_n 1, 1, 0, 0, 0, 0, 0) := (pg_160 37).trans rfl
theorem f_160_38 : fe0 160 38 = some (.iconst 1, 1, 0, 0, 0, 0, 0) := (pg_160 38).trans rfl
theorem f_160_39 : fe0 160 39 = some (.invokevirtual 105, 3, 139, 2, 0, 9, 5166) := (pg_160 39).trans rfl
theorem f_160_42 : fe0 160 42 = some (.goto 5, 3, 0, 0, 0, 0, 0) := (pg_160 42).trans rfl
theorem f_160_45 : fe0 160 45 = some (.ldc 166, 2, 0, 0, 3294967284, 0, 6004) := (pg_160 45).trans rfl
theorem f_160_47 : fe0 160 47 = some (.ireturn, 1, 0, 0, 0, 0, 0) := (pg_160 47).trans rfl
theorem q_160_0 (d : Nat) (l0 : Nat) (x1 : Int32) (x2 : Int32) (μ : aMem) : Rn (d + 1) 160 (0, [.ref l0, .int x1, .int x2], [], μ) = if (mS μ l0).1 = 9 ∧ l0 < 999999 then ((cI d 140 [.ref l0, .int x1] μ).bind fun p1 => if p1.1 = 0 then (some (some (.int (-1000000001)), p1.2)) else ((cI d 133 [.long ((x2 : Int32).toInt64), .long 0, .long 5] p1.2).bind fun p4 => if p4.1 = 0 then (some (some (.int (-1000000001)), p4.2)) else (if (mS p4.2 l0).1 = 9 ∧ l0 < 999999 then ((cI d 139 [.ref l0, .int x1, .int 0] p4.2).bind fun p6 => (cI d 159 [.int p6.1, .int x2] p6.2).bind fun p8 => if p8.1 = 0 then (some (some (.int (-1000000012)), p8.2)) else (if (mS p8.2 l0).1 = 9 ∧ l0 < 999999 then ((cI d 139 [.ref l0, .int x1, .int 1] p8.2).bind fun p10 => some (some (.int p10.1), p10.2)) else none)) else none))) else none :=
  (e_nx f_160_0 rfl).trans ((e_nx f_160_1 rfl).trans ((e_gI (L := [.ref l0, .int x1, .int x2]) (st := [.int x1, .ref l0]) (μ := μ) (L' := [.ref l0, .int x1, .int x2]) (st' := []) f_160_2 rfl rfl).trans (g_congr (v_c2 rfl (Nat.le_of_ble_eq_true rfl)) (fun h2 => m_congr fun p1 => (e_eq f_160_5 rfl).trans (b_congr (fun h3 => (e_nx (q := (_, _, .int (-1000000001) :: _, _)) f_160_20 rfl).trans (e_rt f_160_22 rfl)) (fun h3 => (e_nx f_160_8 rfl).trans ((e_nx f_160_9 rfl).trans ((e_nx (q := (_, _, .long 0 :: _, _)) f_160_10 rfl).trans ((e_nx (q := (_, _, .long 5 :: _, _)) f_160_11 rfl).trans ((e_cI (L := [.ref l0, .int x1, .int x2]) (st := [.long 5, .long 0, .long ((x2 : Int32).toInt64)]) (μ := p1.2) (L' := [.ref l0, .int x1, .int x2]) (st' := []) f_160_14 rfl rfl).trans (m_congr fun p4 => (e_ne f_160_17 rfl).trans (b_congr (fun h5 => (e_nx (q := (_, _, .int (-1000000001) :: _, _)) f_160_20 rfl).trans (e_rt f_160_22 rfl)) (fun h5 => (e_nx f_160_23 rfl).trans ((e_nx f_160_24 rfl).trans ((e_nx (q := (_, _, .int 0 :: _, _)) f_160_25 rfl).trans ((e_gI (L := [.ref l0, .int x1, .int x2]) (st := [.int 0, .int x1, .ref l0]) (μ := p4.2) (L' := [.ref l0, .int x1, .int x2]) (st' := []) f_160_26 rfl rfl).trans (g_congr (v_c2 rfl (Nat.le_of_ble_eq_true rfl)) (fun h7 => m_congr fun p6 => (e_nx f_160_29 rfl).trans ((e_cI (L := [.ref l0, .int x1, .int x2]) (st := [.int x2, .int p6.1]) (μ := p6.2) (L' := [.ref l0, .int x1, .int x2]) (st' := []) f_160_30 rfl rfl).trans (m_congr fun p8 => (e_eq f_160_33 rfl).trans (b_congr (fun h9 => (e_nx (q := (_, _, .int (-1000000012) :: _, _)) f_160_45 rfl).trans (e_rt f_160_47 rfl)) (fun h9 => (e_nx f_160_36 rfl).trans ((e_nx f_160_37 rfl).trans ((e_nx (q := (_, _, .int 1 :: _, _)) f_160_38 rfl).trans ((e_gI (L := [.ref l0, .int x1, .int x2]) (st := [.int 1, .int x1, .ref l0]) (μ := p8.2) (L' := [.ref l0, .int x1, .int x2]) (st' := []) f_160_39 rfl rfl).trans (g_congr (v_c2 rfl (Nat.le_of_ble_eq_true rfl)) (fun h11 => m_congr fun p10 => (e_nx f_160_42 rfl).trans (e_rt f_160_47 rfl))))))))))))))))))))))))))))
theorem pg_161 (pc : Nat) : fe0 161 pc = lk prg_161 pc := rfl
theorem f_161_0 : fe0 161 0 = some (.aload_n 0, 1, 0, 0, 0, 0, 0) := (pg_161 0).trans rfl
theorem f_161_1 : fe0 161 1 = some (.iload_n 1, 1, 0, 0, 0, 0, 0) := (pg_161 1).trans rfl
theorem f_161_2 : fe0 161 2 = some (.invokevirtual 150, 3, 140, 1, 0, 9, 5162) := (pg_161 2).trans rfl
theorem f_161_5 : fe0 161 5 = some (.ifCond .eq 28, 3, 0, 0, 0, 0, 0) := (pg_161 5).trans rfl
theorem f_161_8 : fe0 161 8 = some (.iload_n 2, 1, 0, 0, 0, 0, 0) := (pg_161 8).trans rfl
theorem f_161_9 : fe0 161 9 = some (.i2l, 1, 0, 0, 0, 0, 0) := (pg_161 9).trans rfl
theorem f_161_10 : fe0 161 10 = some (.lconst 0, 1, 0, 0, 0, 0, 0) := (pg_161 10).trans rfl
theorem f_161_11 : fe0 161 11 = some (.ldc2_w 89, 3, 0, 0, 5, 0, 5143) := (pg_161 11).trans rfl
theorem f_161_14 : fe0 161 14 = some (.invokestatic 84, 3, 133, 3, 2, 0, 5144) := (pg_161 14).trans rfl
theorem f_161_17 : fe0 161 17 = some (.ifCond .eq 16, 3, 0, 0, 0, 0, 0) := (pg_161 17).trans rfl
theorem f_161_20 : fe0 161 20 = some (.aload_n 0, 1, 0, 0, 0, 0, 0) := (pg_161 20).trans rfl
theorem f_161_21 : fe0 161 21 = some (.iconst 4, 1, 0, 0, 0, 0, 0) := (pg_161 21).trans rfl
theorem f_161_22 : fe0 161 22 = some (.iconst 5, 1, 0, 0, 0, 0, 0) := (pg_161 22).trans rfl
theorem f_161_23 : fe0 161 23 = some (.iload_n 1, 1, 0, 0, 0, 0, 0) := (pg_161 23).trans rfl
theorem f_161_24 : fe0 161 24 = some (.imul, 1, 0, 0, 0, 0, 0) := (pg_161 24).trans rfl
theorem f_161_25 : fe0 161 25 = some (.iadd, 1, 0, 0, 0, 0, 0) := (pg_161 25).trans rfl
theorem f_161_26 : fe0 161 26 = some (.iload_n 2, 1, 0, 0, 0, 0, 0) := (pg_161 26).trans rfl
theorem f_161_27 : fe0 161 27 = some (.invokevirtual 167, 3, 137, 2, 0, 9, 6009) := (pg_161 27).trans rfl
theorem f_161_30 : fe0 161 30 = some (.goto 5, 3, 0, 0, 0, 0, 0) := (pg_161 30).trans rfl
theorem f_161_33 : fe0 161 33 = some (.ldc 99, 2, 0, 0, 3294967295, 0, 5152) := (pg_161 33).trans rfl
theorem f_161_35 : fe0 161 35 = some (.ireturn, 1, 0, 0, 0, 0, 0) := (pg_161 35).trans rfl
theorem q_161_0 (d : Nat) (l0 : Nat) (x1 : Int32) (x2 : Int32) (μ : aMem) : Rn (d + 1) 161 (0, [.ref l0, .int x1, .int x2], [], μ) = if (mS μ l0).1 = 9 ∧ l0 < 999999 then ((cI d 140 [.ref l0, .int x1] μ).bind fun p1 => if p1.1 = 0 then (some (some (.int (-1000000001)), p1.2)) else ((cI d 133 [.long ((x2 : Int32).toInt64), .long 0, .long 5] p1.2).bind fun p4 => if p4.1 = 0 then (some (some (.int (-1000000001)), p4.2)) else (if (mS p4.2 l0).1 = 9 ∧ l0 < 999999 then ((cI d 137 [.ref l0, .int (4 + (5 * x1)), .int x2] p4.2).bind fun p6 => some (some (.int p6.1), p6.2)) else none))) else none :=
  (e_nx f_161_0 rfl).trans ((e_nx f_161_1 rfl).trans ((e_gI (L := [.ref l0, .int x1, .int x2]) (st := [.int x1, .ref l0]) (μ := μ) (L' := [.ref l0, .int x1, .int x2]) (st' := []) f_161_2 rfl rfl).trans (g_congr (v_c2 rfl (Nat.le_of_ble_eq_true rfl)) (fun h2 => m_congr fun p1 => (e_eq f_161_5 rfl).trans (b_congr (fun h3 => (e_nx (q := (_, _, .int (-1000000001) :: _, _)) f_161_33 rfl).trans (e_rt f_161_35 rfl)) (fun h3 => (e_nx f_161_8 rfl).trans ((e_nx f_161_9 rfl).trans ((e_nx (q := (_, _, .long 0 :: _, _)) f_161_10 rfl).trans ((e_nx (q := (_, _, .long 5 :: _, _)) f_161_11 rfl).trans ((e_cI (L := [.ref l0, .int x1, .int x2]) (st := [.long 5, .long 0, .long ((x2 : Int32).toInt64)]) (μ := p1.2) (L' := [.ref l0, .int x1, .int x2]) (st' := []) f_161_14 rfl rfl).trans (m_congr fun p4 => (e_eq f_161_17 rfl).trans (b_congr (fun h5 => (e_nx (q := (_, _, .int (-1000000001) :: _, _)) f_161_33 rfl).trans (e_rt f_161_35 rfl)) (fun h5 => (e_nx f_161_20 rfl).trans ((e_nx (q := (_, _, .int 4 :: _, _)) f_161_21 rfl).trans ((e_nx (q := (_, _, .int 5 :: _, _)) f_161_22 rfl).trans ((e_nx f_161_23 rfl).trans ((e_nx f_161_24 rfl).trans ((e_nx f_161_25 rfl).trans ((e_nx f_161_26 rfl).trans ((e_gI (L := [.ref l0, .int x1, .int x2]) (st := [.int x2, .int (4 + (5 * x1)), .ref l0]) (μ := p4.2) (L' := [.ref l0, .int x1, .int x2]) (st' := []) f_161_27 rfl rfl).trans (g_congr (v_c2 rfl (Nat.le_of_ble_eq_true rfl)) (fun h7 => m_congr fun p6 => (e_nx f_161_30 rfl).trans (e_rt f_161_35 rfl)))))))))))))))))))))))
theorem pg_162 (pc : Nat) : fe0 162 pc = lk prg_162 pc := rfl
theorem f_162_0 : fe0 162 0 = some (.aload_n 0, 1, 0, 0, 0, 0, 0) := (pg_162 0).trans rfl
theorem f_162_1 : fe0 162 1 = some (.iload_n 1, 1, 0, 0, 0, 0, 0) := (pg_162 1).trans rfl
theorem f_162_2 : fe0 162 2 = some (.invokevirtual 150, 3, 140, 1, 0, 9, 5162) := (pg_162 2).trans rfl
theorem f_162_5 : fe0 162 5 = some (.ifCond .eq 49, 3, 0, 0, 0, 0, 0) := (pg_162 5).trans rfl
theorem f_162_8 : fe0 162 8 = some (.iload_n 2, 1, 0, 0, 0, 0, 0) := (pg_162 8).trans rfl
theorem f_162_9 : fe0 162 9 = some (.i2l, 1, 0, 0, 0, 0, 0) := (pg_162 9).trans rfl
theorem f_162_10 : fe0 162 10 = some (.lconst 1, 1, 0, 0, 0, 0, 0) := (pg_162 10).trans rfl
theorem f_162_11 : fe0 162 11 = some (.ldc2_w 170, 3, 0, 0, 3, 0, 6017) := (pg_162 11).trans rfl
theorem f_162_14 : fe0 162 14 = some (.invokestatic 84, 3, 133, 3, 2, 0, 5144) := (pg_162 14).trans rfl
theorem f_162_17 : fe0 162 17 = some (.ifCond .eq 37, 3, 0, 0, 0, 0, 0) := (pg_162 17).trans rfl
theorem f_162_20 : fe0 162 20 = some (.iload_n 3, 1, 0, 0, 0, 0, 0) := (pg_162 20).trans rfl
theorem f_162_21 : fe0 162 21 = some (.i2l, 1, 0, 0, 0, 0, 0) := (pg_162 21).trans rfl
theorem f_162_22 : fe0 162 22 = some (.lconst 0, 1, 0, 0, 0, 0, 0) := (pg_162 22).trans rfl
theorem f_162_23 : fe0 162 23 = some (.iload_n 2, 1, 0, 0, 0, 0, 0) := (pg_162 23).trans rfl
theorem f_162_24 : fe0 162 24 = some (.iconst 1, 1, 0, 0, 0, 0, 0) := (pg_162 24).trans rfl
theorem f_162_25 : fe0 162 25 = some (.if_icmp .ne 9, 3, 0, 0, 0, 0, 0) := (pg_162 25).trans rfl
theorem f_162_28 : fe0 162 28 = some (.ldc2_w 91, 3, 0, 0, 99, 0, 5147) := (pg_162 28).trans rfl
theorem f_162_31 : fe0 162 31 = some (.goto 17, 3, 0, 0, 0, 0, 0) := (pg_162 31).trans rfl
theorem f_162_34 : fe0 162 34 = some (.iload_n 2, 1, 0, 0, 0, 0, 0) := (pg_162 34).trans rfl
theorem f_162_35 : fe0 162 35 = some (.iconst 2, 1, 0, 0, 0, 0, 0) := (pg_162 35).trans rfl
theorem f_162_36 : fe0 162 36 = some (.if_icmp .ne 9, 3, 0, 0, 0, 0, 0) := (pg_162 36).trans rfl
theorem f_162_39 : fe0 162 39 = some (.ldc2_w 93, 3, 0, 0, 10, 0, 5148) := (pg_162 39).trans rfl
theorem f_162_42 : fe0 162 42 = some (.goto 6, 3, 0, 0, 0, 0, 0) := (pg_162 42).trans rfl
theorem f_162_45 : fe0 162 45 = some (.ldc2_w 172, 3, 0, 0, 2, 0, 6018) := (pg_162 45).trans rfl
theorem f_162_48 : fe0 162 48 = some (.invokestatic 84, 3, 133, 3, 2, 0, 5144) := (pg_162 48).trans rfl
theorem f_162_51 : fe0 162 51 = some (.ifCond .ne 6, 3, 0, 0, 0, 0, 0) := (pg_162 51).trans rfl
theorem f_162_54 : fe0 162 54 = some (.ldc 99, 2, 0, 0, 3294967295, 0, 5152) := (pg_162 54).trans rfl
theorem f_162_56 : fe0 162 56 = some (.ireturn, 1, 0, 0, 0, 0, 0) := (pg_162 56).trans rfl
theorem f_162_57 : fe0 162 57 = some (.aload_n 0, 1, 0, 0, 0, 0, 0) := (pg_162 57).trans rfl
theorem f_162_58 : fe0 162 58 = some (.iconst 4, 1, 0, 0, 0, 0, 0) := (pg_162 58).trans rfl
theorem f_162_59 : fe0 162 59 = some (.iconst 5, 1, 0, 0, 0, 0, 0) := (pg_162 59).trans rfl
theorem f_162_60 : fe0 162 60 = some (.iload_n 1, 1, 0, 0, 0, 0, 0) := (pg_162 60).trans rfl
theorem f_162_61 : fe0 162 61 = some (.imul, 1, 0, 0, 0, 0, 0) := (pg_162 61).trans rfl
theorem f_162_62 : fe0 162 62 = some (.iadd, 1, 0, 0, 0, 0, 0) := (pg_162 62).trans rfl
theorem f_162_63 : fe0 162 63 = some (.iload_n 2, 1, 0, 0, 0, 0, 0) := (pg_162 63).trans rfl
theorem f_162_64 : fe0 162 64 = some (.iadd, 1, 0, 0, 0, 0, 0) := (pg_162 64).trans rfl
theorem f_162_65 : fe0 162 65 = some (.iload_n 3, 1, 0, 0, 0, 0, 0) := (pg_162 65).trans rfl
theorem f_162_66 : fe0 162 66 = some (.invokevirtual 167, 3, 137, 2, 0, 9, 6009) := (pg_162 66).trans rfl
theorem f_162_69 : fe0 162 69 = some (.ireturn, 1, 0, 0, 0, 0, 0) := (pg_162 69).trans rfl
theorem q_162_0 (d : Nat) (l0 : Nat) (x1 : Int32) (x2 : Int32) (x3 : Int32) (μ : aMem) : Rn (d + 1) 162 (0, [.ref l0, .int x1, .int x2, .int x3], [], μ) = if (mS μ l0).1 = 9 ∧ l0 < 999999 then ((cI d 140 [.ref l0, .int x1] μ).bind fun p1 => if p1.1 = 0 then (some (some (.int (-1000000001)), p1.2)) else ((cI d 133 [.long ((x2 : Int32).toInt64), .long 1, .long 3] p1.2).bind fun p4 => if p4.1 = 0 then (some (some (.int (-1000000001)), p4.2)) else (if x2 = 1 then ((cI d 133 [.long ((x3 : Int32).toInt64), .long 0, .long 99] p4.2).bind fun p7 => if p7.1 = 0 then (some (some (.int (-1000000001)), p7.2)) else (if (mS p7.2 l0).1 = 9 ∧ l0 < 999999 then ((cI d 137 [.ref l0, .int ((4 + (5 * x1)) + x2), .int x3] p7.2).bind fun p9 => some (some (.int p9.1), p9.2)) else none)) else (if x2 = 2 then ((cI d 133 [.long ((x3 : Int32).toInt64), .long 0, .long 10] p4.2).bind fun p12 => if p12.1 = 0 then (some (some (.int (-1000000001)), p12.2)) else (if (mS p12.2 l0).1 = 9 ∧ l0 < 999999 then ((cI d 137 [.ref l0, .int ((4 + (5 * x1)) + x2), .int x3] p12.2).bind fun p14 => some (some (.int p14.1), p14.2)) else none)) else ((cI d 133 [.long ((x3 : Int32).toInt64), .long 0, .long 2] p4.2).bind fun p16 => if p16.1 = 0 then (some (some (.int (-1000000001)), p16.2)) else (if (mS p16.2 l0).1 = 9 ∧ l0 < 999999 then ((cI d 137 [.ref l0, .int ((4 + (5 * x1)) + x2), .int x3] p16.2).bind fun p18 => some (some (.int p18.1), p18.2)) else none)))))) else none :=
  (e_nx f_162_0 rfl).trans ((e_nx f_162_1 rfl).trans ((e_gI (L := [.ref l0, .int x1, .int x2, .int x3]) (st := [.int x1, .ref l0]) (μ := μ) (L' := [.ref l0, .int x1, .int x2, .int x3]) (st' := []) f_162_2 rfl rfl).trans (g_congr (v_c2 rfl (Nat.le_of_ble_eq_true rfl)) (fun h2 => m_congr fun p1 => (e_eq f_162_5 rfl).trans (b_congr (fun h3 => (e_nx (q := (_, _, .int (-1000000001) :: _, _)) f_162_54 rfl).trans (e_rt f_162_56 rfl)) (fun h3 => (e_nx f_162_8 rfl).trans ((e_nx f_162_9 rfl).trans ((e_nx (q := (_, _, .long 1 :: _, _)) f_162_10 rfl).trans ((e_nx (q := (_, _, .long 3 :: _, _)) f_162_11 rfl).trans ((e_cI (L := [.ref l0, .int x1, .int x2, .int x3]) (st := [.long 3, .long 1, .long ((x2 : Int32).toInt64)]) (μ := p1.2) (L' := [.ref l0, .int x1, .int x2, .int x3]) (st' := []) f_162_14 rfl rfl).trans (m_congr fun p4 => (e_eq f_162_17 rfl).trans (b_congr (fun h5 => (e_nx (q := (_, _, .int (-1000000001) :: _, _)) f_162_54 rfl).trans (e_rt f_162_56 rfl)) (fun h5 => (e_nx f_162_20 rfl).trans ((e_nx f_162_21 rfl).trans ((e_nx (q := (_, _, .long 0 :: _, _)) f_162_22 rfl).trans ((e_nx f_162_23 rfl).trans ((e_nx (q := (_, _, .int 1 :: _, _)) f_162_24 rfl).trans ((e_ne f_162_25 rfl).trans (b_congr (fun h6 => (e_nx (q := (_, _, .long 99 :: _, _)) f_162_28 rfl).trans ((e_nx f_162_31 rfl).trans ((e_cI (L := [.ref l0, .int x1, .int x2, .int x3]) (st := [.long 99, .long 0, .long ((x3 : Int32).toInt64)]) (μ := p4.2) (L' := [.ref l0, .int x1, .int x2, .int x3]) (st' := []) f_162_48 rfl rfl).trans (m_congr fun p7 => (e_ne f_162_51 rfl).trans (b_congr (fun h8 => (e_nx (q := (_, _, .int (-1000000001) :: _, _)) f_162_54 rfl).trans (e_rt f_162_56 rfl)) (fun h8 => (e_nx f_162_57 rfl).trans ((e_nx (q := (_, _, .int 4 :: _, _)) f_162_58 rfl).trans ((e_nx (q := (_, _, .int 5 :: _, _)) f_162_59 rfl).trans ((e_nx f_162_60 rfl).trans ((e_nx f_162_61 rfl).trans ((e_nx f_162_62 rfl).trans ((e_nx f_162_63 rfl).trans ((e_nx f_162_64 rfl).trans ((e_nx f_162_65 rfl).trans ((e_gI (L := [.ref l0, .int x1, .int x2, .int x3]) (st := [.int x3, .int ((4 + (5 * x1)) + x2), .ref l0]) (μ := p7.2) (L' := [.ref l0, .int x1, .int x2, .int x3]) (st' := []) f_162_66 rfl rfl).trans (g_congr (v_c2 rfl (Nat.le_of_ble_eq_true rfl)) (fun h10 => m_congr fun p9 => e_rt f_162_69 rfl))))))))))))))))) (fun h6 => (e_nx f_162_34 rfl).trans ((e_nx (q := (_, _, .int 2 :: _, _)) f_162_35 rfl).trans ((e_ne f_162_36 rfl).trans (b_congr (fun h11 => (e_nx (q := (_, _, .long 10 :: _, _)) f_162_39 rfl).trans ((e_nx f_162_42 rfl).trans ((e_cI (L := [.ref l0, .int x1, .int x2, .int x3]) (st := [.long 10, .long 0, .long ((x3 : Int32).toInt64)]) (μ := p4.2) (L' := [.ref l0, .int x1, .int x2, .int x3]) (st' := []) f_162_48 rfl rfl).trans (m_congr fun p12 => (e_ne f_162_51 rfl).trans (b_congr (fun h13 => (e_nx (q := (_, _, .int (-1000000001) :: _, _)) f_162_54 rfl).trans (e_rt f_162_56 rfl)) (fun h13 => (e_nx f_162_57 rfl).trans ((e_nx (q := (_, _, .int 4 :: _, _)) f_162_58 rfl).trans ((e_nx (q := (_, _, .int 5 :: _, _)) f_162_59 rfl).trans ((e_nx f_162_60 rfl).trans ((e_nx f_162_61 rfl).trans ((e_nx f_162_62 rfl).trans ((e_nx f_162_63 rfl).trans ((e_nx f_162_64 rfl).trans ((e_nx f_162_65 rfl).trans ((e_gI (L := [.ref l0, .int x1, .int x2, .int x3]) (st := [.int x3, .int ((4 + (5 * x1)) + x2), .ref l0]) (μ := p12.2) (L' := [.ref l0, .int x1, .int x2, .int x3]) (st' := []) f_162_66 rfl rfl).trans (g_congr (v_c2 rfl (Nat.le_of_ble_eq_true rfl)) (fun h15 => m_congr fun p14 => e_rt f_162_69 rfl))))))))))))))))) (fun h11 => (e_nx (q := (_, _, .long 2 :: _, _)) f_162_45 rfl).trans ((e_cI (L := [.ref l0, .int x1, .int x2, .int x3]) (st := [.long 2, .long 0, .long ((x3 : Int32).toInt64)]) (μ := p4.2) (L' := [.ref l0, .int x1, .int x2, .int x3]) (st' := []) f_162_48 rfl rfl).trans (m_congr fun p16 => (e_ne f_162_51 rfl).trans (b_congr (fun h17 => (e_nx (q := (_, _, .int (-1000000001) :: _, _)) f_162_54 rfl).trans (e_rt f_162_56 rfl)) (fun h17 => (e_nx f_162_57 rfl).trans ((e_nx (q := (_, _, .int 4 :: _, _)) f_162_58 rfl).trans ((e_nx (q := (_, _, .int 5 :: _, _)) f_162_59 rfl).trans ((e_nx f_162_60 rfl).trans ((e_nx f_162_61 rfl).trans ((e_nx f_162_62 rfl).trans ((e_nx f_162_63 rfl).trans ((e_nx f_162_64 rfl).trans ((e_nx f_162_65 rfl).trans ((e_gI (L := [.ref l0, .int x1, .int x2, .int x3]) (st := [.int x3, .int ((4 + (5 * x1)) + x2), .ref l0]) (μ := p16.2) (L' := [.ref l0, .int x1, .int x2, .int x3]) (st' := []) f_162_66 rfl rfl).trans (g_congr (v_c2 rfl (Nat.le_of_ble_eq_true rfl)) (fun h19 => m_congr fun p18 => e_rt f_162_69 rfl)))))))))))))))))))))))))))))))))))))))
theorem pg_163 (pc : Nat) : fe0 163 pc = lk prg_163 pc := rfl
theorem f_163_0 : fe0 163 0 = some (.aload_n 0, 1, 0, 0, 0, 0, 0) := (pg_163 0).trans rfl
theorem f_163_1 : fe0 163 1 = some (.iload_n 1, 1, 0, 0, 0, 0, 0) := (pg_163 1).trans rfl
theorem f_163_2 : fe0 163 2 = some (.invokevirtual 150, 3, 140, 1, 0, 9, 5162) := (pg_163 2).trans rfl
theorem f_163_5 : fe0 163 5 = some (.ifCond .eq 26, 3, 0, 0, 0, 0, 0) := (pg_163 5).trans rfl
theorem f_163_8 : fe0 163 8 = some (.aload_n 0, 1, 0, 0, 0, 0, 0) := (pg_163 8).trans rfl
theorem f_163_9 : fe0 163 9 = some (.iload_n 2, 1, 0, 0, 0, 0, 0) := (pg_163 9).trans rfl
theorem f_163_10 : fe0 163 10 = some (.invokevirtual 150, 3, 140, 1, 0, 9, 5162) := (pg_163 10).trans rfl
theorem f_163_13 : fe0 163 13 = some (.ifCond .eq 18, 3, 0, 0, 0, 0, 0) := (pg_163 13).trans rfl
theorem f_163_16 : fe0 163 16 = some (.iload_n 1, 1, 0, 0, 0, 0, 0) := (pg_163 16).trans rfl
theorem f_163_17 : fe0 163 17 = some (.iload_n 2, 1, 0, 0, 0, 0, 0) := (pg_163 17).trans rfl
theorem f_163_18 : fe0 163 18 = some (.if_icmp .ge 13, 3, 0, 0, 0, 0, 0) := (pg_163 18).trans rfl
theorem f_163_21 : fe0 163 21 = some (.iload_n 3, 1, 0, 0, 0, 0, 0) := (pg_163 21).trans rfl
theorem f_163_22 : fe0 163 22 = some (.i2l, 1, 0, 0, 0, 0, 0) := (pg_163 22).trans rfl
theorem f_163_23 : fe0 163 23 = some (.lconst 0, 1, 0, 0, 0, 0, 0) := (pg_163 23).trans rfl
theorem f_163_24 : fe0 163 24 = some (.lconst 1, 1, 0, 0, 0, 0, 0) := (pg_163 24).trans rfl
theorem f_163_25 : fe0 163 25 = some (.invokestatic 84, 3, 133, 3, 2, 0, 5144) := (pg_163 25).trans rfl
theorem f_163_28 : fe0 163 28 = some (.ifCond .ne 6, 3, 0, 0, 0, 0, 0) := (pg_163 28).trans rfl
theorem f_163_31 : fe0 163 31 = some (.ldc 99, 2, 0, 0, 3294967295, 0, 5152) := (pg_163 31).trans rfl
theorem f_163_33 : fe0 163 33 = some (.ireturn, 1, 0, 0, 0, 0, 0) := (pg_163 33).trans rfl
theorem f_163_34 : fe0 163 34 = some (.iconst 4, 1, 0, 0, 0, 0, 0) := (pg_163 34).trans rfl
theorem f_163_35 : fe0 163 35 = some (.iconst 5, 1, 0, 0, 0, 0, 0) := (pg_163 35).trans rfl
theorem f_163_36 : fe0 163 36 = some (.iload_n 2, 1, 0, 0, 0, 0, 0) := (pg_163 36).trans rfl
theorem f_163_37 : fe0 163 37 = some (.imul, 1, 0, 0, 0, 0, 0) := (pg_163 37).trans rfl
theorem f_163_38 : fe0 163 38 = some (.iadd, 1, 0, 0, 0, 0, 0) := (pg_163 38).trans rfl
theorem f_163_39 : fe0 163 39 = some (.iconst 4, 1, 0, 0, 0, 0, 0) := (pg_163 39).trans rfl
theorem f_163_40 : fe0 163 40 = some (.iadd, 1, 0, 0, 0, 0, 0) := (pg_163 40).trans rfl
theorem f_163_41 : fe0 163 41 = some (.istore 4, 2, 0, 0, 0, 0, 0) := (pg_163 41).trans rfl
theorem f_163_43 : fe0 163 43 = some (.aload_n 0, 1, 0, 0, 0, 0, 0) := (pg_163 43).trans rfl
theorem f_163_44 : fe0 163 44 = some (.getfield 7, 3, 9, 0, 1, 0, 5024) := (pg_163 44).trans rfl
theorem f_163_47 : fe0 163 47 = some (.iload 4, 2, 0, 0, 0, 0, 0) := (pg_163 47).trans rfl
theorem f_163_49 : fe0 163 49 = some (.iaload, 1, 0, 0, 0, 0, 0) := (pg_163 49).trans rfl
theorem f_163_50 : fe0 163 50 = some (.iload_n 1, 1, 0, 0, 0, 0, 0) := (pg_163 50).trans rfl
theorem f_163_51 : fe0 163 51 = some (.ishr, 1, 0, 0, 0, 0, 0) := (pg_163 51).trans rfl
theorem f_163_52 : fe0 163 52 = some (.iconst 1, 1, 0, 0, 0, 0, 0) := (pg_163 52).trans rfl
theorem f_163_53 : fe0 163 53 = some (.iand, 1, 0, 0, 0, 0, 0) := (pg_163 53).trans rfl
theorem f_163_54 : fe0 163 54 = some (.istore 5, 2, 0, 0, 0, 0, 0) := (pg_163 54).trans rfl
theorem f_163_56 : fe0 163 56 = some (.aload_n 0, 1, 0, 0, 0, 0, 0) := (pg_163 56).trans rfl
theorem f_163_57 : fe0 163 57 = some (.getfield 7, 3, 9, 0, 1, 0, 5024) := (pg_163 57).trans rfl
theorem f_163_60 : fe0 163 60 = some (.iload 4, 2, 0, 0, 0, 0, 0) := (pg_163 60).trans rfl
theorem f_163_62 : fe0 163 62 = some (.aload_n 0, 1, 0, 0, 0, 0, 0) := (pg_163 62).trans rfl
theorem f_163_63 : fe0 163 63 = some (.getfield 7, 3, 9, 0, 1, 0, 5024) := (pg_163 63).trans rfl
theorem f_163_66 : fe0 163 66 = some (.iload 4, 2, 0, 0, 0, 0, 0) := (pg_163 66).trans rfl
theorem f_163_68 : fe0 163 68 = some (.iaload, 1, 0, 0, 0, 0, 0) := (pg_163 68).trans rfl
theorem f_163_69 : fe0 163 69 = some (.iconst 1, 1, 0, 0, 0, 0, 0) := (pg_163 69).trans rfl
theorem f_163_70 : fe0 163 70 = some (.iload_n 1, 1, 0, 0, 0, 0, 0) := (pg_163 70).trans rfl
theorem f_163_71 : fe0 163 71 = some (.ishl, 1, 0, 0, 0, 0, 0) := (pg_163 71).trans rfl
theorem f_163_72 : fe0 163 72 = some (.iconst (-1), 1, 0, 0, 0, 0, 0) := (pg_163 72).trans rfl
theorem f_163_73 : fe0 163 73 = some (.ixor, 1, 0, 0, 0, 0, 0) := (pg_163 73).trans rfl
theorem f_163_74 : fe0 163 74 = some (.iand, 1, 0, 0, 0, 0, 0) := (pg_163 74).trans rfl
theorem f_163_75 : fe0 163 75 = some (.iload_n 3, 1, 0, 0, 0, 0, 0) := (pg_163 75).trans rfl
theorem f_163_76 : fe0 163 76 = some (.iload_n 1, 1, 0, 0, 0, 0, 0) := (pg_163 76).trans rfl
theorem f_163_77 : fe0 163 77 = some (.ishl, 1, 0, 0, 0, 0, 0) := (pg_163 77).trans rfl
theorem f_163_78 : fe0 163 78 = some (.ior, 1, 0, 0, 0, 0, 0) := (pg_163 78).trans rfl
theorem f_163_79 : fe0 163 79 = some (.iastore, 1, 0, 0, 0, 0, 0) := (pg_163 79).trans rfl
theorem f_163_80 : fe0 163 80 = some (.iload 5, 2, 0, 0, 0, 0, 0) := (pg_163 80).trans rfl
theorem f_163_82 : fe0 163 82 = some (.ireturn, 1, 0, 0, 0, 0, 0) := (pg_163 82).trans rfl
theorem q_163_0 (d : Nat) (l0 : Nat) (x1 : Int32) (x2 : Int32) (x3 : Int32) (μ : aMem) : Rn (d + 1) 163 (0, [.ref l0, .int x1, .int x2, .int x3, un, un], [], μ) = if (mS μ l0).1 = 9 ∧ l0 < 999999 then ((cI d 140 [.ref l0, .int x1] μ).bind fun p1 => if p1.1 = 0 then (some (some (.int (-1000000001)), p1.2)) else (if (mS p1.2 l0).1 = 9 ∧ l0 < 999999 then ((cI d 140 [.ref l0, .int x2] p1.2).bind fun p4 => if p4.1 = 0 then (some (some (.int (-1000000001)), p4.2)) else (if x2 ≤ x1 then (some (some (.int (-1000000001)), p4.2)) else ((cI d 133 [.long ((x3 : Int32).toInt64), .long 0, .long 1] p4.2).bind fun p8 => if p8.1 = 0 then (some (some (.int (-1000000001)), p8.2)) else (if (mS p8.2 l0).1 = 9 then ((rdI p8.2 (mR p8.2 l0 0) ((4 + (5 * x2)) + 4)).bind fun v11 => (rdI p8.2 (mR p8.2 l0 0) ((4 + (5 * x2)) + 4)).bind fun v12 => if (mS p8.2 (mR p8.2 l0 0)).1 = 10 ∧ inb ((4 + (5 * x2)) + 4) (mS p8.2 (mR p8.2 l0 0)).2 then (some (some (.int ((v11 >>> (x1 &&& 31)) &&& 1)), setF p8.2 (mR p8.2 l0 0) (ix ((4 + (5 * x2)) + 4)) ((v12 &&& ((1 <<< (x1 &&& 31)) ^^^ (-1))) ||| (x3 <<< (x1 &&& 31))))) else none) else none)))) else none)) else none :=
  (e_nx f_163_0 rfl).trans ((e_nx f_163_1 rfl).trans ((e_gI (L := [.ref l0, .int x1, .int x2, .int x3, un, un]) (st := [.int x1, .ref l0]) (μ := μ) (L' := [.ref l0, .int x1, .int x2, .int x3, un, un]) (st' := []) f_163_2 rfl rfl).trans (g_congr (v_c2 rfl (Nat.le_of_ble_eq_true rfl)) (fun h2 => m_congr fun p1 => (e_eq f_163_5 rfl).trans (b_congr (fun h3 => (e_nx (q := (_, _, .int (-1000000001) :: _, _)) f_163_31 rfl).trans (e_rt f_163_33 rfl)) (fun h3 => (e_nx f_163_8 rfl).trans ((e_nx f_163_9 rfl).trans ((e_gI (L := [.ref l0, .int x1, .int x2, .int x3, un, un]) (st := [.int x2, .ref l0]) (μ := p1.2) (L' := [.ref l0, .int x1, .int x2, .int x3, un, un]) (st' := []) f_163_10 rfl rfl).trans (g_congr (v_c2 rfl (Nat.le_of_ble_eq_true rfl)) (fun h5 => m_congr fun p4 => (e_eq f_163_13 rfl).trans (b_congr (fun h6 => (e_nx (q := (_, _, .int (-1000000001) :: _, _)) f_163_31 rfl).trans (e_rt f_163_33 rfl)) (fun h6 => (e_nx f_163_16 rfl).trans ((e_nx f_163_17 rfl).trans ((e_ge f_163_18 rfl).trans (b_congr (fun h7 => (e_nx (q := (_, _, .int (-1000000001) :: _, _)) f_163_31 rfl).trans (e_rt f_163_33 rfl)) (fun h7 => (e_nx f_163_21 rfl).trans ((e_nx f_163_22 rfl).trans ((e_nx (q := (_, _, .long 0 :: _, _)) f_163_23 rfl).trans ((e_nx (q := (_, _, .long 1 :: _, _)) f_163_24 rfl).trans ((e_cI (L := [.ref l0, .int x1, .int x2, .int x3, un, un]) (st := [.long 1, .long 0, .long ((x3 : Int32).toInt64)]) (μ := p4.2) (L' := [.ref l0, .int x1, .int x2, .int x3, un, un]) (st' := []) f_163_25 rfl rfl).trans (m_congr fun p8 => (e_ne f_163_28 rfl).trans (b_congr (fun h9 => (e_nx (q := (_, _, .int (-1000000001) :: _, _)) f_163_31 rfl).trans (e_rt f_163_33 rfl)) (fun h9 => (e_nx (q := (_, _, .int 4 :: _, _)) f_163_34 rfl).trans ((e_nx (q := (_, _, .int 5 :: _, _)) f_163_35 rfl).trans ((e_nx f_163_36 rfl).trans ((e_nx f_163_37 rfl).trans ((e_nx f_163_38 rfl).trans ((e_nx (q := (_, _, .int 4 :: _, _)) f_163_39 rfl).trans ((e_nx f_163_40 rfl).trans ((e_nx (q := (_, [.ref l0, .int x1, .int x2, .int x3, .int ((4 + (5 * x2)) + 4), un], _, _)) f_163_41 rfl).trans ((e_nx f_163_43 rfl).trans ((e_gd f_163_44 rfl).trans (g_congr (Iff.rfl) (fun h10 => (e_nx f_163_47 rfl).trans ((e_ia (L := [.ref l0, .int x1, .int x2, .int x3, .int ((4 + (5 * x2)) + 4), un]) (r := []) (μ := p8.2) f_163_49).trans (m_congr fun v11 => (e_nx f_163_50 rfl).trans ((e_nx f_163_51 rfl).trans ((e_nx (q := (_, _, .int 1 :: _, _)) f_163_52 rfl).trans ((e_nx f_163_53 rfl).trans ((e_nx (q := (_, [.ref l0, .int x1, .int x2, .int x3, .int ((4 + (5 * x2)) + 4), .int ((v11 >>> (x1 &&& 31)) &&& 1)], _, _)) f_163_54 rfl).trans ((e_nx f_163_56 rfl).trans ((e_gk f_163_57 (h10) rfl).trans ((e_nx f_163_60 rfl).trans ((e_nx f_163_62 rfl).trans ((e_gk f_163_63 (h10) rfl).trans ((e_nx f_163_66 rfl).trans ((e_ia (L := [.ref l0, .int x1, .int x2, .int x3, .int ((4 + (5 * x2)) + 4), .int ((v11 >>> (x1 &&& 31)) &&& 1)]) (r := [.int ((4 + (5 * x2)) + 4), .ref (mR p8.2 l0 0)]) (μ := p8.2) f_163_68).trans (m_congr fun v12 => (e_nx (q := (_, _, .int 1 :: _, _)) f_163_69 rfl).trans ((e_nx f_163_70 rfl).trans ((e_nx f_163_71 rfl).trans ((e_nx (q := (_, _, .int (-1) :: _, _)) f_163_72 rfl).trans ((e_nx f_163_73 rfl).trans ((e_nx f_163_74 rfl).trans ((e_nx f_163_75 rfl).trans ((e_nx f_163_76 rfl).trans ((e_nx f_163_77 rfl).trans ((e_nx f_163_78 rfl).trans ((e_gd f_163_79 rfl).trans (g_congr (Iff.rfl) (fun h13 => (e_nx f_163_80 rfl).trans (e_rt f_163_82 rfl)))))))))))))))))))))))))))))))))))))))))))))))))))))))))))))
theorem pg_164 (pc : Nat) : fe0 164 pc = lk prg_164 pc := rfl
theorem f_164_0 : fe0 164 0 = some (.aload_n 0, 1, 0, 0, 0, 0, 0) := (pg_164 0).trans rfl
theorem f_164_1 : fe0 164 1 = some (.getfield 7, 3, 9, 0, 1, 0, 5024) := (pg_164 1).trans rfl
theorem f_164_4 : fe0 164 4 = some (.iconst 1, 1, 0, 0, 0, 0, 0) := (pg_164 4).trans rfl
theorem f_164_5 : fe0 164 5 = some (.iaload, 1, 0, 0, 0, 0, 0) := (pg_164 5).trans rfl
theorem f_164_6 : fe0 164 6 = some (.bipush 20, 2, 0, 0, 0, 0, 0) := (pg_164 6).trans rfl
theorem f_164_8 : fe0 164 8 = some (.if_icmp .ne 49, 3, 0, 0, 0, 0, 0) := (pg_164 8).trans rfl
theorem f_164_11 : fe0 164 11 = some (.iconst 0, 1, 0, 0, 0, 0, 0) := (pg_164 11).trans rfl
theorem f_164_12 : fe0 164 12 = some (.istore 4, 2, 0, 0, 0, 0, 0) := (pg_164 12).trans rfl
theorem f_164_14 : fe0 164 14 = some (.iload 4, 2, 0, 0, 0, 0, 0) := (pg_164 14).trans rfl
theorem f_164_16 : fe0 164 16 = some (.bipush 57, 2, 0, 0, 0, 0, 0) := (pg_164 16).trans rfl
theorem f_164_18 : fe0 164 18 = some (.if_icmp .ge 29, 3, 0, 0, 0, 0, 0) := (pg_164 18).trans rfl
theorem f_164_21 : fe0 164 21 = some (.aload_n 0, 1, 0, 0, 0, 0, 0) := (pg_164 21).trans rfl
theorem f_164_22 : fe0 164 22 = some (.getfield 7, 3, 9, 0, 1, 0, 5024) := (pg_164 22).trans rfl
theorem f_164_25 : fe0 164 25 = some (.bipush 54, 2, 0, 0, 0, 0, 0) := (pg_164 25).trans rfl
theorem f_164_27 : fe0 164 27 = some (.iload 4, 2, 0, 0, 0, 0, 0) := (pg_164 27).trans rfl
theorem f_164_29 : fe0 164 29 = some (.iadd, 1, 0, 0, 0, 0, 0) := (pg_164 29).trans rfl
theorem f_164_30 : fe0 164 30 = some (.aload_n 0, 1, 0, 0, 0, 0, 0) := (pg_164 30).trans rfl
theorem f_164_31 : fe0 164 31 = some (.getfield 7, 3, 9, 0, 1, 0, 5024) := (pg_164 31).trans rfl
theorem f_164_34 : fe0 164 34 = some (.bipush 57, 2, 0, 0, 0, 0, 0) := (pg_164 34).trans rfl
theorem f_164_36 : fe0 164 36 = some (.iload 4, 2, 0, 0, 0, 0, 0) := (pg_164 36).trans rfl
theorem f_164_38 : fe0 164 38 = some (.iadd, 1, 0, 0, 0, 0, 0) := (pg_164 38).trans rfl
theorem f_164_39 : fe0 164 39 = some (.iaload, 1, 0, 0, 0, 0, 0) := (pg_164 39).trans rfl
theorem f_164_40 : fe0 164 40 = some (.iastore, 1, 0, 0, 0, 0, 0) := (pg_164 40).trans rfl
theorem f_164_41 : fe0 164 41 = some (.iinc 4 1, 3, 0, 0, 0, 0, 0) := (pg_164 41).trans rfl
theorem f_164_44 : fe0 164 44 = some (.goto (-30), 3, 0, 0, 0, 0, 0) := (pg_164 44).trans rfl
theorem f_164_47 : fe0 164 47 = some (.aload_n 0, 1, 0, 0, 0, 0, 0) := (pg_164 47).trans rfl
theorem f_164_48 : fe0 164 48 = some (.getfield 7, 3, 9, 0, 1, 0, 5024) := (pg_164 48).trans rfl
theorem f_164_51 : fe0 164 51 = some (.iconst 1, 1, 0, 0, 0, 0, 0) := (pg_164 51).trans rfl
theorem f_164_52 : fe0 164 52 = some (.dup2, 1, 0, 0, 0, 0, 0) := (pg_164 52).trans rfl
theorem f_164_53 : fe0 164 53 = some (.iaload, 1, 0, 0, 0, 0, 0) := (pg_164 53).trans rfl
theorem f_164_54 : fe0 164 54 = some (.iconst 1, 1, 0, 0, 0, 0, 0) := (pg_164 54).trans rfl
theorem f_164_55 : fe0 164 55 = some (.isub, 1, 0, 0, 0, 0, 0) := (pg_164 55).trans rfl
theorem f_164_56 : fe0 164 56 = some (.iastore, 1, 0, 0, 0, 0, 0) := (pg_164 56).trans rfl
theorem f_164_57 : fe0 164 57 = some (.bipush 54, 2, 0, 0, 0, 0, 0) := (pg_164 57).trans rfl
theorem f_164_59 : fe0 164 59 = some (.iconst 3, 1, 0, 0, 0, 0, 0) := (pg_164 59).trans rfl
theorem f_164_60 : fe0 164 60 = some (.aload_n 0, 1, 0, 0, 0, 0, 0) := (pg_164 60).trans rfl
theorem f_164_61 : fe0 164 61 = some (.getfield 7, 3, 9, 0, 1, 0, 5024) := (pg_164 61).trans rfl
theorem f_164_64 : fe0 164 64 = some (.iconst 1, 1, 0, 0, 0, 0, 0) := (pg_164 64).trans rfl
theorem f_164_65 : fe0 164 65 = some (.iaload, 1, 0, 0, 0, 0, 0) := (pg_164 65).trans rfl
theorem f_164_66 : fe0 164 66 = some (.imul, 1, 0, 0, 0, 0, 0) := (pg_164 66).trans rfl
theorem f_164_67 : fe0 164 67 = some (.iadd, 1, 0, 0, 0, 0, 0) := (pg_164 67).trans rfl
theorem f_164_68 : fe0 164 68 = some (.istore 4, 2, 0, 0, 0, 0, 0) := (pg_164 68).trans rfl
theorem f_164_70 : fe0 164 70 = some (.aload_n 0, 1, 0, 0, 0, 0, 0) := (pg_164 70).trans rfl
theorem f_164_71 : fe0 164 71 = some (.getfield 7, 3, 9, 0, 1, 0, 5024) := (pg_164 71).trans rfl
theorem f_164_74 : fe0 164 74 = some (.iload 4, 2, 0, 0, 0, 0, 0) := (pg_164 74).trans rfl
theorem f_164_76 : fe0 164 76 = some (.iload_n 1, 1, 0, 0, 0, 0, 0) := (pg_164 76).trans rfl
theorem f_164_77 : fe0 164 77 = some (.iastore, 1, 0, 0, 0, 0, 0) := (pg_164 77).trans rfl
theorem f_164_78 : fe0 164 78 = some (.aload_n 0, 1, 0, 0, 0, 0, 0) := (pg_164 78).trans rfl
theorem f_164_79 : fe0 164 79 = some (.getfield 7, 3, 9, 0, 1, 0, 5024) := (pg_164 79).trans rfl
theorem f_164_82 : fe0 164 82 = some (.iload 4, 2, 0, 0, 0, 0, 0) := (pg_164 82).trans rfl
theorem f_164_84 : fe0 164 84 = some (.iconst 1, 1, 0, 0, 0, 0, 0) := (pg_164 84).trans rfl
theorem f_164_85 : fe0 164 85 = some (.iadd, 1, 0, 0, 0, 0, 0) := (pg_164 85).trans rfl
theorem f_164_86 : fe0 164 86 = some (.iload_n 2, 1, 0, 0, 0, 0, 0) := (pg_164 86).trans rfl
theorem f_164_87 : fe0 164 87 = some (.iastore, 1, 0, 0, 0, 0, 0) := (pg_164 87).trans rfl
theorem f_164_88 : fe0 164 88 = some (.aload_n 0, 1, 0, 0, 0, 0, 0) := (pg_164 88).trans rfl
theorem f_164_89 : fe0 164 89 = some (.getfield 7, 3, 9, 0, 1, 0, 5024) := (pg_164 89).trans rfl
theorem f_164_92 : fe0 164 92 = some (.iload 4, 2, 0, 0, 0, 0, 0) := (pg_164 92).trans rfl
theorem f_164_94 : fe0 164 94 = some (.iconst 2, 1, 0, 0, 0, 0, 0) := (pg_164 94).trans rfl
theorem f_164_95 : fe0 164 95 = some (.iadd, 1, 0, 0, 0, 0, 0) := (pg_164 95).trans rfl
theorem f_164_96 : fe0 164 96 = some (.iload_n 3, 1, 0, 0, 0, 0, 0) := (pg_164 96).trans rfl
theorem f_164_97 : fe0 164 97 = some (.iastore, 1, 0, 0, 0, 0, 0) := (pg_164 97).trans rfl
theorem f_164_98 : fe0 164 98 = some (.aload_n 0, 1, 0, 0, 0, 0, 0) := (pg_164 98).trans rfl
theorem f_164_99 : fe0 164 99 = some (.getfield 7, 3, 9, 0, 1, 0, 5024) := (pg_164 99).trans rfl
theorem f_164_102 : fe0 164 102 = some (.iconst 1, 1, 0, 0, 0, 0, 0) := (pg_164 102).trans rfl
theorem f_164_103 : fe0 164 103 = some (.dup2, 1, 0, 0, 0, 0, 0) := (pg_164 103).trans rfl
theorem f_164_104 : fe0 164 104 = some (.iaload, 1, 0, 0, 0, 0, 0) := (pg_164 104).trans rfl
theorem f_164_105 : fe0 164 105 = some (.iconst 1, 1, 0, 0, 0, 0, 0) := (pg_164 105).trans rfl
theorem f_164_106 : fe0 164 106 = some (.iadd, 1, 0, 0, 0, 0, 0) := (pg_164 106).trans rfl
theorem f_164_107 : fe0 164 107 = some (.iastore, 1, 0, 0, 0, 0, 0) := (pg_164 107).trans rfl
theorem f_164_108 : fe0 164 108 = some (.return_, 1, 0, 0, 0, 0, 0) := (pg_164 108).trans rfl
theorem q_164_0 (d : Nat) (l0 : Nat) (x1 : Int32) (x2 : Int32) (x3 : Int32) (μ : aMem) : Rn d 164 (0, [.ref l0, .int x1, .int x2, .int x3, un], [], μ) = if (mS μ l0).1 = 9 then ((rdI μ (mR μ l0 0) 1).bind fun v2 => if v2 = 20 then (Rn d 164 (14, [.ref l0, .int x1, .int x2, .int x3, .int 0], [], μ)) else ((rdI μ (mR μ l0 0) 1).bind fun v4 => if (mS μ (mR μ l0 0)).1 = 10 ∧ inb (54 + (3 * v4)) (mS μ (mR μ l0 0)).2 then (if (mS μ (mR μ l0 0)).1 = 10 ∧ inb ((54 + (3 * v4)) + 1) (mS μ (mR μ l0 0)).2 then (if (mS μ (mR μ l0 0)).1 = 10 ∧ inb ((54 + (3 * v4)) + 2) (mS μ (mR μ l0 0)).2 then ((rdI (setF (setF (setF μ (mR μ l0 0) (ix (54 + (3 * v4))) x1) (mR μ l0 0) (ix ((54 + (3 * v4)) + 1)) x2) (mR μ l0 0) (ix ((54 + (3 * v4)) + 2)) x3) (mR μ l0 0) 1).bind fun v8 => if (mS μ (mR μ l0 0)).1 = 10 ∧ inb 1 (mS μ (mR μ l0 0)).2 then (some (none, setF (setF (setF (setF μ (mR μ l0 0) (ix (54 + (3 * v4))) x1) (mR μ l0 0) (ix ((54 + (3 * v4)) + 1)) x2) (mR μ l0 0) (ix ((54 + (3 * v4)) + 2)) x3) (mR μ l0 0) (ix 1) (v8 + 1))) else none) else none) else none) else none)) else none :=
  (e_nx f_164_0 rfl).trans ((e_gd f_164_1 rfl).trans (g_congr (Iff.rfl) (fun h1 => (e_nx (q := (_, _, .int 1 :: _, _)) f_164_4 rfl).trans ((e_ia (L := [.ref l0, .int x1, .int x2, .int x3, un]) (r := []) (μ := μ) f_164_5).trans (m_congr fun v2 => (e_nx (q := (_, _, .int 20 :: _, _)) f_164_6 rfl).trans ((e_ne f_164_8 rfl).trans (b_congr (fun h3 => (e_nx (q := (_, _, .int 0 :: _, _)) f_164_11 rfl).trans (e_nx (q := (_, [.ref l0, .int x1, .int x2, .int x3, .int 0], _, _)) f_164_12 rfl)) (fun h3 => (e_nx (q := (_, _, .int 54 :: _, _)) f_164_57 rfl).trans ((e_nx (q := (_, _, .int 3 :: _, _)) f_164_59 rfl).trans ((e_nx f_164_60 rfl).trans ((e_gk f_164_61 (h1) rfl).trans ((e_nx (q := (_, _, .int 1 :: _, _)) f_164_64 rfl).trans ((e_ia (L := [.ref l0, .int x1, .int x2, .int x3, un]) (r := [.int 3, .int 54]) (μ := μ) f_164_65).trans (m_congr fun v4 => (e_nx f_164_66 rfl).trans ((e_nx f_164_67 rfl).trans ((e_nx (q := (_, [.ref l0, .int x1, .int x2, .int x3, .int (54 + (3 * v4))], _, _)) f_164_68 rfl).trans ((e_nx f_164_70 rfl).trans ((e_gk f_164_71 (h1) rfl).trans ((e_nx f_164_74 rfl).trans ((e_nx f_164_76 rfl).trans ((e_gd f_164_77 rfl).trans (g_congr (Iff.rfl) (fun h5 => (e_nx f_164_78 rfl).trans ((e_gk f_164_79 (h1) rfl).trans ((e_nx f_164_82 rfl).trans ((e_nx (q := (_, _, .int 1 :: _, _)) f_164_84 rfl).trans ((e_nx f_164_85 rfl).trans ((e_nx f_164_86 rfl).trans ((e_gd f_164_87 rfl).trans (g_congr (Iff.rfl) (fun h6 => (e_nx f_164_88 rfl).trans ((e_gk f_164_89 (h1) rfl).trans ((e_nx f_164_92 rfl).trans ((e_nx (q := (_, _, .int 2 :: _, _)) f_164_94 rfl).trans ((e_nx f_164_95 rfl).trans ((e_nx f_164_96 rfl).trans ((e_gd f_164_97 rfl).trans (g_congr (Iff.rfl) (fun h7 => (e_nx f_164_98 rfl).trans ((e_gk f_164_99 (h1) rfl).trans ((e_nx (q := (_, _, .int 1 :: _, _)) f_164_102 rfl).trans ((e_nx f_164_103 rfl).trans ((e_ia (L := [.ref l0, .int x1, .int x2, .int x3, .int (54 + (3 * v4))]) (r := [.int 1, .ref (mR μ l0 0)]) (μ := setF (setF (setF μ (mR μ l0 0) (ix (54 + (3 * v4))) x1) (mR μ l0 0) (ix ((54 + (3 * v4)) + 1)) x2) (mR μ l0 0) (ix ((54 + (3 * v4)) + 2)) x3) f_164_104).trans (m_congr fun v8 => (e_nx (q := (_, _, .int 1 :: _, _)) f_164_105 rfl).trans ((e_nx f_164_106 rfl).trans ((e_gd f_164_107 rfl).trans (g_congr (Iff.rfl) (fun h9 => e_rt f_164_108 rfl))))))))))))))))))))))))))))))))))))))))))))))))
theorem q_164_14 (d : Nat) (l0 : Nat) (x1 : Int32) (x2 : Int32) (x3 : Int32) (x4 : Int32) (μ : aMem) : Rn d 164 (14, [.ref l0, .int x1, .int x2, .int x3, .int x4], [], μ) = if 57 ≤ x4 then (if (mS μ l0).1 = 9 then ((rdI μ (mR μ l0 0) 1).bind fun v3 => if (mS μ (mR μ l0 0)).1 = 10 ∧ inb 1 (mS μ (mR μ l0 0)).2 then ((rdI (setF μ (mR μ l0 0) (ix 1) (v3 - 1)) (mR μ l0 0) 1).bind fun v5 => if (mS μ (mR μ l0 0)).1 = 10 ∧ inb (54 + (3 * v5)) (mS μ (mR μ l0 0)).2 then (if (mS μ (mR μ l0 0)).1 = 10 ∧ inb ((54 + (3 * v5)) + 1) (mS μ (mR μ l0 0)).2 then (if (mS μ (mR μ l0 0)).1 = 10 ∧ inb ((54 + (3 * v5)) + 2) (mS μ (mR μ l0 0)).2 then ((rdI (setF (setF (setF (setF μ (mR μ l0 0) (ix 1) (v3 - 1)) (mR μ l0 0) (ix (54 + (3 * v5))) x1) (mR μ l0 0) (ix ((54 + (3 * v5)) + 1)) x2) (mR μ l0 0) (ix ((54 + (3 * v5)) + 2)) x3) (mR μ l0 0) 1).bind fun v9 => some (none, setF (setF (setF (setF (setF μ (mR μ l0 0) (ix 1) (v3 - 1)) (mR μ l0 0) (ix (54 + (3 * v5))) x1) (mR μ l0 0) (ix ((54 + (3 * v5)) + 1)) x2) (mR μ l0 0) (ix ((54 + (3 * v5)) + 2)) x3) (mR μ l0 0) (ix 1) (v9 + 1))) else none) else none) else none) else none) else none) else (if (mS μ l0).1 = 9 then ((rdI μ (mR μ l0 0) (57 + x4)).bind fun v11 => if (mS μ (mR μ l0 0)).1 = 10 ∧ inb (54 + x4) (mS μ (mR μ l0 0)).2 then (Rn d 164 (14, [.ref l0, .int x1, .int x2, .int x3, .int (x4 + 1)], [], setF μ (mR μ l0 0) (ix (54 + x4)) v11)) else none) else none) :=
  (e_nx f_164_14 rfl).trans ((e_nx (q := (_, _, .int 57 :: _, _)) f_164_16 rfl).trans ((e_ge f_164_18 rfl).trans (b_congr (fun h1 => (e_nx f_164_47 rfl).trans ((e_gd f_164_48 rfl).trans (g_congr (Iff.rfl) (fun h2 => (e_nx (q := (_, _, .int 1 :: _, _)) f_164_51 rfl).trans ((e_nx f_164_52 rfl).trans ((e_ia (L := [.ref l0, .int x1, .int x2, .int x3, .int x4]) (r := [.int 1, .ref (mR μ l0 0)]) (μ := μ) f_164_53).trans (m_congr fun v3 => (e_nx (q := (_, _, .int 1 :: _, _)) f_164_54 rfl).trans ((e_nx f_164_55 rfl).trans ((e_gd f_164_56 rfl).trans (g_congr (Iff.rfl) (fun h4 => (e_nx (q := (_, _, .int 54 :: _, _)) f_164_57 rfl).trans ((e_nx (q := (_, _, .int 3 :: _, _)) f_164_59 rfl).trans ((e_nx f_164_60 rfl).trans ((e_gk f_164_61 (h2) rfl).trans ((e_nx (q := (_, _, .int 1 :: _, _)) f_164_64 rfl).trans ((e_ia (L := [.ref l0, .int x1, .int x2, .int x3, .int x4]) (r := [.int 3, .int 54]) (μ := setF μ (mR μ l0 0) (ix 1) (v3 - 1)) f_164_65).trans (m_congr fun v5 => (e_nx f_164_66 rfl).trans ((e_nx f_164_67 rfl).trans ((e_nx (q := (_, [.ref l0, .int x1, .int x2, .int x3, .int (54 + (3 * v5))], _, _)) f_164_68 rfl).trans ((e_nx f_164_70 rfl).trans ((e_gk f_164_71 (h2) rfl).trans ((e_nx f_164_74 rfl).trans ((e_nx f_164_76 rfl).trans ((e_gd f_164_77 rfl).trans (g_congr (Iff.rfl) (fun h6 => (e_nx f_164_78 rfl).trans ((e_gk f_164_79 (h2) rfl).trans ((e_nx f_164_82 rfl).trans ((e_nx (q := (_, _, .int 1 :: _, _)) f_164_84 rfl).trans ((e_nx f_164_85 rfl).trans ((e_nx f_164_86 rfl).trans ((e_gd f_164_87 rfl).trans (g_congr (Iff.rfl) (fun h7 => (e_nx f_164_88 rfl).trans ((e_gk f_164_89 (h2) rfl).trans ((e_nx f_164_92 rfl).trans ((e_nx (q := (_, _, .int 2 :: _, _)) f_164_94 rfl).trans ((e_nx f_164_95 rfl).trans ((e_nx f_164_96 rfl).trans ((e_gd f_164_97 rfl).trans (g_congr (Iff.rfl) (fun h8 => (e_nx f_164_98 rfl).trans ((e_gk f_164_99 (h2) rfl).trans ((e_nx (q := (_, _, .int 1 :: _, _)) f_164_102 rfl).trans ((e_nx f_164_103 rfl).trans ((e_ia (L := [.ref l0, .int x1, .int x2, .int x3, .int (54 + (3 * v5))]) (r := [.int 1, .ref (mR μ l0 0)]) (μ := setF (setF (setF (setF μ (mR μ l0 0) (ix 1) (v3 - 1)) (mR μ l0 0) (ix (54 + (3 * v5))) x1) (mR μ l0 0) (ix ((54 + (3 * v5)) + 1)) x2) (mR μ l0 0) (ix ((54 + (3 * v5)) + 2)) x3) f_164_104).trans (m_congr fun v9 => (e_nx (q := (_, _, .int 1 :: _, _)) f_164_105 rfl).trans ((e_nx f_164_106 rfl).trans ((e_gk f_164_107 (h4) rfl).trans (e_rt f_164_108 rfl)))))))))))))))))))))))))))))))))))))))))))))))))) (fun h1 => (e_nx f_164_21 rfl).trans ((e_gd f_164_22 rfl).trans (g_congr (Iff.rfl) (fun h10 => (e_nx (q := (_, _, .int 54 :: _, _)) f_164_25 rfl).trans ((e_nx f_164_27 rfl).trans ((e_nx f_164_29 rfl).trans ((e_nx f_164_30 rfl).trans ((e_gk f_164_31 (h10) rfl).trans ((e_nx (q := (_, _, .int 57 :: _, _)) f_164_34 rfl).trans ((e_nx f_164_36 rfl).trans ((e_nx f_164_38 rfl).trans ((e_ia (L := [.ref l0, .int x1, .int x2, .int x3, .int x4]) (r := [.int (54 + x4), .ref (mR μ l0 0)]) (μ := μ) f_164_39).trans (m_congr fun v11 => (e_gd f_164_40 rfl).trans (g_congr (Iff.rfl) (fun h12 => (e_nx (q := (_, [.ref l0, .int x1, .int x2, .int x3, .int (x4 + 1)], _, _)) f_164_41 rfl).trans (e_nx f_164_44 rfl)))))))))))))))))))
theorem pg_165 (pc : Nat) : fe0 165 pc = lk prg_165 pc := rfl
theorem f_165_0 : fe0 165 0 = some (.iload_n 1, 1, 0, 0, 0, 0, 0) := (pg_165 0).trans rfl
theorem f_165_1 : fe0 165 1 = some (.invokestatic 95, 3, 141, 1, 2, 0, 5149) := (pg_165 1).trans rfl
theorem f_165_4 : fe0 165 4 = some (.ifCond .eq 27, 3, 0, 0, 0, 0, 0) := (pg_165 4).trans rfl
theorem f_165_7 : fe0 165 7 = some (.iload_n 2, 1, 0, 0, 0, 0, 0) := (pg_165 7).trans rfl
theorem f_165_8 : fe0 165 8 = some (.i2l, 1, 0, 0, 0, 0, 0) := (pg_165 8).trans rfl
theorem f_165_9 : fe0 165 9 = some (.lconst 0, 1, 0, 0, 0, 0, 0) := (pg_165 9).trans rfl
theorem f_165_10 : fe0 165 10 = some (.ldc2_w 174, 3, 0, 0, 9999, 0, 6027) := (pg_165 10).trans rfl
theorem f_165_13 : fe0 165 13 = some (.invokestatic 84, 3, 133, 3, 2, 0, 5144) := (pg_165 13).trans rfl
theorem f_165_16 : fe0 165 16 = some (.ifCond .eq 15, 3, 0, 0, 0, 0, 0) := (pg_165 16).trans rfl
theorem f_165_19 : fe0 165 19 = some (.iload_n 3, 1, 0, 0, 0, 0, 0) := (pg_165 19).trans rfl
theorem f_165_20 : fe0 165 20 = some (.i2l, 1, 0, 0, 0, 0, 0) := (pg_165 20).trans rfl
theorem f_165_21 : fe0 165 21 = some (.lconst 0, 1, 0, 0, 0, 0, 0) := (pg_165 21).trans rfl
theorem f_165_22 : fe0 165 22 = some (.ldc2_w 174, 3, 0, 0, 9999, 0, 6027) := (pg_165 22).trans rfl
theorem f_165_25 : fe0 165 25 = some (.invokestatic 84, 3, 133, 3, 2, 0, 5144) := (pg_165 25).trans rfl
theorem f_165_28 : fe0 165 28 = some (.ifCond .ne 6, 3, 0, 0, 0, 0, 0) := (pg_165 28).trans rfl
theorem f_165_31 : fe0 165 31 = some (.ldc 99, 2, 0, 0, 3294967295, 0, 5152) := (pg_165 31).trans rfl
theorem f_165_33 : fe0 165 33 = some (.ireturn, 1, 0, 0, 0, 0, 0) := (pg_165 33).trans rfl
theorem f_165_34 : fe0 165 34 = some (.aload_n 0, 1, 0, 0, 0, 0, 0) := (pg_165 34).trans rfl
theorem f_165_35 : fe0 165 35 = some (.iload_n 1, 1, 0, 0, 0, 0, 0) := (pg_165 35).trans rfl
theorem f_165_36 : fe0 165 36 = some (.iload_n 2, 1, 0, 0, 0, 0, 0) := (pg_165 36).trans rfl
theorem f_165_37 : fe0 165 37 = some (.iload_n 3, 1, 0, 0, 0, 0, 0) := (pg_165 37).trans rfl
theorem f_165_38 : fe0 165 38 = some (.invokevirtual 176, 3, 164, 3, 0, 9, 6028) := (pg_165 38).trans rfl
theorem f_165_41 : fe0 165 41 = some (.aload_n 0, 1, 0, 0, 0, 0, 0) := (pg_165 41).trans rfl
theorem f_165_42 : fe0 165 42 = some (.getfield 7, 3, 9, 0, 1, 0, 5024) := (pg_165 42).trans rfl
theorem f_165_45 : fe0 165 45 = some (.iconst 1, 1, 0, 0, 0, 0, 0) := (pg_165 45).trans rfl
theorem f_165_46 : fe0 165 46 = some (.iaload, 1, 0, 0, 0, 0, 0) := (pg_165 46).trans rfl
theorem f_165_47 : fe0 165 47 = some (.ireturn, 1, 0, 0, 0, 0, 0) := (pg_165 47).trans rfl
theorem q_165_0 (d : Nat) (l0 : Nat) (x1 : Int32) (x2 : Int32) (x3 : Int32) (μ : aMem) : Rn (d + 1) 165 (0, [.ref l0, .int x1, .int x2, .int x3], [], μ) = (cI d 141 [.int x1] μ).bind fun p1 => if p1.1 = 0 then (some (some (.int (-1000000001)), p1.2)) else ((cI d 133 [.long ((x2 : Int32).toInt64), .long 0, .long 9999] p1.2).bind fun p3 => if p3.1 = 0 then (some (some (.int (-1000000001)), p3.2)) else ((cI d 133 [.long ((x3 : Int32).toInt64), .long 0, .long 9999] p3.2).bind fun p5 => if p5.1 = 0 then (some (some (.int (-1000000001)), p5.2)) else (if (mS p5.2 l0).1 = 9 ∧ l0 < 999999 then ((cV d 164 [.ref l0, .int x1, .int x2, .int x3] p5.2).bind fun p7 => if (mS p7 l0).1 = 9 then ((rdI p7 (mR p7 l0 0) 1).bind fun v10 => some (some (.int v10), p7)) else none) else none))) :=
  (e_nx f_165_0 rfl).trans ((e_cI (L := [.ref l0, .int x1, .int x2, .int x3]) (st := [.int x1]) (μ := μ) (L' := [.ref l0, .int x1, .int x2, .int x3]) (st' := []) f_165_1 rfl rfl).trans (m_congr fun p1 => (e_eq f_165_4 rfl).trans (b_congr (fun h2 => (e_nx (q := (_, _, .int (-1000000001) :: _, _)) f_165_31 rfl).trans (e_rt f_165_33 rfl)) (fun h2 => (e_nx f_165_7 rfl).trans ((e_nx f_165_8 rfl).trans ((e_nx (q := (_, _, .long 0 :: _, _)) f_165_9 rfl).trans ((e_nx (q := (_, _, .long 9999 :: _, _)) f_165_10 rfl).trans ((e_cI (L := [.ref l0, .int x1, .int x2, .int x3]) (st := [.long 9999, .long 0, .long ((x2 : Int32).toInt64)]) (μ := p1.2) (L' := [.ref l0, .int x1, .int x2, .int x3]) (st' := []) f_165_13 rfl rfl).trans (m_congr fun p3 => (e_eq f_165_16 rfl).trans (b_congr (fun h4 => (e_nx (q := (_, _, .int (-1000000001) :: _, _)) f_165_31 rfl).trans (e_rt f_165_33 rfl)) (fun h4 => (e_nx f_165_19 rfl).trans ((e_nx f_165_20 rfl).trans ((e_nx (q := (_, _, .long 0 :: _, _)) f_165_21 rfl).trans ((e_nx (q := (_, _, .long 9999 :: _, _)) f_165_22 rfl).trans ((e_cI (L := [.ref l0, .int x1, .int x2, .int x3]) (st := [.long 9999, .long 0, .long ((x3 : Int32).toInt64)]) (μ := p3.2) (L' := [.ref l0, .int x1, .int x2, .int x3]) (st' := []) f_165_25 rfl rfl).trans (m_congr fun p5 => (e_ne f_165_28 rfl).trans (b_congr (fun h6 => (e_nx (q := (_, _, .int (-1000000001) :: _, _)) f_165_31 rfl).trans (e_rt f_165_33 rfl)) (fun h6 => (e_nx f_165_34 rfl).trans ((e_nx f_165_35 rfl).trans ((e_nx f_165_36 rfl).trans ((e_nx f_165_37 rfl).trans ((e_gV (L := [.ref l0, .int x1, .int x2, .int x3]) (st := [.int x3, .int x2, .int x1, .ref l0]) (μ := p5.2) (L' := [.ref l0, .int x1, .int x2, .int x3]) (st' := []) f_165_38 rfl rfl).trans (g_congr (v_c2 rfl (Nat.le_of_ble_eq_true rfl)) (fun h8 => m_congr fun p7 => (e_nx f_165_41 rfl).trans ((e_gd f_165_42 rfl).trans (g_congr (Iff.rfl) (fun h9 => (e_nx (q := (_, _, .int 1 :: _, _)) f_165_45 rfl).trans ((e_ia (L := [.ref l0, .int x1, .int x2, .int x3]) (r := []) (μ := p7) f_165_46).trans (m_congr fun v10 => e_rt f_165_47 rfl)))))))))))))))))))))))))))))
theorem pg_166 (pc : Nat) : fe0 166 pc = lk prg_166 pc := rfl
theorem f_166_0 : fe0 166 0 = some (.iload_n 2, 1, 0, 0, 0, 0, 0) := (pg_166 0).trans rfl
theorem f_166_1 : fe0 166 1 = some (.i2l, 1, 0, 0, 0, 0, 0) := (pg_166 1).trans rfl
theorem f_166_2 : fe0 166 2 = some (.lconst 0, 1, 0, 0, 0, 0, 0) := (pg_166 2).trans rfl
theorem f_166_3 : fe0 166 3 = some (.ldc2_w 172, 3, 0, 0, 2, 0, 6018) := (pg_166 3).trans rfl
theorem f_166_6 : fe0 166 6 = some (.invokestatic 84, 3, 133, 3, 2, 0, 5144) := (pg_166 6).trans rfl
theorem f_166_9 : fe0 166 9 = some (.ifCond .ne 6, 3, 0, 0, 0, 0, 0) := (pg_166 9).trans rfl
theorem f_166_12 : fe0 166 12 = some (.ldc 99, 2, 0, 0, 3294967295, 0, 5152) := (pg_166 12).trans rfl
theorem f_166_14 : fe0 166 14 = some (.ireturn, 1, 0, 0, 0, 0, 0) := (pg_166 14).trans rfl
theorem f_166_15 : fe0 166 15 = some (.iload_n 1, 1, 0, 0, 0, 0, 0) := (pg_166 15).trans rfl
theorem f_166_16 : fe0 166 16 = some (.i2l, 1, 0, 0, 0, 0, 0) := (pg_166 16).trans rfl
theorem f_166_17 : fe0 166 17 = some (.lconst 0, 1, 0, 0, 0, 0, 0) := (pg_166 17).trans rfl
theorem f_166_18 : fe0 166 18 = some (.aload_n 0, 1, 0, 0, 0, 0, 0) := (pg_166 18).trans rfl
theorem f_166_19 : fe0 166 19 = some (.getfield 7, 3, 9, 0, 1, 0, 5024) := (pg_166 19).trans rfl
theorem f_166_22 : fe0 166 22 = some (.iconst 1, 1, 0, 0, 0, 0, 0) := (pg_166 22).trans rfl
theorem f_166_23 : fe0 166 23 = some (.iaload, 1, 0, 0, 0, 0, 0) := (pg_166 23).trans rfl
theorem f_166_24 : fe0 166 24 = some (.iconst 1, 1, 0, 0, 0, 0, 0) := (pg_166 24).trans rfl
theorem f_166_25 : fe0 166 25 = some (.isub, 1, 0, 0, 0, 0, 0) := (pg_166 25).trans rfl
theorem f_166_26 : fe0 166 26 = some (.i2l, 1, 0, 0, 0, 0, 0) := (pg_166 26).trans rfl
theorem f_166_27 : fe0 166 27 = some (.invokestatic 84, 3, 133, 3, 2, 0, 5144) := (pg_166 27).trans rfl
theorem f_166_30 : fe0 166 30 = some (.ifCond .eq 19, 3, 0, 0, 0, 0, 0) := (pg_166 30).trans rfl
theorem f_166_33 : fe0 166 33 = some (.aload_n 0, 1, 0, 0, 0, 0, 0) := (pg_166 33).trans rfl
theorem f_166_34 : fe0 166 34 = some (.getfield 7, 3, 9, 0, 1, 0, 5024) := (pg_166 34).trans rfl
theorem f_166_37 : fe0 166 37 = some (.bipush 54, 2, 0, 0, 0, 0, 0) := (pg_166 37).trans rfl
theorem f_166_39 : fe0 166 39 = some (.iconst 3, 1, 0, 0, 0, 0, 0) := (pg_166 39).trans rfl
theorem f_166_40 : fe0 166 40 = some (.iload_n 1, 1, 0, 0, 0, 0, 0) := (pg_166 40).trans rfl
theorem f_166_41 : fe0 166 41 = some (.imul, 1, 0, 0, 0, 0, 0) := (pg_166 41).trans rfl
theorem f_166_42 : fe0 166 42 = some (.iadd, 1, 0, 0, 0, 0, 0) := (pg_166 42).trans rfl
theorem f_166_43 : fe0 166 43 = some (.iload_n 2, 1, 0, 0, 0, 0, 0) := (pg_166 43).trans rfl
theorem f_166_44 : fe0 166 44 = some (.iadd, 1, 0, 0, 0, 0, 0) := (pg_166 44).trans rfl
theorem f_166_45 : fe0 166 45 = some (.iaload, 1, 0, 0, 0, 0, 0) := (pg_166 45).trans rfl
theorem f_166_46 : fe0 166 46 = some (.goto 5, 3, 0, 0, 0, 0, 0) := (pg_166 46).trans rfl
theorem f_166_49 : fe0 166 49 = some (.ldc 83, 2, 0, 0, 3294967291, 0, 6036) := (pg_166 49).trans rfl
theorem f_166_51 : fe0 166 51 = some (.ireturn, 1, 0, 0, 0, 0, 0) := (pg_166 51).trans rfl
theorem q_166_0 (d : Nat) (l0 : Nat) (x1 : Int32) (x2 : Int32) (μ : aMem) : Rn (d + 1) 166 (0, [.ref l0, .int x1, .int x2], [], μ) = (cI d 133 [.long ((x2 : Int32).toInt64), .long 0, .long 2] μ).bind fun p1 => if p1.1 = 0 then (some (some (.int (-1000000001)), p1.2)) else (if (mS p1.2 l0).1 = 9 then ((rdI p1.2 (mR p1.2 l0 0) 1).bind fun v4 => (cI d 133 [.long ((x1 : Int32).toInt64), .long 0, .long ((v4 - 1 : Int32).toInt64)] p1.2).bind fun p5 => if p5.1 = 0 then (some (some (.int (-1000000005)), p5.2)) else (if (mS p5.2 l0).1 = 9 then ((rdI p5.2 (mR p5.2 l0 0) ((54 + (3 * x1)) + x2)).bind fun v8 => some (some (.int v8), p5.2)) else none)) else none) :=
  (e_nx f_166_0 rfl).trans ((e_nx f_166_1 rfl).trans ((e_nx (q := (_, _, .long 0 :: _, _)) f_166_2 rfl).trans ((e_nx (q := (_, _, .long 2 :: _, _)) f_166_3 rfl).trans ((e_cI (L := [.ref l0, .int x1, .int x2]) (st := [.long 2, .long 0, .long ((x2 : Int32).toInt64)]) (μ := μ) (L' := [.ref l0, .int x1, .int x2]) (st' := []) f_166_6 rfl rfl).trans (m_congr fun p1 => (e_ne f_166_9 rfl).trans (b_congr (fun h2 => (e_nx (q := (_, _, .int (-1000000001) :: _, _)) f_166_12 rfl).trans (e_rt f_166_14 rfl)) (fun h2 => (e_nx f_166_15 rfl).trans ((e_nx f_166_16 rfl).trans ((e_nx (q := (_, _, .long 0 :: _, _)) f_166_17 rfl).trans ((e_nx f_166_18 rfl).trans ((e_gd f_166_19 rfl).trans (g_congr (Iff.rfl) (fun h3 => (e_nx (q := (_, _, .int 1 :: _, _)) f_166_22 rfl).trans ((e_ia (L := [.ref l0, .int x1, .int x2]) (r := [.long 0, .long ((x1 : Int32).toInt64)]) (μ := p1.2) f_166_23).trans (m_congr fun v4 => (e_nx (q := (_, _, .int 1 :: _, _)) f_166_24 rfl).trans ((e_nx f_166_25 rfl).trans ((e_nx f_166_26 rfl).trans ((e_cI (L := [.ref l0, .int x1, .int x2]) (st := [.long ((v4 - 1 : Int32).toInt64), .long 0, .long ((x1 : Int32).toInt64)]) (μ := p1.2) (L' := [.ref l0, .int x1, .int x2]) (st' := []) f_166_27 rfl rfl).trans (m_congr fun p5 => (e_eq f_166_30 rfl).trans (b_congr (fun h6 => (e_nx (q := (_, _, .int (-1000000005) :: _, _)) f_166_49 rfl).trans (e_rt f_166_51 rfl)) (fun h6 => (e_nx f_166_33 rfl).trans ((e_gd f_166_34 rfl).trans (g_congr (Iff.rfl) (fun h7 => (e_nx (q := (_, _, .int 54 :: _, _)) f_166_37 rfl).trans ((e_nx (q := (_, _, .int 3 :: _, _)) f_166_39 rfl).trans ((e_nx f_166_40 rfl).trans ((e_nx f_166_41 rfl).trans ((e_nx f_166_42 rfl).trans ((e_nx f_166_43 rfl).trans ((e_nx f_166_44 rfl).trans ((e_ia (L := [.ref l0, .int x1, .int x2]) (r := []) (μ := p5.2) f_166_45).trans (m_congr fun v8 => (e_nx f_166_46 rfl).trans (e_rt f_166_51 rfl)))))))))))))))))))))))))))))))))
theorem pg_167 (pc : Nat) : fe0 167 pc = lk prg_167 pc := rfl
theorem f_167_0 : fe0 167 0 = some (.iload_n 1, 1, 0, 0, 0, 0, 0) := (pg_167 0).trans rfl
theorem f_167_1 : fe0 167 1 = some (.i2l, 1, 0, 0, 0, 0, 0) := (pg_167 1).trans rfl
theorem f_167_2 : fe0 167 2 = some (.ldc2_w 180, 3, 0, 0, 18446744073709551615, 0, 6041) := (pg_167 2).trans rfl
theorem f_167_5 : fe0 167 5 = some (.ldc2_w 172, 3, 0, 0, 2, 0, 6018) := (pg_167 5).trans rfl
theorem f_167_8 : fe0 167 8 = some (.invokestatic 84, 3, 133, 3, 2, 0, 5144) := (pg_167 8).trans rfl
theorem f_167_11 : fe0 167 11 = some (.ifCond .eq 11, 3, 0, 0, 0, 0, 0) := (pg_167 11).trans rfl
theorem f_167_14 : fe0 167 14 = some (.aload_n 0, 1, 0, 0, 0, 0, 0) := (pg_167 14).trans rfl
theorem f_167_15 : fe0 167 15 = some (.iload_n 1, 1, 0, 0, 0, 0, 0) := (pg_167 15).trans rfl
theorem f_167_16 : fe0 167 16 = some (.invokevirtual 113, 3, 147, 1, 0, 9, 5182) := (pg_167 16).trans rfl
theorem f_167_19 : fe0 167 19 = some (.goto 5, 3, 0, 0, 0, 0, 0) := (pg_167 19).trans rfl
theorem f_167_22 : fe0 167 22 = some (.ldc 99, 2, 0, 0, 3294967295, 0, 5152) := (pg_167 22).trans rfl
theorem f_167_24 : fe0 167 24 = some (.ireturn, 1, 0, 0, 0, 0, 0) := (pg_167 24).trans rfl
theorem q_167_0 (d : Nat) (l0 : Nat) (x1 : Int32) (μ : aMem) : Rn (d + 1) 167 (0, [.ref l0, .int x1], [], μ) = (cI d 133 [.long ((x1 : Int32).toInt64), .long (-1), .long 2] μ).bind fun p1 => if p1.1 = 0 then (some (some (.int (-1000000001)), p1.2)) else (if (mS p1.2 l0).1 = 9 ∧ l0 < 999999 then ((cI d 147 [.ref l0, .int x1] p1.2).bind fun p3 => some (some (.int p3.1), p3.2)) else none) :=
  (e_nx f_167_0 rfl).trans ((e_nx f_167_1 rfl).trans ((e_nx (q := (_, _, .long (-1) :: _, _)) f_167_2 rfl).trans ((e_nx (q := (_, _, .long 2 :: _, _)) f_167_5 rfl).trans ((e_cI (L := [.ref l0, .int x1]) (st := [.long 2, .long (-1), .long ((x1 : Int32).toInt64)]) (μ := μ) (L' := [.ref l0, .int x1]) (st' := []) f_167_8 rfl rfl).trans (m_congr fun p1 => (e_eq f_167_11 rfl).trans (b_congr (fun h2 => (e_nx (q := (_, _, .int (-1000000001) :: _, _)) f_167_22 rfl).trans (e_rt f_167_24 rfl)) (fun h2 => (e_nx f_167_14 rfl).trans ((e_nx f_167_15 rfl).trans ((e_gI (L := [.ref l0, .int x1]) (st := [.int x1, .ref l0]) (μ := p1.2) (L' := [.ref l0, .int x1]) (st' := []) f_167_16 rfl rfl).trans (g_congr (v_c2 rfl (Nat.le_of_ble_eq_true rfl)) (fun h4 => m_congr fun p3 => (e_nx f_167_19 rfl).trans (e_rt f_167_24 rfl))))))))))))
theorem pg_168 (pc : Nat) : fe0 168 pc = lk prg_168 pc := rfl
theorem f_168_0 : fe0 168 0 = some (.iload_n 1, 1, 0, 0, 0, 0, 0) := (pg_168 0).trans rfl
theorem f_168_1 : fe0 168 1 = some (.i2l, 1, 0, 0, 0, 0, 0) := (pg_168 1).trans rfl
theorem f_168_2 : fe0 168 2 = some (.lconst 1, 1, 0, 0, 0, 0, 0) := (pg_168 2).trans rfl
theorem f_168_3 : fe0 168 3 = some (.ldc2_w 93, 3, 0, 0, 10, 0, 5148) := (pg_168 3).trans rfl
theorem f_168_6 : fe0 168 6 = some (.invokestatic 84, 3, 133, 3, 2, 0, 5144) := (pg_168 6).trans rfl
theorem f_168_9 : fe0 168 9 = some (.ifCond .ne 6, 3, 0, 0, 0, 0, 0) := (pg_168 9).trans rfl
theorem f_168_12 : fe0 168 12 = some (.ldc 99, 2, 0, 0, 3294967295, 0, 5152) := (pg_168 12).trans rfl
theorem f_168_14 : fe0 168 14 = some (.ireturn, 1, 0, 0, 0, 0, 0) := (pg_168 14).trans rfl
theorem f_168_15 : fe0 168 15 = some (.iconst 0, 1, 0, 0, 0, 0, 0) := (pg_168 15).trans rfl
theorem f_168_16 : fe0 168 16 = some (.istore_n 2, 1, 0, 0, 0, 0, 0) := (pg_168 16).trans rfl
theorem f_168_17 : fe0 168 17 = some (.iload_n 2, 1, 0, 0, 0, 0, 0) := (pg_168 17).trans rfl
theorem f_168_18 : fe0 168 18 = some (.iload_n 1, 1, 0, 0, 0, 0, 0) := (pg_168 18).trans rfl
theorem f_168_19 : fe0 168 19 = some (.if_icmp .ge 61, 3, 0, 0, 0, 0, 0) := (pg_168 19).trans rfl
theorem f_168_22 : fe0 168 22 = some (.aload_n 0, 1, 0, 0, 0, 0, 0) := (pg_168 22).trans rfl
theorem f_168_23 : fe0 168 23 = some (.getfield 7, 3, 9, 0, 1, 0, 5024) := (pg_168 23).trans rfl
theorem f_168_26 : fe0 168 26 = some (.iconst 0, 1, 0, 0, 0, 0, 0) := (pg_168 26).trans rfl
theorem f_168_27 : fe0 168 27 = some (.iaload, 1, 0, 0, 0, 0, 0) := (pg_168 27).trans rfl
theorem f_168_28 : fe0 168 28 = some (.bipush 10, 2, 0, 0, 0, 0, 0) := (pg_168 28).trans rfl
theorem f_168_30 : fe0 168 30 = some (.if_icmp .ge 50, 3, 0, 0, 0, 0, 0) := (pg_168 30).trans rfl
theorem f_168_33 : fe0 168 33 = some (.aload_n 0, 1, 0, 0, 0, 0, 0) := (pg_168 33).trans rfl
theorem f_168_34 : fe0 168 34 = some (.invokevirtual 182, 3, 143, 0, 0, 9, 6046) := (pg_168 34).trans rfl
theorem f_168_37 : fe0 168 37 = some (.bipush 6, 2, 0, 0, 0, 0, 0) := (pg_168 37).trans rfl
theorem f_168_39 : fe0 168 39 = some (.irem, 1, 0, 0, 0, 0, 0) := (pg_168 39).trans rfl
theorem f_168_40 : fe0 168 40 = some (.istore_n 3, 1, 0, 0, 0, 0, 0) := (pg_168 40).trans rfl
theorem f_168_41 : fe0 168 41 = some (.aload_n 0, 1, 0, 0, 0, 0, 0) := (pg_168 41).trans rfl
theorem f_168_42 : fe0 168 42 = some (.invokevirtual 182, 3, 143, 0, 0, 9, 6046) := (pg_168 42).trans rfl
theorem f_168_45 : fe0 168 45 = some (.bipush 20, 2, 0, 0, 0, 0, 0) := (pg_168 45).trans rfl
theorem f_168_47 : fe0 168 47 = some (.irem, 1, 0, 0, 0, 0, 0) := (pg_168 47).trans rfl
theorem f_168_48 : fe0 168 48 = some (.istore 4, 2, 0, 0, 0, 0, 0) := (pg_168 48).trans rfl
theorem f_168_50 : fe0 168 50 = some (.aload_n 0, 1, 0, 0, 0, 0, 0) := (pg_168 50).trans rfl
theorem f_168_51 : fe0 168 51 = some (.invokevirtual 182, 3, 143, 0, 0, 9, 6046) := (pg_168 51).trans rfl
theorem f_168_54 : fe0 168 54 = some (.bipush 11, 2, 0, 0, 0, 0, 0) := (pg_168 54).trans rfl
theorem f_168_56 : fe0 168 56 = some (.irem, 1, 0, 0, 0, 0, 0) := (pg_168 56).trans rfl
theorem f_168_57 : fe0 168 57 = some (.istore 5, 2, 0, 0, 0, 0, 0) := (pg_168 57).trans rfl
theorem f_168_59 : fe0 168 59 = some (.aload_n 0, 1, 0, 0, 0, 0, 0) := (pg_168 59).trans rfl
theorem f_168_60 : fe0 168 60 = some (.iload_n 3, 1, 0, 0, 0, 0, 0) := (pg_168 60).trans rfl
theorem f_168_61 : fe0 168 61 = some (.iload 4, 2, 0, 0, 0, 0, 0) := (pg_168 61).trans rfl
theorem f_168_63 : fe0 168 63 = some (.iload 5, 2, 0, 0, 0, 0, 0) := (pg_168 63).trans rfl
theorem f_168_65 : fe0 168 65 = some (.aload_n 0, 1, 0, 0, 0, 0, 0) := (pg_168 65).trans rfl
theorem f_168_66 : fe0 168 66 = some (.invokevirtual 182, 3, 143, 0, 0, 9, 6046) := (pg_168 66).trans rfl
theorem f_168_69 : fe0 168 69 = some (.iconst 3, 1, 0, 0, 0, 0, 0) := (pg_168 69).trans rfl
theorem f_168_70 : fe0 168 70 = some (.irem, 1, 0, 0, 0, 0, 0) := (pg_168 70).trans rfl
theorem f_168_71 : fe0 168 71 = some (.invokevirtual 101, 3, 145, 4, 0, 9, 5154) := (pg_168 71).trans rfl
theorem f_168_74 : fe0 168 74 = some (.iinc 2 1, 3, 0, 0, 0, 0, 0) := (pg_168 74).trans rfl
theorem f_168_77 : fe0 168 77 = some (.goto (-60), 3, 0, 0, 0, 0, 0) := (pg_168 77).trans rfl
theorem f_168_80 : fe0 168 80 = some (.iload_n 2, 1, 0, 0, 0, 0, 0) := (pg_168 80).trans rfl
theorem f_168_81 : fe0 168 81 = some (.ireturn, 1, 0, 0, 0, 0, 0) := (pg_168 81).trans rfl
theorem q_168_0 (d : Nat) (l0 : Nat) (x1 : Int32) (μ : aMem) : Rn (d + 1) 168 (0, [.ref l0, .int x1, un, un, un, un], [], μ) = (cI d 133 [.long ((x1 : Int32).toInt64), .long 1, .long 10] μ).bind fun p1 => if p1.1 = 0 then (some (some (.int (-1000000001)), p1.2)) else (Rn (d + 1) 168 (17, [.ref l0, .int x1, .int 0, un, un, un], [], p1.2)) :=
  (e_nx f_168_0 rfl).trans ((e_nx f_168_1 rfl).trans ((e_nx (q := (_, _, .long 1 :: _, _)) f_168_2 rfl).trans ((e_nx (q := (_, _, .long 10 :: _, _)) f_168_3 rfl).trans ((e_cI (L := [.ref l0, .int x1, un, un, un, un]) (st := [.long 10, .long 1, .long ((x1 : Int32).toInt64)]) (μ := μ) (L' := [.ref l0, .int x1, un, un, un, un]) (st' := []) f_168_6 rfl rfl).trans (m_congr fun p1 => (e_ne f_168_9 rfl).trans (b_congr (fun h2 => (e_nx (q := (_, _, .int (-1000000001) :: _, _)) f_168_12 rfl).trans (e_rt f_168_14 rfl)) (fun h2 => (e_nx (q := (_, _, .int 0 :: _, _)) f_168_15 rfl).trans (e_nx (q := (_, [.ref l0, .int x1, .int 0, un, un, un], _, _)) f_168_16 rfl))))))))
theorem q_168_17 (d : Nat) (l0 : Nat) (x1 : Int32) (x2 : Int32) (w3 : Value) (w4 : Value) (w5 : Value) (μ : aMem) : Rn (d + 1) 168 (17, [.ref l0, .int x1, .int x2, w3, w4, w5], [], μ) = if x1 ≤ x2 then (some (some (.int x2), μ)) else (if (mS μ l0).1 = 9 then ((rdI μ (mR μ l0 0) 0).bind fun v3 => if 10 ≤ v3 then (some (some (.int x2), μ)) else (if (mS μ l0).1 = 9 ∧ l0 < 999999 then ((cI d 143 [.ref l0] μ).bind fun p5 => if (mS p5.2 l0).1 = 9 ∧ l0 < 999999 then ((cI d 143 [.ref l0] p5.2).bind fun p7 => if (mS p7.2 l0).1 = 9 ∧ l0 < 999999 then ((cI d 143 [.ref l0] p7.2).bind fun p9 => if (mS p9.2 l0).1 = 9 ∧ l0 < 999999 then ((cI d 143 [.ref l0] p9.2).bind fun p11 => if (mS p11.2 l0).1 = 9 ∧ l0 < 999999 then ((cV d 145 [.ref l0, .int (p5.1 - p5.1 / 6 * 6), .int (p7.1 - p7.1 / 20 * 20), .int (p9.1 - p9.1 / 11 * 11), .int (p11.1 - p11.1 / 3 * 3)] p11.2).bind fun p13 => Rn (d + 1) 168 (17, [.ref l0, .int x1, .int (x2 + 1), .int (p5.1 - p5.1 / 6 * 6), .int (p7.1 - p7.1 / 20 * 20), .int (p9.1 - p9.1 / 11 * 11)], [], p13)) else none) else none) else none) else none) else none)) else none) :=
  (e_nx f_168_17 rfl).trans ((e_nx f_168_18 rfl).trans ((e_ge f_168_19 rfl).trans (b_congr (fun h1 => (e_nx f_168_80 rfl).trans (e_rt f_168_81 rfl)) (fun h1 => (e_nx f_168_22 rfl).trans ((e_gd f_168_23 rfl).trans (g_congr (Iff.rfl) (fun h2 => (e_nx (q := (_, _, .int 0 :: _, _)) f_168_26 rfl).trans ((e_ia (L := [.ref l0, .int x1, .int x2, w3, w4, w5]) (r := []) (μ := μ) f_168_27).trans (m_congr fun v3 => (e_nx (q := (_, _, .int 10 :: _, _)) f_168_28 rfl).trans ((e_ge f_168_30 rfl).trans (b_congr (fun h4 => (e_nx f_168_80 rfl).trans (e_rt f_168_81 rfl)) (fun h4 => (e_nx f_168_33 rfl).trans ((e_gI (L := [.ref l0, .int x1, .int x2, w3, w4, w5]) (st := [.ref l0]) (μ := μ) (L' := [.ref l0, .int x1, .int x2, w3, w4, w5]) (st' := []) f_168_34 rfl rfl).trans (g_congr (v_c2 rfl (Nat.le_of_ble_eq_true rfl)) (fun h6 => m_congr fun p5 => (e_nx (q := (_, _, .int 6 :: _, _)) f_168_37 rfl).trans ((e_nx f_168_39 rfl).trans ((e_nx (q := (_, [.ref l0, .int x1, .int x2, .int (p5.1 - p5.1 / 6 * 6), w4, w5], _, _)) f_168_40 rfl).trans ((e_nx f_168_41 rfl).trans ((e_gI (L := [.ref l0, .int x1, .int x2, .int (p5.1 - p5.1 / 6 * 6), w4, w5]) (st := [.ref l0]) (μ := p5.2) (L' := [.ref l0, .int x1, .int x2, .int (p5.1 - p5.1 / 6 * 6), w4, w5]) (st' := []) f_168_42 rfl rfl).trans (g_congr (v_c2 rfl (Nat.le_of_ble_eq_true rfl)) (fun h8 => m_congr fun p7 => (e_nx (q := (_, _, .int 20 :: _, _)) f_168_45 rfl).trans ((e_nx f_168_47 rfl).trans ((e_nx (q := (_, [.ref l0, .int x1, .int x2, .int (p5.1 - p5.1 / 6 * 6), .int (p7.1 - p7.1 / 20 * 20), w5], _, _)) f_168_48 rfl).trans ((e_nx f_168_50 rfl).trans ((e_gI (L := [.ref l0, .int x1, .int x2, .int (p5.1 - p5.1 / 6 * 6), .int (p7.1 - p7.1 / 20 * 20), w5]) (st := [.ref l0]) (μ := p7.2) (L' := [.ref l0, .int x1, .int x2, .int (p5.1 - p5.1 / 6 * 6), .int (p7.1 - p7.1 / 20 * 20), w5]) (st' := []) f_168_51 rfl rfl).trans (g_congr (v_c2 rfl (Nat.le_of_ble_eq_true rfl)) (fun h10 => m_congr fun p9 => (e_nx (q := (_, _, .int 11 :: _, _)) f_168_54 rfl).trans ((e_nx f_168_56 rfl).trans ((e_nx (q := (_, [.ref l0, .int x1, .int x2, .int (p5.1 - p5.1 / 6 * 6), .int (p7.1 - p7.1 / 20 * 20), .int (p9.1 - p9.1 / 11 * 11)], _, _)) f_168_57 rfl).trans ((e_nx f_168_59 rfl).trans ((e_nx f_168_60 rfl).trans ((e_nx f_168_61 rfl).trans ((e_nx f_168_63 rfl).trans ((e_nx f_168_65 rfl).trans ((e_gI (L := [.ref l0, .int x1, .int x2, .int (p5.1 - p5.1 / 6 * 6), .int (p7.1 - p7.1 / 20 * 20), .int (p9.1 - p9.1 / 11 * 11)]) (st := [.ref l0, .int (p9.1 - p9.1 / 11 * 11), .int (p7.1 - p7.1 / 20 * 20), .int (p5.1 - p5.1 / 6 * 6), .ref l0]) (μ := p9.2) (L' := [.ref l0, .int x1, .int x2, .int (p5.1 - p5.1 / 6 * 6), .int (p7.1 - p7.1 / 20 * 20), .int (p9.1 - p9.1 / 11 * 11)]) (st' := [.int (p9.1 - p9.1 / 11 * 11), .int (p7.1 - p7.1 / 20 * 20), .int (p5.1 - p5.1 / 6 * 6), .ref l0]) f_168_66 rfl rfl).trans (g_congr (v_c2 rfl (Nat.le_of_ble_eq_true rfl)) (fun h12 => m_congr fun p11 => (e_nx (q := (_, _, .int 3 :: _, _)) f_168_69 rfl).trans ((e_nx f_168_70 rfl).trans ((e_gV (L := [.ref l0, .int x1, .int x2, .int (p5.1 - p5.1 / 6 * 6), .int (p7.1 - p7.1 / 20 * 20), .int (p9.1 - p9.1 / 11 * 11)]) (st := [.int (p11.1 - p11.1 / 3 * 3), .int (p9.1 - p9.1 / 11 * 11), .int (p7.1 - p7.1 / 20 * 20), .int (p5.1 - p5.1 / 6 * 6), .ref l0]) (μ := p11.2) (L' := [.ref l0, .int x1, .int x2, .int (p5.1 - p5.1 / 6 * 6), .int (p7.1 - p7.1 / 20 * 20), .int (p9.1 - p9.1 / 11 * 11)]) (st' := []) f_168_71 rfl rfl).trans (g_congr (v_c2 rfl (Nat.le_of_ble_eq_true rfl)) (fun h14 => m_congr fun p13 => (e_nx (q := (_, [.ref l0, .int x1, .int (x2 + 1), .int (p5.1 - p5.1 / 6 * 6), .int (p7.1 - p7.1 / 20 * 20), .int (p9.1 - p9.1 / 11 * 11)], _, _)) f_168_74 rfl).trans (e_nx f_168_77 rfl))))))))))))))))))))))))))))))))))))))))))
theorem pg_169 (pc : Nat) : fe0 169 pc = lk prg_169 pc := rfl
theorem f_169_0 : fe0 169 0 = some (.aload_n 0, 1, 0, 0, 0, 0, 0) := (pg_169 0).trans rfl
theorem f_169_1 : fe0 169 1 = some (.iconst 3, 1, 0, 0, 0, 0, 0) := (pg_169 1).trans rfl
theorem f_169_2 : fe0 169 2 = some (.iload_n 1, 1, 0, 0, 0, 0, 0) := (pg_169 2).trans rfl
theorem f_169_3 : fe0 169 3 = some (.invokevirtual 167, 3, 137, 2, 0, 9, 6009) := (pg_169 3).trans rfl
theorem f_169_6 : fe0 169 6 = some (.ireturn, 1, 0, 0, 0, 0, 0) := (pg_169 6).trans rfl
theorem q_169_0 (d : Nat) (l0 : Nat) (x1 : Int32) (μ : aMem) : Rn (d + 1) 169 (0, [.ref l0, .int x1], [], μ) = if (mS μ l0).1 = 9 ∧ l0 < 999999 then ((cI d 137 [.ref l0, .int 3, .int x1] μ).bind fun p1 => some (some (.int p1.1), p1.2)) else none :=
  (e_nx f_169_0 rfl).trans ((e_nx (q := (_, _, .int 3 :: _, _)) f_169_1 rfl).trans ((e_nx f_169_2 rfl).trans ((e_gI (L := [.ref l0, .int x1]) (st := [.int x1, .int 3, .ref l0]) (μ := μ) (L' := [.ref l0, .int x1]) (st' := []) f_169_3 rfl rfl).trans (g_congr (v_c2 rfl (Nat.le_of_ble_eq_true rfl)) (fun h2 => m_congr fun p1 => e_rt f_169_6 rfl)))))
theorem pg_170 (pc : Nat) : fe0 170 pc = lk prg_170 pc := rfl
theorem f_170_0 : fe0 170 0 = some (.iconst 0, 1, 0, 0, 0, 0, 0) := (pg_170 0).trans rfl
theorem f_170_1 : fe0 170 1 = some (.istore_n 1, 1, 0, 0, 0, 0, 0) := (pg_170 1).trans rfl
theorem f_170_2 : fe0 170 2 = some (.iconst 0, 1, 0, 0, 0, 0, 0) := (pg_170 2).trans rfl
theorem f_170_3 : fe0 170 3 = some (.istore_n 2, 1, 0, 0, 0, 0, 0) := (pg_170 3).trans rfl
theorem f_170_4 : fe0 170 4 = some (.iload_n 2, 1, 0, 0, 0, 0, 0) := (pg_170 4).trans rfl
theorem f_170_5 : fe0 170 5 = some (.aload_n 0, 1, 0, 0, 0, 0, 0) := (pg_170 5).trans rfl
theorem f_170_6 : fe0 170 6 = some (.getfield 7, 3, 9, 0, 1, 0, 5024) := (pg_170 6).trans rfl
theorem f_170_9 : fe0 170 9 = some (.iconst 0, 1, 0, 0, 0, 0, 0) := (pg_170 9).trans rfl
theorem f_170_10 : fe0 170 10 = some (.iaload, 1, 0, 0, 0, 0, 0) := (pg_170 10).trans rfl
theorem f_170_11 : fe0 170 11 = some (.if_icmp .ge 17, 3, 0, 0, 0, 0, 0) := (pg_170 11).trans rfl
theorem f_170_14 : fe0 170 14 = some (.iload_n 1, 1, 0, 0, 0, 0, 0) := (pg_170 14).trans rfl
theorem f_170_15 : fe0 170 15 = some (.aload_n 0, 1, 0, 0, 0, 0, 0) := (pg_170 15).trans rfl
theorem f_170_16 : fe0 170 16 = some (.iload_n 2, 1, 0, 0, 0, 0, 0) := (pg_170 16).trans rfl
theorem f_170_17 : fe0 170 17 = some (.invokevirtual 134, 3, 149, 1, 0, 9, 5170) := (pg_170 17).trans rfl
theorem f_170_20 : fe0 170 20 = some (.iadd, 1, 0, 0, 0, 0, 0) := (pg_170 20).trans rfl
theorem f_170_21 : fe0 170 21 = some (.istore_n 1, 1, 0, 0, 0, 0, 0) := (pg_170 21).trans rfl
theorem f_170_22 : fe0 170 22 = some (.iinc 2 1, 3, 0, 0, 0, 0, 0) := (pg_170 22).trans rfl
theorem f_170_25 : fe0 170 25 = some (.goto (-21), 3, 0, 0, 0, 0, 0) := (pg_170 25).trans rfl
theorem f_170_28 : fe0 170 28 = some (.iload_n 1, 1, 0, 0, 0, 0, 0) := (pg_170 28).trans rfl
theorem f_170_29 : fe0 170 29 = some (.ireturn, 1, 0, 0, 0, 0, 0) := (pg_170 29).trans rfl
theorem q_170_0 (d : Nat) (l0 : Nat) (μ : aMem) : Rn (d + 1) 170 (0, [.ref l0, un, un], [], μ) = Rn (d + 1) 170 (4, [.ref l0, .int 0, .int 0], [], μ) :=
  (e_nx (q := (_, _, .int 0 :: _, _)) f_170_0 rfl).trans ((e_nx (q := (_, [.ref l0, .int 0, un], _, _)) f_170_1 rfl).trans ((e_nx (q := (_, _, .int 0 :: _, _)) f_170_2 rfl).trans (e_nx (q := (_, [.ref l0, .int 0, .int 0], _, _)) f_170_3 rfl)))
theorem q_170_4 (d : Nat) (l0 : Nat) (x1 : Int32) (x2 : Int32) (μ : aMem) : Rn (d + 1) 170 (4, [.ref l0, .int x1, .int x2], [], μ) = if (mS μ l0).1 = 9 then ((rdI μ (mR μ l0 0) 0).bind fun v2 => if v2 ≤ x2 then (some (some (.int x1), μ)) else (if (mS μ l0).1 = 9 ∧ l0 < 999999 then ((cI d 149 [.ref l0, .int x2] μ).bind fun p4 => Rn (d + 1) 170 (4, [.ref l0, .int (x1 + p4.1), .int (x2 + 1)], [], p4.2)) else none)) else none :=
  (e_nx f_170_4 rfl).trans ((e_nx f_170_5 rfl).trans ((e_gd f_170_6 rfl).trans (g_congr (Iff.rfl) (fun h1 => (e_nx (q := (_, _, .int 0 :: _, _)) f_170_9 rfl).trans ((e_ia (L := [.ref l0, .int x1, .int x2]) (r := [.int x2]) (μ := μ) f_170_10).trans (m_congr fun v2 => (e_ge f_170_11 rfl).trans (b_congr (fun h3 => (e_nx f_170_28 rfl).trans (e_rt f_170_29 rfl)) (fun h3 => (e_nx f_170_14 rfl).trans ((e_nx f_170_15 rfl).trans ((e_nx f_170_16 rfl).trans ((e_gI (L := [.ref l0, .int x1, .int x2]) (st := [.int x2, .ref l0, .int x1]) (μ := μ) (L' := [.ref l0, .int x1, .int x2]) (st' := [.int x1]) f_170_17 rfl rfl).trans (g_congr (v_c2 rfl (Nat.le_of_ble_eq_true rfl)) (fun h5 => m_congr fun p4 => (e_nx f_170_20 rfl).trans ((e_nx (q := (_, [.ref l0, .int (x1 + p4.1), .int x2], _, _)) f_170_21 rfl).trans ((e_nx (q := (_, [.ref l0, .int (x1 + p4.1), .int (x2 + 1)], _, _)) f_170_22 rfl).trans (e_nx f_170_25 rfl))))))))))))))))
theorem pg_171 (pc : Nat) : fe0 171 pc = lk prg_171 pc := rfl
theorem f_171_0 : fe0 171 0 = some (.aload_n 0, 1, 0, 0, 0, 0, 0) := (pg_171 0).trans rfl
theorem f_171_1 : fe0 171 1 = some (.invokevirtual 147, 3, 155, 0, 0, 9, 5214) := (pg_171 1).trans rfl
theorem f_171_4 : fe0 171 4 = some (.ireturn, 1, 0, 0, 0, 0, 0) := (pg_171 4).trans rfl
theorem q_171_0 (d : Nat) (l0 : Nat) (μ : aMem) : Rn (d + 1) 171 (0, [.ref l0], [], μ) = if (mS μ l0).1 = 9 ∧ l0 < 999999 then ((cI d 155 [.ref l0] μ).bind fun p1 => some (some (.int p1.1), p1.2)) else none :=
  (e_nx f_171_0 rfl).trans ((e_gI (L := [.ref l0]) (st := [.ref l0]) (μ := μ) (L' := [.ref l0]) (st' := []) f_171_1 rfl rfl).trans (g_congr (v_c2 rfl (Nat.le_of_ble_eq_true rfl)) (fun h2 => m_congr fun p1 => e_rt f_171_4 rfl)))
theorem pg_172 (pc : Nat) : fe0 172 pc = lk prg_172 pc := rfl
theorem f_172_0 : fe0 172 0 = some (.aload_n 0, 1, 0, 0, 0, 0, 0) := (pg_172 0).trans rfl
theorem f_172_1 : fe0 172 1 = some (.invokevirtual 156, 3, 156, 0, 0, 9, 5210) := (pg_172 1).trans rfl
theorem f_172_4 : fe0 172 4 = some (.iconst 0, 1, 0, 0, 0, 0, 0) := (pg_172 4).trans rfl
theorem f_172_5 : fe0 172 5 = some (.istore_n 1, 1, 0, 0, 0, 0, 0) := (pg_172 5).trans rfl
theorem f_172_6 : fe0 172 6 = some (.iconst 0, 1, 0, 0, 0, 0, 0) := (pg_172 6).trans rfl
theorem f_172_7 : fe0 172 7 = some (.istore_n 2, 1, 0, 0, 0, 0, 0) := (pg_172 7).trans rfl
theorem f_172_8 : fe0 172 8 = some (.iload_n 2, 1, 0, 0, 0, 0, 0) := (pg_172 8).trans rfl
theorem f_172_9 : fe0 172 9 = some (.aload_n 0, 1, 0, 0, 0, 0, 0) := (pg_172 9).trans rfl
theorem f_172_10 : fe0 172 10 = some (.getfield 7, 3, 9, 0, 1, 0, 5024) := (pg_172 10).trans rfl
theorem f_172_13 : fe0 172 13 = some (.iconst 0, 1, 0, 0, 0, 0, 0) := (pg_172 13).trans rfl
theorem f_172_14 : fe0 172 14 = some (.iaload, 1, 0, 0, 0, 0, 0) := (pg_172 14).trans rfl
theorem f_172_15 : fe0 172 15 = some (.if_icmp .ge 27, 3, 0, 0, 0, 0, 0) := (pg_172 15).trans rfl
theorem f_172_18 : fe0 172 18 = some (.iload_n 1, 1, 0, 0, 0, 0, 0) := (pg_172 18).trans rfl
theorem f_172_19 : fe0 172 19 = some (.aload_n 0, 1, 0, 0, 0, 0, 0) := (pg_172 19).trans rfl
theorem f_172_20 : fe0 172 20 = some (.iload_n 2, 1, 0, 0, 0, 0, 0) := (pg_172 20).trans rfl
theorem f_172_21 : fe0 172 21 = some (.invokevirtual 159, 3, 157, 1, 0, 9, 5233) := (pg_172 21).trans rfl
theorem f_172_24 : fe0 172 24 = some (.ifCond .ne 9, 3, 0, 0, 0, 0, 0) := (pg_172 24).trans rfl
theorem f_172_27 : fe0 172 27 = some (.iconst 1, 1, 0, 0, 0, 0, 0) := (pg_172 27).trans rfl
theorem f_172_28 : fe0 172 28 = some (.iload_n 2, 1, 0, 0, 0, 0, 0) := (pg_172 28).trans rfl
theorem f_172_29 : fe0 172 29 = some (.ishl, 1, 0, 0, 0, 0, 0) := (pg_172 29).trans rfl
theorem f_172_30 : fe0 172 30 = some (.goto 4, 3, 0, 0, 0, 0, 0) := (pg_172 30).trans rfl
theorem f_172_33 : fe0 172 33 = some (.iconst 0, 1, 0, 0, 0, 0, 0) := (pg_172 33).trans rfl
theorem f_172_34 : fe0 172 34 = some (.ior, 1, 0, 0, 0, 0, 0) := (pg_172 34).trans rfl
theorem f_172_35 : fe0 172 35 = some (.istore_n 1, 1, 0, 0, 0, 0, 0) := (pg_172 35).trans rfl
theorem f_172_36 : fe0 172 36 = some (.iinc 2 1, 3, 0, 0, 0, 0, 0) := (pg_172 36).trans rfl
theorem f_172_39 : fe0 172 39 = some (.goto (-31), 3, 0, 0, 0, 0, 0) := (pg_172 39).trans rfl
theorem f_172_42 : fe0 172 42 = some (.iload_n 1, 1, 0, 0, 0, 0, 0) := (pg_172 42).trans rfl
theorem f_172_43 : fe0 172 43 = some (.ireturn, 1, 0, 0, 0, 0, 0) := (pg_172 43).trans rfl
theorem q_172_0 (d : Nat) (l0 : Nat) (μ : aMem) : Rn (d + 1) 172 (0, [.ref l0, un, un], [], μ) = if (mS μ l0).1 = 9 ∧ l0 < 999999 then ((cV d 156 [.ref l0] μ).bind fun p1 => Rn (d + 1) 172 (8, [.ref l0, .int 0, .int 0], [], p1)) else none :=
  (e_nx f_172_0 rfl).trans ((e_gV (L := [.ref l0, un, un]) (st := [.ref l0]) (μ := μ) (L' := [.ref l0, un, un]) (st' := []) f_172_1 rfl rfl).trans (g_congr (v_c2 rfl (Nat.le_of_ble_eq_true rfl)) (fun h2 => m_congr fun p1 => (e_nx (q := (_, _, .int 0 :: _, _)) f_172_4 rfl).trans ((e_nx (q := (_, [.ref l0, .int 0, un], _, _)) f_172_5 rfl).trans ((e_nx (q := (_, _, .int 0 :: _, _)) f_172_6 rfl).trans (e_nx (q := (_, [.ref l0, .int 0, .int 0], _, _)) f_172_7 rfl))))))
theorem q_172_8 (d : Nat) (l0 : Nat) (x1 : Int32) (x2 : Int32) (μ : aMem) : Rn (d + 1) 172 (8, [.ref l0, .int x1, .int x2], [], μ) = if (mS μ l0).1 = 9 then ((rdI μ (mR μ l0 0) 0).bind fun v2 => if v2 ≤ x2 then (some (some (.int x1), μ)) else (if (mS μ l0).1 = 9 ∧ l0 < 999999 then ((cI d 157 [.ref l0, .int x2] μ).bind fun p4 => if p4.1 = 0 then (Rn (d + 1) 172 (8, [.ref l0, .int (x1 ||| (1 <<< (x2 &&& 31))), .int (x2 + 1)], [], p4.2)) else (Rn (d + 1) 172 (8, [.ref l0, .int (x1 ||| 0), .int (x2 + 1)], [], p4.2))) else none)) else none :=
  (e_nx f_172_8 rfl).trans ((e_nx f_172_9 rfl).trans ((e_gd f_172_10 rfl).trans (g_congr (Iff.rfl) (fun h1 => (e_nx (q := (_, _, .int 0 :: _, _)) f_172_13 rfl).trans ((e_ia (L := [.ref l0, .int x1, .int x2]) (r := [.int x2]) (μ := μ) f_172_14).trans (m_congr fun v2 => (e_ge f_172_15 rfl).trans (b_congr (fun h3 => (e_nx f_172_42 rfl).trans (e_rt f_172_43 rfl)) (fun h3 => (e_nx f_172_18 rfl).trans ((e_nx f_172_19 rfl).trans ((e_nx f_172_20 rfl).trans ((e_gI (L := [.ref l0, .int x1, .int x2]) (st := [.int x2, .ref l0, .int x1]) (μ := μ) (L' := [.ref l0, .int x1, .int x2]) (st' := [.int x1]) f_172_21 rfl rfl).trans (g_congr (v_c2 rfl (Nat.le_of_ble_eq_true rfl)) (fun h5 => m_congr fun p4 => (e_ne f_172_24 rfl).trans (b_congr (fun h6 => (e_nx (q := (_, _, .int 1 :: _, _)) f_172_27 rfl).trans ((e_nx f_172_28 rfl).trans ((e_nx f_172_29 rfl).trans ((e_nx f_172_30 rfl).trans ((e_nx f_172_34 rfl).trans ((e_nx (q := (_, [.ref l0, .int (x1 ||| (1 <<< (x2 &&& 31))), .int x2], _, _)) f_172_35 rfl).trans ((e_nx (q := (_, [.ref l0, .int (x1 ||| (1 <<< (x2 &&& 31))), .int (x2 + 1)], _, _)) f_172_36 rfl).trans (e_nx f_172_39 rfl)))))))) (fun h6 => (e_nx (q := (_, _, .int 0 :: _, _)) f_172_33 rfl).trans ((e_nx f_172_34 rfl).trans ((e_nx (q := (_, [.ref l0, .int (x1 ||| 0), .int x2], _, _)) f_172_35 rfl).trans ((e_nx (q := (_, [.ref l0, .int (x1 ||| 0), .int (x2 + 1)], _, _)) f_172_36 rfl).trans (e_nx f_172_39 rfl)))))))))))))))))))
theorem pg_173 (pc : Nat) : fe0 173 pc = lk prg_173 pc := rfl
theorem f_173_0 : fe0 173 0 = some (.aload_n 0, 1, 0, 0, 0, 0, 0) := (pg_173 0).trans rfl
theorem f_173_1 : fe0 173 1 = some (.invokevirtual 185, 3, 172, 0, 0, 9, 6067) := (pg_173 1).trans rfl
theorem f_173_4 : fe0 173 4 = some (.ireturn, 1, 0, 0, 0, 0, 0) := (pg_173 4).trans rfl
theorem q_173_0 (d : Nat) (l0 : Nat) (μ : aMem) : Rn (d + 1) 173 (0, [.ref l0], [], μ) = if (mS μ l0).1 = 9 ∧ l0 < 999999 then ((cI d 172 [.ref l0] μ).bind fun p1 => some (some (.int p1.1), p1.2)) else none :=
  (e_nx f_173_0 rfl).trans ((e_gI (L := [.ref l0]) (st := [.ref l0]) (μ := μ) (L' := [.ref l0]) (st' := []) f_173_1 rfl rfl).trans (g_congr (v_c2 rfl (Nat.le_of_ble_eq_true rfl)) (fun h2 => m_congr fun p1 => e_rt f_173_4 rfl)))
theorem pg_174 (pc : Nat) : fe0 174 pc = lk prg_174 pc := rfl
theorem f_174_0 : fe0 174 0 = some (.iload_n 3, 1, 0, 0, 0, 0, 0) := (pg_174 0).trans rfl
theorem f_174_1 : fe0 174 1 = some (.istore 4, 2, 0, 0, 0, 0, 0) := (pg_174 1).trans rfl
theorem f_174_3 : fe0 174 3 = some (.iconst (-1), 1, 0, 0, 0, 0, 0) := (pg_174 3).trans rfl
theorem f_174_4 : fe0 174 4 = some (.istore 5, 2, 0, 0, 0, 0, 0) := (pg_174 4).trans rfl
theorem f_174_6 : fe0 174 6 = some (.iload 5, 2, 0, 0, 0, 0, 0) := (pg_174 6).trans rfl
theorem f_174_8 : fe0 174 8 = some (.iload 4, 2, 0, 0, 0, 0, 0) := (pg_174 8).trans rfl
theorem f_174_10 : fe0 174 10 = some (.if_icmp .eq 122, 3, 0, 0, 0, 0, 0) := (pg_174 10).trans rfl
theorem f_174_13 : fe0 174 13 = some (.iload 4, 2, 0, 0, 0, 0, 0) := (pg_174 13).trans rfl
theorem f_174_15 : fe0 174 15 = some (.istore 5, 2, 0, 0, 0, 0, 0) := (pg_174 15).trans rfl
theorem f_174_17 : fe0 174 17 = some (.iconst 0, 1, 0, 0, 0, 0, 0) := (pg_174 17).trans rfl
theorem f_174_18 : fe0 174 18 = some (.istore 6, 2, 0, 0, 0, 0, 0) := (pg_174 18).trans rfl
theorem f_174_20 : fe0 174 20 = some (.iload 6, 2, 0, 0, 0, 0, 0) := (pg_174 20).trans rfl
theorem f_174_22 : fe0 174 22 = some (.aload_n 0, 1, 0, 0, 0, 0, 0) := (pg_174 22).trans rfl
theorem f_174_23 : fe0 174 23 = some (.getfield 7, 3, 9, 0, 1, 0, 5024) := (pg_174 23).trans rfl
theorem f_174_26 : fe0 174 26 = some (.iconst 0, 1, 0, 0, 0, 0, 0) := (pg_174 26).trans rfl
theorem f_174_27 : fe0 174 27 = some (.iaload, 1, 0, 0, 0, 0, 0) := (pg_174 27).trans rfl
theorem f_174_28 : fe0 174 28 = some (.if_icmp .ge 101, 3, 0, 0, 0, 0, 0) := (pg_174 28).trans rfl
theorem f_174_31 : fe0 174 31 = some (.iload_n 2, 1, 0, 0, 0, 0, 0) := (pg_174 31).trans rfl
theorem f_174_32 : fe0 174 32 = some (.iload 6, 2, 0, 0, 0, 0, 0) := (pg_174 32).trans rfl
theorem f_174_34 : fe0 174 34 = some (.ishr, 1, 0, 0, 0, 0, 0) := (pg_174 34).trans rfl
theorem f_174_35 : fe0 174 35 = some (.iconst 1, 1, 0, 0, 0, 0, 0) := (pg_174 35).trans rfl
theorem f_174_36 : fe0 174 36 = some (.iand, 1, 0, 0, 0, 0, 0) := (pg_174 36).trans rfl
theorem f_174_37 : fe0 174 37 = some (.iconst 1, 1, 0, 0, 0, 0, 0) := (pg_174 37).trans rfl
theorem f_174_38 : fe0 174 38 = some (.if_icmp .ne 18, 3, 0, 0, 0, 0, 0) := (pg_174 38).trans rfl
theorem f_174_41 : fe0 174 41 = some (.aload_n 0, 1, 0, 0, 0, 0, 0) := (pg_174 41).trans rfl
theorem f_174_42 : fe0 174 42 = some (.getfield 55, 3, 9, 16, 1, 0, 5040) := (pg_174 42).trans rfl
theorem f_174_45 : fe0 174 45 = some (.iload 6, 2, 0, 0, 0, 0, 0) := (pg_174 45).trans rfl
theorem f_174_47 : fe0 174 47 = some (.iaload, 1, 0, 0, 0, 0, 0) := (pg_174 47).trans rfl
theorem f_174_48 : fe0 174 48 = some (.iload_n 1, 1, 0, 0, 0, 0, 0) := (pg_174 48).trans rfl
theorem f_174_49 : fe0 174 49 = some (.if_icmp .gt 7, 3, 0, 0, 0, 0, 0) := (pg_174 49).trans rfl
theorem f_174_52 : fe0 174 52 = some (.iconst 1, 1, 0, 0, 0, 0, 0) := (pg_174 52).trans rfl
theorem f_174_53 : fe0 174 53 = some (.goto 4, 3, 0, 0, 0, 0, 0) := (pg_174 53).trans rfl
theorem f_174_56 : fe0 174 56 = some (.iconst 0, 1, 0, 0, 0, 0, 0) := (pg_174 56).trans rfl
theorem f_174_57 : fe0 174 57 = some (.istore 7, 2, 0, 0, 0, 0, 0) := (pg_174 57).trans rfl
theorem f_174_59 : fe0 174 59 = some (.iload_n 2, 1, 0, 0, 0, 0, 0) := (pg_174 59).trans rfl
theorem f_174_60 : fe0 174 60 = some (.iload 6, 2, 0, 0, 0, 0, 0) := (pg_174 60).trans rfl
theorem f_174_62 : fe0 174 62 = some (.ishr, 1, 0, 0, 0, 0, 0) := (pg_174 62).trans rfl
theorem f_174_63 : fe0 174 63 = some (.iconst 1, 1, 0, 0, 0, 0, 0) := (pg_174 63).trans rfl
theorem f_174_64 : fe0 174 64 = some (.iand, 1, 0, 0, 0, 0, 0) := (pg_174 64).trans rfl
theorem f_174_65 : fe0 174 65 = some (.ifCond .ne 32, 3, 0, 0, 0, 0, 0) := (pg_174 65).trans rfl
theorem f_174_68 : fe0 174 68 = some (.aload_n 0, 1, 0, 0, 0, 0, 0) := (pg_174 68).trans rfl
theorem f_174_69 : fe0 174 69 = some (.getfield 43, 3, 9, 12, 1, 0, 5036) := (pg_174 69).trans rfl
theorem f_174_72 : fe0 174 72 = some (.iload 6, 2, 0, 0, 0, 0, 0) := (pg_174 72).trans rfl
theorem f_174_74 : fe0 174 74 = some (.iaload, 1, 0, 0, 0, 0, 0) := (pg_174 74).trans rfl
theorem f_174_75 : fe0 174 75 = some (.ifCond .ne 22, 3, 0, 0, 0, 0, 0) := (pg_174 75).trans rfl
theorem f_174_78 : fe0 174 78 = some (.aload_n 0, 1, 0, 0, 0, 0, 0) := (pg_174 78).trans rfl
theorem f_174_79 : fe0 174 79 = some (.iload 6, 2, 0, 0, 0, 0, 0) := (pg_174 79).trans rfl
theorem f_174_81 : fe0 174 81 = some (.iconst 4, 1, 0, 0, 0, 0, 0) := (pg_174 81).trans rfl
theorem f_174_82 : fe0 174 82 = some (.invokevirtual 105, 3, 139, 2, 0, 9, 5166) := (pg_174 82).trans rfl
theorem f_174_85 : fe0 174 85 = some (.iload 4, 2, 0, 0, 0, 0, 0) := (pg_174 85).trans rfl
theorem f_174_87 : fe0 174 87 = some (.iconst (-1), 1, 0, 0, 0, 0, 0) := (pg_174 87).trans rfl
theorem f_174_88 : fe0 174 88 = some (.ixor, 1, 0, 0, 0, 0, 0) := (pg_174 88).trans rfl
theorem f_174_89 : fe0 174 89 = some (.iand, 1, 0, 0, 0, 0, 0) := (pg_174 89).trans rfl
theorem f_174_90 : fe0 174 90 = some (.ifCond .ne 7, 3, 0, 0, 0, 0, 0) := (pg_174 90).trans rfl
theorem f_174_93 : fe0 174 93 = some (.iconst 1, 1, 0, 0, 0, 0, 0) := (pg_174 93).trans rfl
theorem f_174_94 : fe0 174 94 = some (.goto 4, 3, 0, 0, 0, 0, 0) := (pg_174 94).trans rfl
theorem f_174_97 : fe0 174 97 = some (.iconst 0, 1, 0, 0, 0, 0, 0) := (pg_174 97).trans rfl
theorem f_174_98 : fe0 174 98 = some (.istore 8, 2, 0, 0, 0, 0, 0) := (pg_174 98).trans rfl
theorem f_174_100 : fe0 174 100 = some (.iload 4, 2, 0, 0, 0, 0, 0) := (pg_174 100).trans rfl
theorem f_174_102 : fe0 174 102 = some (.iload 7, 2, 0, 0, 0, 0, 0) := (pg_174 102).trans rfl
theorem f_174_104 : fe0 174 104 = some (.ifCond .ne 8, 3, 0, 0, 0, 0, 0) := (pg_174 104).trans rfl
theorem f_174_107 : fe0 174 107 = some (.iload 8, 2, 0, 0, 0, 0, 0) := (pg_174 107).trans rfl
theorem f_174_109 : fe0 174 109 = some (.ifCond .eq 10, 3, 0, 0, 0, 0, 0) := (pg_174 109).trans rfl
theorem f_174_112 : fe0 174 112 = some (.iconst 1, 1, 0, 0, 0, 0, 0) := (pg_174 112).trans rfl
theorem f_174_113 : fe0 174 113 = some (.iload 6, 2, 0, 0, 0, 0, 0) := (pg_174 113).trans rfl
theorem f_174_115 : fe0 174 115 = some (.ishl, 1, 0, 0, 0, 0, 0) := (pg_174 115).trans rfl
theorem f_174_116 : fe0 174 116 = some (.goto 4, 3, 0, 0, 0, 0, 0) := (pg_174 116).trans rfl
theorem f_174_119 : fe0 174 119 = some (.iconst 0, 1, 0, 0, 0, 0, 0) := (pg_174 119).trans rfl
theorem f_174_120 : fe0 174 120 = some (.ior, 1, 0, 0, 0, 0, 0) := (pg_174 120).trans rfl
theorem f_174_121 : fe0 174 121 = some (.istore 4, 2, 0, 0, 0, 0, 0) := (pg_174 121).trans rfl
theorem f_174_123 : fe0 174 123 = some (.iinc 6 1, 3, 0, 0, 0, 0, 0) := (pg_174 123).trans rfl
theorem f_174_126 : fe0 174 126 = some (.goto (-106), 3, 0, 0, 0, 0, 0) := (pg_174 126).trans rfl
theorem f_174_129 : fe0 174 129 = some (.goto (-123), 3, 0, 0, 0, 0, 0) := (pg_174 129).trans rfl
theorem f_174_132 : fe0 174 132 = some (.iload 4, 2, 0, 0, 0, 0, 0) := (pg_174 132).trans rfl
theorem f_174_134 : fe0 174 134 = some (.ireturn, 1, 0, 0, 0, 0, 0) := (pg_174 134).trans rfl
theorem q_174_0 (d : Nat) (l0 : Nat) (x1 : Int32) (x2 : Int32) (x3 : Int32) (μ : aMem) : Rn (d + 1) 174 (0, [.ref l0, .int x1, .int x2, .int x3, un, un, un, un, un], [], μ) = Rn (d + 1) 174 (6, [.ref l0, .int x1, .int x2, .int x3, .int x3, .int (-1), un, un, un], [], μ) :=
  (e_nx f_174_0 rfl).trans ((e_nx (q := (_, [.ref l0, .int x1, .int x2, .int x3, .int x3, un, un, un, un], _, _)) f_174_1 rfl).trans ((e_nx (q := (_, _, .int (-1) :: _, _)) f_174_3 rfl).trans (e_nx (q := (_, [.ref l0, .int x1, .int x2, .int x3, .int x3, .int (-1), un, un, un], _, _)) f_174_4 rfl)))
theorem q_174_6 (d : Nat) (l0 : Nat) (x1 : Int32) (x2 : Int32) (x3 : Int32) (x4 : Int32) (x5 : Int32) (w6 : Value) (w7 : Value) (w8 : Value) (μ : aMem) : Rn (d + 1) 174 (6, [.ref l0, .int x1, .int x2, .int x3, .int x4, .int x5, w6, w7, w8], [], μ) = if x5 = x4 then (some (some (.int x4), μ)) else (Rn (d + 1) 174 (20, [.ref l0, .int x1, .int x2, .int x3, .int x4, .int x4, .int 0, w7, w8], [], μ)) :=
  (e_nx f_174_6 rfl).trans ((e_nx f_174_8 rfl).trans ((e_eq f_174_10 rfl).trans (b_congr (fun h1 => (e_nx f_174_132 rfl).trans (e_rt f_174_134 rfl)) (fun h1 => (e_nx f_174_13 rfl).trans ((e_nx (q := (_, [.ref l0, .int x1, .int x2, .int x3, .int x4, .int x4, w6, w7, w8], _, _)) f_174_15 rfl).trans ((e_nx (q := (_, _, .int 0 :: _, _)) f_174_17 rfl).trans (e_nx (q := (_, [.ref l0, .int x1, .int x2, .int x3, .int x4, .int x4, .int 0, w7, w8], _, _)) f_174_18 rfl)))))))
theorem q_174_20 (d : Nat) (l0 : Nat) (x1 : Int32) (x2 : Int32) (x3 : Int32) (x4 : Int32) (x5 : Int32) (x6 : Int32) (w7 : Value) (w8 : Value) (μ : aMem) : Rn (d + 1) 174 (20, [.ref l0, .int x1, .int x2, .int x3, .int x4, .int x5, .int x6, w7, w8], [], μ) = if (mS μ l0).1 = 9 then ((rdI μ (mR μ l0 0) 0).bind fun v2 => if v2 ≤ x6 then (Rn (d + 1) 174 (6, [.ref l0, .int x1, .int x2, .int x3, .int x4, .int x5, .int x6, w7, w8], [], μ)) else (if ((x2 >>> (x6 &&& 31)) &&& 1) = 1 then ((rdI μ (mR μ l0 16) x6).bind fun v5 => if x1 < v5 then (Rn (d + 1) 174 (56, [.ref l0, .int x1, .int x2, .int x3, .int x4, .int x5, .int x6, w7, w8], [], μ)) else (Rn (d + 1) 174 (57, [.ref l0, .int x1, .int x2, .int x3, .int x4, .int x5, .int x6, w7, w8], [.int 1], μ))) else (Rn (d + 1) 174 (56, [.ref l0, .int x1, .int x2, .int x3, .int x4, .int x5, .int x6, w7, w8], [], μ)))) else none :=
  (e_nx f_174_20 rfl).trans ((e_nx f_174_22 rfl).trans ((e_gd f_174_23 rfl).trans (g_congr (Iff.rfl) (fun h1 => (e_nx (q := (_, _, .int 0 :: _, _)) f_174_26 rfl).trans ((e_ia (L := [.ref l0, .int x1, .int x2, .int x3, .int x4, .int x5, .int x6, w7, w8]) (r := [.int x6]) (μ := μ) f_174_27).trans (m_congr fun v2 => (e_ge f_174_28 rfl).trans (b_congr (fun h3 => e_nx f_174_129 rfl) (fun h3 => (e_nx f_174_31 rfl).trans ((e_nx f_174_32 rfl).trans ((e_nx f_174_34 rfl).trans ((e_nx (q := (_, _, .int 1 :: _, _)) f_174_35 rfl).trans ((e_nx f_174_36 rfl).trans ((e_nx (q := (_, _, .int 1 :: _, _)) f_174_37 rfl).trans ((e_ne f_174_38 rfl).trans (b_congr (fun h4 => (e_nx f_174_41 rfl).trans ((e_gk f_174_42 (h1) rfl).trans ((e_nx f_174_45 rfl).trans ((e_ia (L := [.ref l0, .int x1, .int x2, .int x3, .int x4, .int x5, .int x6, w7, w8]) (r := []) (μ := μ) f_174_47).trans (m_congr fun v5 => (e_nx f_174_48 rfl).trans ((e_gt f_174_49 rfl).trans (b_congr (fun h6 => rfl) (fun h6 => (e_nx (q := (_, _, .int 1 :: _, _)) f_174_52 rfl).trans (e_nx f_174_53 rfl))))))))) (fun h4 => rfl))))))))))))))))
theorem q_174_56 (d : Nat) (l0 : Nat) (x1 : Int32) (x2 : Int32) (x3 : Int32) (x4 : Int32) (x5 : Int32) (x6 : Int32) (w7 : Value) (w8 : Value) (μ : aMem) : Rn (d + 1) 174 (56, [.ref l0, .int x1, .int x2, .int x3, .int x4, .int x5, .int x6, w7, w8], [], μ) = Rn (d + 1) 174 (57, [.ref l0, .int x1, .int x2, .int x3, .int x4, .int x5, .int x6, w7, w8], [.int 0], μ) :=
  e_nx (q := (_, _, .int 0 :: _, _)) f_174_56 rfl
theorem q_174_57 (d : Nat) (l0 : Nat) (x1 : Int32) (x2 : Int32) (x3 : Int32) (x4 : Int32) (x5 : Int32) (x6 : Int32) (w7 : Value) (w8 : Value) (xs0 : Int32) (μ : aMem) : Rn (d + 1) 174 (57, [.ref l0, .int x1, .int x2, .int x3, .int x4, .int x5, .int x6, w7, w8], [.int xs0], μ) = if ((x2 >>> (x6 &&& 31)) &&& 1) = 0 then (if (mS μ l0).1 = 9 then ((rdI μ (mR μ l0 12) x6).bind fun v3 => if v3 = 0 then (if (mS μ l0).1 = 9 ∧ l0 < 999999 then ((cI d 139 [.ref l0, .int x6, .int 4] μ).bind fun p5 => if (p5.1 &&& (x4 ^^^ (-1))) = 0 then (Rn (d + 1) 174 (98, [.ref l0, .int x1, .int x2, .int x3, .int x4, .int x5, .int x6, .int xs0, w8], [.int 1], p5.2)) else (Rn (d + 1) 174 (97, [.ref l0, .int x1, .int x2, .int x3, .int x4, .int x5, .int x6, .int xs0, w8], [], p5.2))) else none) else (Rn (d + 1) 174 (97, [.ref l0, .int x1, .int x2, .int x3, .int x4, .int x5, .int x6, .int xs0, w8], [], μ))) else none) else (Rn (d + 1) 174 (97, [.ref l0, .int x1, .int x2, .int x3, .int x4, .int x5, .int x6, .int xs0, w8], [], μ)) :=
  (e_nx (q := (_, [.ref l0, .int x1, .int x2, .int x3, .int x4, .int x5, .int x6, .int xs0, w8], _, _)) f_174_57 rfl).trans ((e_nx f_174_59 rfl).trans ((e_nx f_174_60 rfl).trans ((e_nx f_174_62 rfl).trans ((e_nx (q := (_, _, .int 1 :: _, _)) f_174_63 rfl).trans ((e_nx f_174_64 rfl).trans ((e_ne f_174_65 rfl).trans (b_congr (fun h1 => (e_nx f_174_68 rfl).trans ((e_gd f_174_69 rfl).trans (g_congr (Iff.rfl) (fun h2 => (e_nx f_174_72 rfl).trans ((e_ia (L := [.ref l0, .int x1, .int x2, .int x3, .int x4, .int x5, .int x6, .int xs0, w8]) (r := []) (μ := μ) f_174_74).trans (m_congr fun v3 => (e_ne f_174_75 rfl).trans (b_congr (fun h4 => (e_nx f_174_78 rfl).trans ((e_nx f_174_79 rfl).trans ((e_nx (q := (_, _, .int 4 :: _, _)) f_174_81 rfl).trans ((e_gI (L := [.ref l0, .int x1, .int x2, .int x3, .int x4, .int x5, .int x6, .int xs0, w8]) (st := [.int 4, .int x6, .ref l0]) (μ := μ) (L' := [.ref l0, .int x1, .int x2, .int x3, .int x4, .int x5, .int x6, .int xs0, w8]) (st' := []) f_174_82 rfl rfl).trans (g_congr (v_c2 rfl (Nat.le_of_ble_eq_true rfl)) (fun h6 => m_congr fun p5 => (e_nx f_174_85 rfl).trans ((e_nx (q := (_, _, .int (-1) :: _, _)) f_174_87 rfl).trans ((e_nx f_174_88 rfl).trans ((e_nx f_174_89 rfl).trans ((e_ne f_174_90 rfl).trans (b_congr (fun h7 => (e_nx (q := (_, _, .int 1 :: _, _)) f_174_93 rfl).trans (e_nx f_174_94 rfl)) (fun h7 => rfl)))))))))))) (fun h4 => rfl)))))))) (fun h1 => rfl))))))))
theorem q_174_97 (d : Nat) (l0 : Nat) (x1 : Int32) (x2 : Int32) (x3 : Int32) (x4 : Int32) (x5 : Int32) (x6 : Int32) (x7 : Int32) (w8 : Value) (μ : aMem) : Rn (d + 1) 174 (97, [.ref l0, .int x1, .int x2, .int x3, .int x4, .int x5, .int x6, .int x7, w8], [], μ) = Rn (d + 1) 174 (98, [.ref l0, .int x1, .int x2, .int x3, .int x4, .int x5, .int x6, .int x7, w8], [.int 0], μ) :=
  e_nx (q := (_, _, .int 0 :: _, _)) f_174_97 rfl
theorem q_174_98 (d : Nat) (l0 : Nat) (x1 : Int32) (x2 : Int32) (x3 : Int32) (x4 : Int32) (x5 : Int32) (x6 : Int32) (x7 : Int32) (w8 : Value) (xs0 : Int32) (μ : aMem) : Rn (d + 1) 174 (98, [.ref l0, .int x1, .int x2, .int x3, .int x4, .int x5, .int x6, .int x7, w8], [.int xs0], μ) = if x7 = 0 then (if xs0 = 0 then (Rn (d + 1) 174 (120, [.ref l0, .int x1, .int x2, .int x3, .int x4, .int x5, .int x6, .int x7, .int xs0], [.int 0, .int x4], μ)) else (Rn (d + 1) 174 (112, [.ref l0, .int x1, .int x2, .int x3, .int x4, .int x5, .int x6, .int x7, .int xs0], [.int x4], μ))) else (Rn (d + 1) 174 (112, [.ref l0, .int x1, .int x2, .int x3, .int x4, .int x5, .int x6, .int x7, .int xs0], [.int x4], μ)) :=
  (e_nx (q := (_, [.ref l0, .int x1, .int x2, .int x3, .int x4, .int x5, .int x6, .int x7, .int xs0], _, _)) f_174_98 rfl).trans ((e_nx f_174_100 rfl).trans ((e_nx f_174_102 rfl).trans ((e_ne f_174_104 rfl).trans (b_congr (fun h1 => (e_nx f_174_107 rfl).trans ((e_eq f_174_109 rfl).trans (b_congr (fun h2 => e_nx (q := (_, _, .int 0 :: _, _)) f_174_119 rfl) (fun h2 => rfl)))) (fun h1 => rfl)))))
theorem q_174_112 (d : Nat) (l0 : Nat) (x1 : Int32) (x2 : Int32) (x3 : Int32) (x4 : Int32) (x5 : Int32) (x6 : Int32) (x7 : Int32) (x8 : Int32) (xs0 : Int32) (μ : aMem) : Rn (d + 1) 174 (112, [.ref l0, .int x1, .int x2, .int x3, .int x4, .int x5, .int x6, .int x7, .int x8], [.int xs0], μ) = Rn (d + 1) 174 (120, [.ref l0, .int x1, .int x2, .int x3, .int x4, .int x5, .int x6, .int x7, .int x8], [.int (1 <<< (x6 &&& 31)), .int xs0], μ) :=
  (e_nx (q := (_, _, .int 1 :: _, _)) f_174_112 rfl).trans ((e_nx f_174_113 rfl).trans ((e_nx f_174_115 rfl).trans (e_nx f_174_116 rfl)))
theorem q_174_120 (d : Nat) (l0 : Nat) (x1 : Int32) (x2 : Int32) (x3 : Int32) (x4 : Int32) (x5 : Int32) (x6 : Int32) (x7 : Int32) (x8 : Int32) (xs0 : Int32) (xs1 : Int32) (μ : aMem) : Rn (d + 1) 174 (120, [.ref l0, .int x1, .int x2, .int x3, .int x4, .int x5, .int x6, .int x7, .int x8], [.int xs0, .int xs1], μ) = Rn (d + 1) 174 (20, [.ref l0, .int x1, .int x2, .int x3, .int (xs1 ||| xs0), .int x5, .int (x6 + 1), .int x7, .int x8], [], μ) :=
  (e_nx f_174_120 rfl).trans ((e_nx (q := (_, [.ref l0, .int x1, .int x2, .int x3, .int (xs1 ||| xs0), .int x5, .int x6, .int x7, .int x8], _, _)) f_174_121 rfl).trans ((e_nx (q := (_, [.ref l0, .int x1, .int x2, .int x3, .int (xs1 ||| xs0), .int x5, .int (x6 + 1), .int x7, .int x8], _, _)) f_174_123 rfl).trans (e_nx f_174_126 rfl)))
theorem pg_175 (pc : Nat) : fe0 175 pc = lk prg_175 pc := rfl
theorem f_175_0 : fe0 175 0 = some (.aload_n 0, 1, 0, 0, 0, 0, 0) := (pg_175 0).trans rfl
theorem f_175_1 : fe0 175 1 = some (.invokevirtual 140, 3, 153, 0, 0, 9, 5218) := (pg_175 1).trans rfl
theorem f_175_4 : fe0 175 4 = some (.iconst 1, 1, 0, 0, 0, 0, 0) := (pg_175 4).trans rfl
theorem f_175_5 : fe0 175 5 = some (.aload_n 0, 1, 0, 0, 0, 0, 0) := (pg_175 5).trans rfl
theorem f_175_6 : fe0 175 6 = some (.getfield 7, 3, 9, 0, 1, 0, 5024) := (pg_175 6).trans rfl
theorem f_175_9 : fe0 175 9 = some (.iconst 0, 1, 0, 0, 0, 0, 0) := (pg_175 9).trans rfl
theorem f_175_10 : fe0 175 10 = some (.iaload, 1, 0, 0, 0, 0, 0) := (pg_175 10).trans rfl
theorem f_175_11 : fe0 175 11 = some (.ishl, 1, 0, 0, 0, 0, 0) := (pg_175 11).trans rfl
theorem f_175_12 : fe0 175 12 = some (.iconst 1, 1, 0, 0, 0, 0, 0) := (pg_175 12).trans rfl
theorem f_175_13 : fe0 175 13 = some (.isub, 1, 0, 0, 0, 0, 0) := (pg_175 13).trans rfl
theorem f_175_14 : fe0 175 14 = some (.istore 4, 2, 0, 0, 0, 0, 0) := (pg_175 14).trans rfl
theorem f_175_16 : fe0 175 16 = some (.iconst 0, 1, 0, 0, 0, 0, 0) := (pg_175 16).trans rfl
theorem f_175_17 : fe0 175 17 = some (.istore 5, 2, 0, 0, 0, 0, 0) := (pg_175 17).trans rfl
theorem f_175_19 : fe0 175 19 = some (.iconst 0, 1, 0, 0, 0, 0, 0) := (pg_175 19).trans rfl
theorem f_175_20 : fe0 175 20 = some (.istore 6, 2, 0, 0, 0, 0, 0) := (pg_175 20).trans rfl
theorem f_175_22 : fe0 175 22 = some (.iconst 0, 1, 0, 0, 0, 0, 0) := (pg_175 22).trans rfl
theorem f_175_23 : fe0 175 23 = some (.istore 7, 2, 0, 0, 0, 0, 0) := (pg_175 23).trans rfl
theorem f_175_25 : fe0 175 25 = some (.aload_n 0, 1, 0, 0, 0, 0, 0) := (pg_175 25).trans rfl
theorem f_175_26 : fe0 175 26 = some (.iload 7, 2, 0, 0, 0, 0, 0) := (pg_175 26).trans rfl
theorem f_175_28 : fe0 175 28 = some (.iload 5, 2, 0, 0, 0, 0, 0) := (pg_175 28).trans rfl
theorem f_175_30 : fe0 175 30 = some (.iload 6, 2, 0, 0, 0, 0, 0) := (pg_175 30).trans rfl
theorem f_175_32 : fe0 175 32 = some (.invokevirtual 188, 3, 174, 3, 0, 9, 6080) := (pg_175 32).trans rfl
theorem f_175_35 : fe0 175 35 = some (.istore 6, 2, 0, 0, 0, 0, 0) := (pg_175 35).trans rfl
theorem f_175_37 : fe0 175 37 = some (.iload 6, 2, 0, 0, 0, 0, 0) := (pg_175 37).trans rfl
theorem f_175_39 : fe0 175 39 = some (.iload 4, 2, 0, 0, 0, 0, 0) := (pg_175 39).trans rfl
theorem f_175_41 : fe0 175 41 = some (.if_icmp .ne 6, 3, 0, 0, 0, 0, 0) := (pg_175 41).trans rfl
theorem f_175_44 : fe0 175 44 = some (.iload 7, 2, 0, 0, 0, 0, 0) := (pg_175 44).trans rfl
theorem f_175_46 : fe0 175 46 = some (.ireturn, 1, 0, 0, 0, 0, 0) := (pg_175 46).trans rfl
theorem f_175_47 : fe0 175 47 = some (.iload_n 2, 1, 0, 0, 0, 0, 0) := (pg_175 47).trans rfl
theorem f_175_48 : fe0 175 48 = some (.ifCond .lt 21, 3, 0, 0, 0, 0, 0) := (pg_175 48).trans rfl
theorem f_175_51 : fe0 175 51 = some (.iload 7, 2, 0, 0, 0, 0, 0) := (pg_175 51).trans rfl
theorem f_175_53 : fe0 175 53 = some (.iload_n 3, 1, 0, 0, 0, 0, 0) := (pg_175 53).trans rfl
theorem f_175_54 : fe0 175 54 = some (.if_icmp .lt 15, 3, 0, 0, 0, 0, 0) := (pg_175 54).trans rfl
theorem f_175_57 : fe0 175 57 = some (.iload 7, 2, 0, 0, 0, 0, 0) := (pg_175 57).trans rfl
theorem f_175_59 : fe0 175 59 = some (.iload_n 3, 1, 0, 0, 0, 0, 0) := (pg_175 59).trans rfl
theorem f_175_60 : fe0 175 60 = some (.iconst 3, 1, 0, 0, 0, 0, 0) := (pg_175 60).trans rfl
theorem f_175_61 : fe0 175 61 = some (.iadd, 1, 0, 0, 0, 0, 0) := (pg_175 61).trans rfl
theorem f_175_62 : fe0 175 62 = some (.if_icmp .ge 7, 3, 0, 0, 0, 0, 0) := (pg_175 62).trans rfl
theorem f_175_65 : fe0 175 65 = some (.iconst 1, 1, 0, 0, 0, 0, 0) := (pg_175 65).trans rfl
theorem f_175_66 : fe0 175 66 = some (.goto 4, 3, 0, 0, 0, 0, 0) := (pg_175 66).trans rfl
theorem f_175_69 : fe0 175 69 = some (.iconst 0, 1, 0, 0, 0, 0, 0) := (pg_175 69).trans rfl
theorem f_175_70 : fe0 175 70 = some (.istore 8, 2, 0, 0, 0, 0, 0) := (pg_175 70).trans rfl
theorem f_175_72 : fe0 175 72 = some (.iload_n 2, 1, 0, 0, 0, 0, 0) := (pg_175 72).trans rfl
theorem f_175_73 : fe0 175 73 = some (.ifCond .lt 17, 3, 0, 0, 0, 0, 0) := (pg_175 73).trans rfl
theorem f_175_76 : fe0 175 76 = some (.iload 7, 2, 0, 0, 0, 0, 0) := (pg_175 76).trans rfl
theorem f_175_78 : fe0 175 78 = some (.iload_n 3, 1, 0, 0, 0, 0, 0) := (pg_175 78).trans rfl
theorem f_175_79 : fe0 175 79 = some (.iconst 3, 1, 0, 0, 0, 0, 0) := (pg_175 79).trans rfl
theorem f_175_80 : fe0 175 80 = some (.iadd, 1, 0, 0, 0, 0, 0) := (pg_175 80).trans rfl
theorem f_175_81 : fe0 175 81 = some (.if_icmp .lt 9, 3, 0, 0, 0, 0, 0) := (pg_175 81).trans rfl
theorem f_175_84 : fe0 175 84 = some (.iload_n 1, 1, 0, 0, 0, 0, 0) := (pg_175 84).trans rfl
theorem f_175_85 : fe0 175 85 = some (.iload_n 2, 1, 0, 0, 0, 0, 0) := (pg_175 85).trans rfl
theorem f_175_86 : fe0 175 86 = some (.iadd, 1, 0, 0, 0, 0, 0) := (pg_175 86).trans rfl
theorem f_175_87 : fe0 175 87 = some (.goto 4, 3, 0, 0, 0, 0, 0) := (pg_175 87).trans rfl
theorem f_175_90 : fe0 175 90 = some (.iload_n 1, 1, 0, 0, 0, 0, 0) := (pg_175 90).trans rfl
theorem f_175_91 : fe0 175 91 = some (.iload 5, 2, 0, 0, 0, 0, 0) := (pg_175 91).trans rfl
theorem f_175_93 : fe0 175 93 = some (.iload 6, 2, 0, 0, 0, 0, 0) := (pg_175 93).trans rfl
theorem f_175_95 : fe0 175 95 = some (.iconst (-1), 1, 0, 0, 0, 0, 0) := (pg_175 95).trans rfl
theorem f_175_96 : fe0 175 96 = some (.ixor, 1, 0, 0, 0, 0, 0) := (pg_175 96).trans rfl
theorem f_175_97 : fe0 175 97 = some (.iand, 1, 0, 0, 0, 0, 0) := (pg_175 97).trans rfl
theorem f_175_98 : fe0 175 98 = some (.invokestatic 125, 3, 144, 1, 2, 0, 5203) := (pg_175 98).trans rfl
theorem f_175_101 : fe0 175 101 = some (.isub, 1, 0, 0, 0, 0, 0) := (pg_175 101).trans rfl
theorem f_175_102 : fe0 175 102 = some (.istore 9, 2, 0, 0, 0, 0, 0) := (pg_175 102).trans rfl
theorem f_175_104 : fe0 175 104 = some (.iconst 0, 1, 0, 0, 0, 0, 0) := (pg_175 104).trans rfl
theorem f_175_105 : fe0 175 105 = some (.istore 10, 2, 0, 0, 0, 0, 0) := (pg_175 105).trans rfl
theorem f_175_107 : fe0 175 107 = some (.iload 10, 2, 0, 0, 0, 0, 0) := (pg_175 107).trans rfl
theorem f_175_109 : fe0 175 109 = some (.aload_n 0, 1, 0, 0, 0, 0, 0) := (pg_175 109).trans rfl
theorem f_175_110 : fe0 175 110 = some (.getfield 7, 3, 9, 0, 1, 0, 5024) := (pg_175 110).trans rfl
theorem f_175_113 : fe0 175 113 = some (.iconst 0, 1, 0, 0, 0, 0, 0) := (pg_175 113).trans rfl
theorem f_175_114 : fe0 175 114 = some (.iaload, 1, 0, 0, 0, 0, 0) := (pg_175 114).trans rfl
theorem f_175_115 : fe0 175 115 = some (.if_icmp .ge 88, 3, 0, 0, 0, 0, 0) := (pg_175 115).trans rfl
theorem f_175_118 : fe0 175 118 = some (.iload 8, 2, 0, 0, 0, 0, 0) := (pg_175 118).trans rfl
theorem f_175_120 : fe0 175 120 = some (.ifCond .ne 40, 3, 0, 0, 0, 0, 0) := (pg_175 120).trans rfl
theorem f_175_123 : fe0 175 123 = some (.iload 9, 2, 0, 0, 0, 0, 0) := (pg_175 123).trans rfl
theorem f_175_125 : fe0 175 125 = some (.ifCond .le 35, 3, 0, 0, 0, 0, 0) := (pg_175 125).trans rfl
theorem f_175_128 : fe0 175 128 = some (.iload 5, 2, 0, 0, 0, 0, 0) := (pg_175 128).trans rfl
theorem f_175_130 : fe0 175 130 = some (.iload 6, 2, 0, 0, 0, 0, 0) := (pg_175 130).trans rfl
theorem f_175_132 : fe0 175 132 = some (.ior, 1, 0, 0, 0, 0, 0) := (pg_175 132).trans rfl
theorem f_175_133 : fe0 175 133 = some (.iload 10, 2, 0, 0, 0, 0, 0) := (pg_175 133).trans rfl
theorem f_175_135 : fe0 175 135 = some (.ishr, 1, 0, 0, 0, 0, 0) := (pg_175 135).trans rfl
theorem f_175_136 : fe0 175 136 = some (.iconst 1, 1, 0, 0, 0, 0, 0) := (pg_175 136).trans rfl
theorem f_175_137 : fe0 175 137 = some (.iand, 1, 0, 0, 0, 0, 0) := (pg_175 137).trans rfl
theorem f_175_138 : fe0 175 138 = some (.ifCond .ne 22, 3, 0, 0, 0, 0, 0) := (pg_175 138).trans rfl
theorem f_175_141 : fe0 175 141 = some (.aload_n 0, 1, 0, 0, 0, 0, 0) := (pg_175 141).trans rfl
theorem f_175_142 : fe0 175 142 = some (.iload 10, 2, 0, 0, 0, 0, 0) := (pg_175 142).trans rfl
theorem f_175_144 : fe0 175 144 = some (.iconst 4, 1, 0, 0, 0, 0, 0) := (pg_175 144).trans rfl
theorem f_175_145 : fe0 175 145 = some (.invokevirtual 105, 3, 139, 2, 0, 9, 5166) := (pg_175 145).trans rfl
theorem f_175_148 : fe0 175 148 = some (.iload 6, 2, 0, 0, 0, 0, 0) := (pg_175 148).trans rfl
theorem f_175_150 : fe0 175 150 = some (.iconst (-1), 1, 0, 0, 0, 0, 0) := (pg_175 150).trans rfl
theorem f_175_151 : fe0 175 151 = some (.ixor, 1, 0, 0, 0, 0, 0) := (pg_175 151).trans rfl
theorem f_175_152 : fe0 175 152 = some (.iand, 1, 0, 0, 0, 0, 0) := (pg_175 152).trans rfl
theorem f_175_153 : fe0 175 153 = some (.ifCond .ne 7, 3, 0, 0, 0, 0, 0) := (pg_175 153).trans rfl
theorem f_175_156 : fe0 175 156 = some (.iconst 1, 1, 0, 0, 0, 0, 0) := (pg_175 156).trans rfl
theorem f_175_157 : fe0 175 157 = some (.goto 4, 3, 0, 0, 0, 0, 0) := (pg_175 157).trans rfl
theorem f_175_160 : fe0 175 160 = some (.iconst 0, 1, 0, 0, 0, 0, 0) := (pg_175 160).trans rfl
theorem f_175_161 : fe0 175 161 = some (.istore 11, 2, 0, 0, 0, 0, 0) := (pg_175 161).trans rfl
theorem f_175_163 : fe0 175 163 = some (.iload 11, 2, 0, 0, 0, 0, 0) := (pg_175 163).trans rfl
theorem f_175_165 : fe0 175 165 = some (.ifCond .eq 32, 3, 0, 0, 0, 0, 0) := (pg_175 165).trans rfl
theorem f_175_168 : fe0 175 168 = some (.iload 5, 2, 0, 0, 0, 0, 0) := (pg_175 168).trans rfl
theorem f_175_170 : fe0 175 170 = some (.iconst 1, 1, 0, 0, 0, 0, 0) := (pg_175 170).trans rfl
theorem f_175_171 : fe0 175 171 = some (.iload 10, 2, 0, 0, 0, 0, 0) := (pg_175 171).trans rfl
theorem f_175_173 : fe0 175 173 = some (.ishl, 1, 0, 0, 0, 0, 0) := (pg_175 173).trans rfl
theorem f_175_174 : fe0 175 174 = some (.ior, 1, 0, 0, 0, 0, 0) := (pg_175 174).trans rfl
theorem f_175_175 : fe0 175 175 = some (.istore 5, 2, 0, 0, 0, 0, 0) := (pg_175 175).trans rfl
theorem f_175_177 : fe0 175 177 = some (.aload_n 0, 1, 0, 0, 0, 0, 0) := (pg_175 177).trans rfl
theorem f_175_178 : fe0 175 178 = some (.getfield 55, 3, 9, 16, 1, 0, 5040) := (pg_175 178).trans rfl
theorem f_175_181 : fe0 175 181 = some (.iload 10, 2, 0, 0, 0, 0, 0) := (pg_175 181).trans rfl
theorem f_175_183 : fe0 175 183 = some (.iload 7, 2, 0, 0, 0, 0, 0) := (pg_175 183).trans rfl
theorem f_175_185 : fe0 175 185 = some (.aload_n 0, 1, 0, 0, 0, 0, 0) := (pg_175 185).trans rfl
theorem f_175_186 : fe0 175 186 = some (.getfield 43, 3, 9, 12, 1, 0, 5036) := (pg_175 186).trans rfl
theorem f_175_189 : fe0 175 189 = some (.iload 10, 2, 0, 0, 0, 0, 0) := (pg_175 189).trans rfl
theorem f_175_191 : fe0 175 191 = some (.iaload, 1, 0, 0, 0, 0, 0) := (pg_175 191).trans rfl
theorem f_175_192 : fe0 175 192 = some (.iadd, 1, 0, 0, 0, 0, 0) := (pg_175 192).trans rfl
theorem f_175_193 : fe0 175 193 = some (.iastore, 1, 0, 0, 0, 0, 0) := (pg_175 193).trans rfl
theorem f_175_194 : fe0 175 194 = some (.iinc 9 (-1), 3, 0, 0, 0, 0, 0) := (pg_175 194).trans rfl
theorem f_175_197 : fe0 175 197 = some (.iinc 10 1, 3, 0, 0, 0, 0, 0) := (pg_175 197).trans rfl
theorem f_175_200 : fe0 175 200 = some (.goto (-93), 3, 0, 0, 0, 0, 0) := (pg_175 200).trans rfl
theorem f_175_203 : fe0 175 203 = some (.iinc 7 1, 3, 0, 0, 0, 0, 0) := (pg_175 203).trans rfl
theorem f_175_206 : fe0 175 206 = some (.goto (-181), 3, 0, 0, 0, 0, 0) := (pg_175 206).trans rfl
theorem q_175_0 (d : Nat) (l0 : Nat) (x1 : Int32) (x2 : Int32) (x3 : Int32) (μ : aMem) : Rn (d + 1) 175 (0, [.ref l0, .int x1, .int x2, .int x3, un, un, un, un, un, un, un, un], [], μ) = if (mS μ l0).1 = 9 ∧ l0 < 999999 then ((cV d 153 [.ref l0] μ).bind fun p1 => if (mS p1 l0).1 = 9 then ((rdI p1 (mR p1 l0 0) 0).bind fun v4 => Rn (d + 1) 175 (25, [.ref l0, .int x1, .int x2, .int x3, .int ((1 <<< (v4 &&& 31)) - 1), .int 0, .int 0, .int 0, un, un, un, un], [], p1)) else none) else none :=
  (e_nx f_175_0 rfl).trans ((e_gV (L := [.ref l0, .int x1, .int x2, .int x3, un, un, un, un, un, un, un, un]) (st := [.ref l0]) (μ := μ) (L' := [.ref l0, .int x1, .int x2, .int x3, un, un, un, un, un, un, un, un]) (st' := []) f_175_1 rfl rfl).trans (g_congr (v_c2 rfl (Nat.le_of_ble_eq_true rfl)) (fun h2 => m_congr fun p1 => (e_nx (q := (_, _, .int 1 :: _, _)) f_175_4 rfl).trans ((e_nx f_175_5 rfl).trans ((e_gd f_175_6 rfl).trans (g_congr (Iff.rfl) (fun h3 => (e_nx (q := (_, _, .int 0 :: _, _)) f_175_9 rfl).trans ((e_ia (L := [.ref l0, .int x1, .int x2, .int x3, un, un, un, un, un, un, un, un]) (r := [.int 1]) (μ := p1) f_175_10).trans (m_congr fun v4 => (e_nx f_175_11 rfl).trans ((e_nx (q := (_, _, .int 1 :: _, _)) f_175_12 rfl).trans ((e_nx f_175_13 rfl).trans ((e_nx (q := (_, [.ref l0, .int x1, .int x2, .int x3, .int ((1 <<< (v4 &&& 31)) - 1), un, un, un, un, un, un, un], _, _)) f_175_14 rfl).trans ((e_nx (q := (_, _, .int 0 :: _, _)) f_175_16 rfl).trans ((e_nx (q := (_, [.ref l0, .int x1, .int x2, .int x3, .int ((1 <<< (v4 &&& 31)) - 1), .int 0, un, un, un, un, un, un], _, _)) f_175_17 rfl).trans ((e_nx (q := (_, _, .int 0 :: _, _)) f_175_19 rfl).trans ((e_nx (q := (_, [.ref l0, .int x1, .int x2, .int x3, .int ((1 <<< (v4 &&& 31)) - 1), .int 0, .int 0, un, un, un, un, un], _, _)) f_175_20 rfl).trans ((e_nx (q := (_, _, .int 0 :: _, _)) f_175_22 rfl).trans (e_nx (q := (_, [.ref l0, .int x1, .int x2, .int x3, .int ((1 <<< (v4 &&& 31)) - 1), .int 0, .int 0, .int 0, un, un, un, un], _, _)) f_175_23 rfl))))))))))))))))))
theorem q_175_25 (d : Nat) (l0 : Nat) (x1 : Int32) (x2 : Int32) (x3 : Int32) (x4 : Int32) (x5 : Int32) (x6 : Int32) (x7 : Int32) (w8 : Value) (w9 : Value) (w10 : Value) (w11 : Value) (μ : aMem) : Rn (d + 1) 175 (25, [.ref l0, .int x1, .int x2, .int x3, .int x4, .int x5, .int x6, .int x7, w8, w9, w10, w11], [], μ) = if (mS μ l0).1 = 9 ∧ l0 < 999999 then ((cI d 174 [.ref l0, .int x7, .int x5, .int x6] μ).bind fun p1 => if p1.1 = x4 then (some (some (.int x7), p1.2)) else (if x2 < 0 then ((cI d 144 [.int (x5 &&& (p1.1 ^^^ (-1)))] p1.2).bind fun p6 => Rn (d + 1) 175 (107, [.ref l0, .int x1, .int x2, .int x3, .int x4, .int x5, .int p1.1, .int x7, .int 0, .int (x1 - p6.1), .int 0, w11], [], p6.2)) else (if x7 < x3 then (if x7 < (x3 + 3) then ((cI d 144 [.int (x5 &&& (p1.1 ^^^ (-1)))] p1.2).bind fun p10 => Rn (d + 1) 175 (107, [.ref l0, .int x1, .int x2, .int x3, .int x4, .int x5, .int p1.1, .int x7, .int 0, .int (x1 - p10.1), .int 0, w11], [], p10.2)) else ((cI d 144 [.int (x5 &&& (p1.1 ^^^ (-1)))] p1.2).bind fun p11 => Rn (d + 1) 175 (107, [.ref l0, .int x1, .int x2, .int x3, .int x4, .int x5, .int p1.1, .int x7, .int 0, .int ((x1 + x2) - p11.1), .int 0, w11], [], p11.2))) else (if (x3 + 3) ≤ x7 then (if x7 < (x3 + 3) then ((cI d 144 [.int (x5 &&& (p1.1 ^^^ (-1)))] p1.2).bind fun p15 => Rn (d + 1) 175 (107, [.ref l0, .int x1, .int x2, .int x3, .int x4, .int x5, .int p1.1, .int x7, .int 0, .int (x1 - p15.1), .int 0, w11], [], p15.2)) else ((cI d 144 [.int (x5 &&& (p1.1 ^^^ (-1)))] p1.2).bind fun p16 => Rn (d + 1) 175 (107, [.ref l0, .int x1, .int x2, .int x3, .int x4, .int x5, .int p1.1, .int x7, .int 0, .int ((x1 + x2) - p16.1), .int 0, w11], [], p16.2))) else (if x7 < (x3 + 3) then ((cI d 144 [.int (x5 &&& (p1.1 ^^^ (-1)))] p1.2).bind fun p19 => Rn (d + 1) 175 (107, [.ref l0, .int x1, .int x2, .int x3, .int x4, .int x5, .int p1.1, .int x7, .int 1, .int (x1 - p19.1), .int 0, w11], [], p19.2)) else ((cI d 144 [.int (x5 &&& (p1.1 ^^^ (-1)))] p1.2).bind fun p20 => Rn (d + 1) 175 (107, [.ref l0, .int x1, .int x2, .int x3, .int x4, .int x5, .int p1.1, .int x7, .int 1, .int ((x1 + x2) - p20.1), .int 0, w11], [], p20.2))))))) else none :=
  (e_nx f_175_25 rfl).trans ((e_nx f_175_26 rfl).trans ((e_nx f_175_28 rfl).trans ((e_nx f_175_30 rfl).trans ((e_gI (L := [.ref l0, .int x1, .int x2, .int x3, .int x4, .int x5, .int x6, .int x7, w8, w9, w10, w11]) (st := [.int x6, .int x5, .int x7, .ref l0]) (μ := μ) (L' := [.ref l0, .int x1, .int x2, .int x3, .int x4, .int x5, .int x6, .int x7, w8, w9, w10, w11]) (st' := []) f_175_32 rfl rfl).trans (g_congr (v_c2 rfl (Nat.le_of_ble_eq_true rfl)) (fun h2 => m_congr fun p1 => (e_nx (q := (_, [.ref l0, .int x1, .int x2, .int x3, .int x4, .int x5, .int p1.1, .int x7, w8, w9, w10, w11], _, _)) f_175_35 rfl).trans ((e_nx f_175_37 rfl).trans ((e_nx f_175_39 rfl).trans ((e_ne f_175_41 rfl).trans (b_congr (fun h3 => (e_nx f_175_44 rfl).trans (e_rt f_175_46 rfl)) (fun h3 => (e_nx f_175_47 rfl).trans ((e_lt f_175_48 rfl).trans (b_congr (fun h4 => (e_nx (q := (_, _, .int 0 :: _, _)) f_175_69 rfl).trans ((e_nx (q := (_, [.ref l0, .int x1, .int x2, .int x3, .int x4, .int x5, .int p1.1, .int x7, .int 0, w9, w10, w11], _, _)) f_175_70 rfl).trans ((e_nx f_175_72 rfl).trans (((e_lt f_175_73 rfl).trans (if_pos h4)).trans ((e_nx f_175_90 rfl).trans ((e_nx f_175_91 rfl).trans ((e_nx f_175_93 rfl).trans ((e_nx (q := (_, _, .int (-1) :: _, _)) f_175_95 rfl).trans ((e_nx f_175_96 rfl).trans ((e_nx f_175_97 rfl).trans ((e_cI (L := [.ref l0, .int x1, .int x2, .int x3, .int x4, .int x5, .int p1.1, .int x7, .int 0, w9, w10, w11]) (st := [.int (x5 &&& (p1.1 ^^^ (-1))), .int x1]) (μ := p1.2) (L' := [.ref l0, .int x1, .int x2, .int x3, .int x4, .int x5, .int p1.1, .int x7, .int 0, w9, w10, w11]) (st' := [.int x1]) f_175_98 rfl rfl).trans (m_congr fun p6 => (e_nx f_175_101 rfl).trans ((e_nx (q := (_, [.ref l0, .int x1, .int x2, .int x3, .int x4, .int x5, .int p1.1, .int x7, .int 0, .int (x1 - p6.1), w10, w11], _, _)) f_175_102 rfl).trans ((e_nx (q := (_, _, .int 0 :: _, _)) f_175_104 rfl).trans (e_nx (q := (_, [.ref l0, .int x1, .int x2, .int x3, .int x4, .int x5, .int p1.1, .int x7, .int 0, .int (x1 - p6.1), .int 0, w11], _, _)) f_175_105 rfl))))))))))))))) (fun h4 => (e_nx f_175_51 rfl).trans ((e_nx f_175_53 rfl).trans ((e_lt f_175_54 rfl).trans (b_congr (fun h7 => (e_nx (q := (_, _, .int 0 :: _, _)) f_175_69 rfl).trans ((e_nx (q := (_, [.ref l0, .int x1, .int x2, .int x3, .int x4, .int x5, .int p1.1, .int x7, .int 0, w9, w10, w11], _, _)) f_175_70 rfl).trans ((e_nx f_175_72 rfl).trans (((e_lt f_175_73 rfl).trans (if_neg h4)).trans ((e_nx f_175_76 rfl).trans ((e_nx f_175_78 rfl).trans ((e_nx (q := (_, _, .int 3 :: _, _)) f_175_79 rfl).trans ((e_nx f_175_80 rfl).trans ((e_lt f_175_81 rfl).trans (b_congr (fun h9 => (e_nx f_175_90 rfl).trans ((e_nx f_175_91 rfl).trans ((e_nx f_175_93 rfl).trans ((e_nx (q := (_, _, .int (-1) :: _, _)) f_175_95 rfl).trans ((e_nx f_175_96 rfl).trans ((e_nx f_175_97 rfl).trans ((e_cI (L := [.ref l0, .int x1, .int x2, .int x3, .int x4, .int x5, .int p1.1, .int x7, .int 0, w9, w10, w11]) (st := [.int (x5 &&& (p1.1 ^^^ (-1))), .int x1]) (μ := p1.2) (L' := [.ref l0, .int x1, .int x2, .int x3, .int x4, .int x5, .int p1.1, .int x7, .int 0, w9, w10, w11]) (st' := [.int x1]) f_175_98 rfl rfl).trans (m_congr fun p10 => (e_nx f_175_101 rfl).trans ((e_nx (q := (_, [.ref l0, .int x1, .int x2, .int x3, .int x4, .int x5, .int p1.1, .int x7, .int 0, .int (x1 - p10.1), w10, w11], _, _)) f_175_102 rfl).trans ((e_nx (q := (_, _, .int 0 :: _, _)) f_175_104 rfl).trans (e_nx (q := (_, [.ref l0, .int x1, .int x2, .int x3, .int x4, .int x5, .int p1.1, .int x7, .int 0, .int (x1 - p10.1), .int 0, w11], _, _)) f_175_105 rfl))))))))))) (fun h9 => (e_nx f_175_84 rfl).trans ((e_nx f_175_85 rfl).trans ((e_nx f_175_86 rfl).trans ((e_nx f_175_87 rfl).trans ((e_nx f_175_91 rfl).trans ((e_nx f_175_93 rfl).trans ((e_nx (q := (_, _, .int (-1) :: _, _)) f_175_95 rfl).trans ((e_nx f_175_96 rfl).trans ((e_nx f_175_97 rfl).trans ((e_cI (L := [.ref l0, .int x1, .int x2, .int x3, .int x4, .int x5, .int p1.1, .int x7, .int 0, w9, w10, w11]) (st := [.int (x5 &&& (p1.1 ^^^ (-1))), .int (x1 + x2)]) (μ := p1.2) (L' := [.ref l0, .int x1, .int x2, .int x3, .int x4, .int x5, .int p1.1, .int x7, .int 0, w9, w10, w11]) (st' := [.int (x1 + x2)]) f_175_98 rfl rfl).trans (m_congr fun p11 => (e_nx f_175_101 rfl).trans ((e_nx (q := (_, [.ref l0, .int x1, .int x2, .int x3, .int x4, .int x5, .int p1.1, .int x7, .int 0, .int ((x1 + x2) - p11.1), w10, w11], _, _)) f_175_102 rfl).trans ((e_nx (q := (_, _, .int 0 :: _, _)) f_175_104 rfl).trans (e_nx (q := (_, [.ref l0, .int x1, .int x2, .int x3, .int x4, .int x5, .int p1.1, .int x7, .int 0, .int ((x1 + x2) - p11.1), .int 0, w11], _, _)) f_175_105 rfl)))))))))))))))))))))))) (fun h7 => (e_nx f_175_57 rfl).trans ((e_nx f_175_59 rfl).trans ((e_nx (q := (_, _, .int 3 :: _, _)) f_175_60 rfl).trans ((e_nx f_175_61 rfl).trans ((e_ge f_175_62 rfl).trans (b_congr (fun h12 => (e_nx (q := (_, _, .int 0 :: _, _)) f_175_69 rfl).trans ((e_nx (q := (_, [.ref l0, .int x1, .int x2, .int x3, .int x4, .int x5, .int p1.1, .int x7, .int 0, w9, w10, w11], _, _)) f_175_70 rfl).trans ((e_nx f_175_72 rfl).trans (((e_lt f_175_73 rfl).trans (if_neg h4)).trans ((e_nx f_175_76 rfl).trans ((e_nx f_175_78 rfl).trans ((e_nx (q := (_, _, .int 3 :: _, _)) f_175_79 rfl).trans ((e_nx f_175_80 rfl).trans ((e_lt f_175_81 rfl).trans (b_congr (fun h14 => (e_nx f_175_90 rfl).trans ((e_nx f_175_91 rfl).trans ((e_nx f_175_93 rfl).trans ((e_nx (q := (_, _, .int (-1) :: _, _)) f_175_95 rfl).trans ((e_nx f_175_96 rfl).trans ((e_nx f_175_97 rfl).trans ((e_cI (L := [.ref l0, .int x1, .int x2, .int x3, .int x4, .int x5, .int p1.1, .int x7, .int 0, w9, w10, w11]) (st := [.int (x5 &&& (p1.1 ^^^ (-1))), .int x1]) (μ := p1.2) (L' := [.ref l0, .int x1, .int x2, .int x3, .int x4, .int x5, .int p1.1, .int x7, .int 0, w9, w10, w11]) (st' := [.int x1]) f_175_98 rfl rfl).trans (m_congr fun p15 => (e_nx f_175_101 rfl).trans ((e_nx (q := (_, [.ref l0, .int x1, .int x2, .int x3, .int x4, .int x5, .int p1.1, .int x7, .int 0, .int (x1 - p15.1), w10, w11], _, _)) f_175_102 rfl).trans ((e_nx (q := (_, _, .int 0 :: _, _)) f_175_104 rfl).trans (e_nx (q := (_, [.ref l0, .int x1, .int x2, .int x3, .int x4, .int x5, .int p1.1, .int x7, .int 0, .int (x1 - p15.1), .int 0, w11], _, _)) f_175_105 rfl))))))))))) (fun h14 => (e_nx f_175_84 rfl).trans ((e_nx f_175_85 rfl).trans ((e_nx f_175_86 rfl).trans ((e_nx f_175_87 rfl).trans ((e_nx f_175_91 rfl).trans ((e_nx f_175_93 rfl).trans ((e_nx (q := (_, _, .int (-1) :: _, _)) f_175_95 rfl).trans ((e_nx f_175_96 rfl).trans ((e_nx f_175_97 rfl).trans ((e_cI (L := [.ref l0, .int x1, .int x2, .int x3, .int x4, .int x5, .int p1.1, .int x7, .int 0, w9, w10, w11]) (st := [.int (x5 &&& (p1.1 ^^^ (-1))), .int (x1 + x2)]) (μ := p1.2) (L' := [.ref l0, .int x1, .int x2, .int x3, .int x4, .int x5, .int p1.1, .int x7, .int 0, w9, w10, w11]) (st' := [.int (x1 + x2)]) f_175_98 rfl rfl).trans (m_congr fun p16 => (e_nx f_175_101 rfl).trans ((e_nx (q := (_, [.ref l0, .int x1, .int x2, .int x3, .int x4, .int x5, .int p1.1, .int x7, .int 0, .int ((x1 + x2) - p16.1), w10, w11], _, _)) f_175_102 rfl).trans ((e_nx (q := (_, _, .int 0 :: _, _)) f_175_104 rfl).trans (e_nx (q := (_, [.ref l0, .int x1, .int x2, .int x3, .int x4, .int x5, .int p1.1, .int x7, .int 0, .int ((x1 + x2) - p16.1), .int 0, w11], _, _)) f_175_105 rfl)))))))))))))))))))))))) (fun h12 => (e_nx (q := (_, _, .int 1 :: _, _)) f_175_65 rfl).trans ((e_nx f_175_66 rfl).trans ((e_nx (q := (_, [.ref l0, .int x1, .int x2, .int x3, .int x4, .int x5, .int p1.1, .int x7, .int 1, w9, w10, w11], _, _)) f_175_70 rfl).trans ((e_nx f_175_72 rfl).trans (((e_lt f_175_73 rfl).trans (if_neg h4)).trans ((e_nx f_175_76 rfl).trans ((e_nx f_175_78 rfl).trans ((e_nx (q := (_, _, .int 3 :: _, _)) f_175_79 rfl).trans ((e_nx f_175_80 rfl).trans ((e_lt f_175_81 rfl).trans (b_congr (fun h18 => (e_nx f_175_90 rfl).trans ((e_nx f_175_91 rfl).trans ((e_nx f_175_93 rfl).trans ((e_nx (q := (_, _, .int (-1) :: _, _)) f_175_95 rfl).trans ((e_nx f_175_96 rfl).trans ((e_nx f_175_97 rfl).trans ((e_cI (L := [.ref l0, .int x1, .int x2, .int x3, .int x4, .int x5, .int p1.1, .int x7, .int 1, w9, w10, w11]) (st := [.int (x5 &&& (p1.1 ^^^ (-1))), .int x1]) (μ := p1.2) (L' := [.ref l0, .int x1, .int x2, .int x3, .int x4, .int x5, .int p1.1, .int x7, .int 1, w9, w10, w11]) (st' := [.int x1]) f_175_98 rfl rfl).trans (m_congr fun p19 => (e_nx f_175_101 rfl).trans ((e_nx (q := (_, [.ref l0, .int x1, .int x2, .int x3, .int x4, .int x5, .int p1.1, .int x7, .int 1, .int (x1 - p19.1), w10, w11], _, _)) f_175_102 rfl).trans ((e_nx (q := (_, _, .int 0 :: _, _)) f_175_104 rfl).trans (e_nx (q := (_, [.ref l0, .int x1, .int x2, .int x3, .int x4, .int x5, .int p1.1, .int x7, .int 1, .int (x1 - p19.1), .int 0, w11], _, _)) f_175_105 rfl))))))))))) (fun h18 => (e_nx f_175_84 rfl).trans ((e_nx f_175_85 rfl).trans ((e_nx f_175_86 rfl).trans ((e_nx f_175_87 rfl).trans ((e_nx f_175_91 rfl).trans ((e_nx f_175_93 rfl).trans ((e_nx (q := (_, _, .int (-1) :: _, _)) f_175_95 rfl).trans ((e_nx f_175_96 rfl).trans ((e_nx f_175_97 rfl).trans ((e_cI (L := [.ref l0, .int x1, .int x2, .int x3, .int x4, .int x5, .int p1.1, .int x7, .int 1, w9, w10, w11]) (st := [.int (x5 &&& (p1.1 ^^^ (-1))), .int (x1 + x2)]) (μ := p1.2) (L' := [.ref l0, .int x1, .int x2, .int x3, .int x4, .int x5, .int p1.1, .int x7, .int 1, w9, w10, w11]) (st' := [.int (x1 + x2)]) f_175_98 rfl rfl).trans (m_congr fun p20 => (e_nx f_175_101 rfl).trans ((e_nx (q := (_, [.ref l0, .int x1, .int x2, .int x3, .int x4, .int x5, .int p1.1, .int x7, .int 1, .int ((x1 + x2) - p20.1), w10, w11], _, _)) f_175_102 rfl).trans ((e_nx (q := (_, _, .int 0 :: _, _)) f_175_104 rfl).trans (e_nx (q := (_, [.ref l0, .int x1, .int x2, .int x3, .int x4, .int x5, .int p1.1, .int x7, .int 1, .int ((x1 + x2) - p20.1), .int 0, w11], _, _)) f_175_105 rfl))))))))))))))))))))))))))))))))))))))))))))))))
theorem q_175_107 (d : Nat) (l0 : Nat) (x1 : Int32) (x2 : Int32) (x3 : Int32) (x4 : Int32) (x5 : Int32) (x6 : Int32) (x7 : Int32) (x8 : Int32) (x9 : Int32) (x10 : Int32) (w11 : Value) (μ : aMem) : Rn (d + 1) 175 (107, [.ref l0, .int x1, .int x2, .int x3, .int x4, .int x5, .int x6, .int x7, .int x8, .int x9, .int x10, w11], [], μ) = if (mS μ l0).1 = 9 then ((rdI μ (mR μ l0 0) 0).bind fun v2 => if v2 ≤ x10 then (Rn (d + 1) 175 (25, [.ref l0, .int x1, .int x2, .int x3, .int x4, .int x5, .int x6, .int (x7 + 1), .int x8, .int x9, .int x10, w11], [], μ)) else (if x8 = 0 then (if x9 ≤ 0 then (if (0 : Int32) = 0 then (Rn (d + 1) 175 (107, [.ref l0, .int x1, .int x2, .int x3, .int x4, .int x5, .int x6, .int x7, .int x8, .int x9, .int (x10 + 1), .int 0], [], μ)) else ((rdI μ (mR μ l0 12) x10).bind fun v7 => if (mS μ (mR μ l0 16)).1 = 10 ∧ inb x10 (mS μ (mR μ l0 16)).2 then (Rn (d + 1) 175 (107, [.ref l0, .int x1, .int x2, .int x3, .int x4, .int (x5 ||| (1 <<< (x10 &&& 31))), .int x6, .int x7, .int x8, .int (x9 + (-1)), .int (x10 + 1), .int 0], [], setF μ (mR μ l0 16) (ix x10) (x7 + v7))) else none)) else (if (((x5 ||| x6) >>> (x10 &&& 31)) &&& 1) = 0 then (if (mS μ l0).1 = 9 ∧ l0 < 999999 then ((cI d 139 [.ref l0, .int x10, .int 4] μ).bind fun p10 => if (p10.1 &&& (x6 ^^^ (-1))) = 0 then (if (1 : Int32) = 0 then (Rn (d + 1) 175 (107, [.ref l0, .int x1, .int x2, .int x3, .int x4, .int x5, .int x6, .int x7, .int x8, .int x9, .int (x10 + 1), .int 1], [], p10.2)) else (if (mS p10.2 l0).1 = 9 then ((rdI p10.2 (mR p10.2 l0 12) x10).bind fun v15 => if (mS p10.2 (mR p10.2 l0 16)).1 = 10 ∧ inb x10 (mS p10.2 (mR p10.2 l0 16)).2 then (Rn (d + 1) 175 (107, [.ref l0, .int x1, .int x2, .int x3, .int x4, .int (x5 ||| (1 <<< (x10 &&& 31))), .int x6, .int x7, .int x8, .int (x9 + (-1)), .int (x10 + 1), .int 1], [], setF p10.2 (mR p10.2 l0 16) (ix x10) (x7 + v15))) else none) else none)) else (if (0 : Int32) = 0 then (Rn (d + 1) 175 (107, [.ref l0, .int x1, .int x2, .int x3, .int x4, .int x5, .int x6, .int x7, .int x8, .int x9, .int (x10 + 1), .int 0], [], p10.2)) else (if (mS p10.2 l0).1 = 9 then ((rdI p10.2 (mR p10.2 l0 12) x10).bind fun v19 => if (mS p10.2 (mR p10.2 l0 16)).1 = 10 ∧ inb x10 (mS p10.2 (mR p10.2 l0 16)).2 then (Rn (d + 1) 175 (107, [.ref l0, .int x1, .int x2, .int x3, .int x4, .int (x5 ||| (1 <<< (x10 &&& 31))), .int x6, .int x7, .int x8, .int (x9 + (-1)), .int (x10 + 1), .int 0], [], setF p10.2 (mR p10.2 l0 16) (ix x10) (x7 + v19))) else none) else none))) else none) else (if (0 : Int32) = 0 then (Rn (d + 1) 175 (107, [.ref l0, .int x1, .int x2, .int x3, .int x4, .int x5, .int x6, .int x7, .int x8, .int x9, .int (x10 + 1), .int 0], [], μ)) else ((rdI μ (mR μ l0 12) x10).bind fun v22 => if (mS μ (mR μ l0 16)).1 = 10 ∧ inb x10 (mS μ (mR μ l0 16)).2 then (Rn (d + 1) 175 (107, [.ref l0, .int x1, .int x2, .int x3, .int x4, .int (x5 ||| (1 <<< (x10 &&& 31))), .int x6, .int x7, .int x8, .int (x9 + (-1)), .int (x10 + 1), .int 0], [], setF μ (mR μ l0 16) (ix x10) (x7 + v22))) else none)))) else (if (0 : Int32) = 0 then (Rn (d + 1) 175 (107, [.ref l0, .int x1, .int x2, .int x3, .int x4, .int x5, .int x6, .int x7, .int x8, .int x9, .int (x10 + 1), .int 0], [], μ)) else ((rdI μ (mR μ l0 12) x10).bind fun v25 => if (mS μ (mR μ l0 16)).1 = 10 ∧ inb x10 (mS μ (mR μ l0 16)).2 then (Rn (d + 1) 175 (107, [.ref l0, .int x1, .int x2, .int x3, .int x4, .int (x5 ||| (1 <<< (x10 &&& 31))), .int x6, .int x7, .int x8, .int (x9 + (-1)), .int (x10 + 1), .int 0], [], setF μ (mR μ l0 16) (ix x10) (x7 + v25))) else none)))) else none :=
  (e_nx f_175_107 rfl).trans ((e_nx f_175_109 rfl).trans ((e_gd f_175_110 rfl).trans (g_congr (Iff.rfl) (fun h1 => (e_nx (q := (_, _, .int 0 :: _, _)) f_175_113 rfl).trans ((e_ia (L := [.ref l0, .int x1, .int x2, .int x3, .int x4, .int x5, .int x6, .int x7, .int x8, .int x9, .int x10, w11]) (r := [.int x10]) (μ := μ) f_175_114).trans (m_congr fun v2 => (e_ge f_175_115 rfl).trans (b_congr (fun h3 => (e_nx (q := (_, [.ref l0, .int x1, .int x2, .int x3, .int x4, .int x5, .int x6, .int (x7 + 1), .int x8, .int x9, .int x10, w11], _, _)) f_175_203 rfl).trans (e_nx f_175_206 rfl)) (fun h3 => (e_nx f_175_118 rfl).trans ((e_ne f_175_120 rfl).trans (b_congr (fun h4 => (e_nx f_175_123 rfl).trans ((e_le f_175_125 rfl).trans (b_congr (fun h5 => (e_nx (q := (_, _, .int 0 :: _, _)) f_175_160 rfl).trans ((e_nx (q := (_, [.ref l0, .int x1, .int x2, .int x3, .int x4, .int x5, .int x6, .int x7, .int x8, .int x9, .int x10, .int 0], _, _)) f_175_161 rfl).trans ((e_nx f_175_163 rfl).trans ((e_eq f_175_165 rfl).trans (b_congr (fun h6 => (e_nx (q := (_, [.ref l0, .int x1, .int x2, .int x3, .int x4, .int x5, .int x6, .int x7, .int x8, .int x9, .int (x10 + 1), .int 0], _, _)) f_175_197 rfl).trans (e_nx f_175_200 rfl)) (fun h6 => (e_nx f_175_168 rfl).trans ((e_nx (q := (_, _, .int 1 :: _, _)) f_175_170 rfl).trans ((e_nx f_175_171 rfl).trans ((e_nx f_175_173 rfl).trans ((e_nx f_175_174 rfl).trans ((e_nx (q := (_, [.ref l0, .int x1, .int x2, .int x3, .int x4, .int (x5 ||| (1 <<< (x10 &&& 31))), .int x6, .int x7, .int x8, .int x9, .int x10, .int 0], _, _)) f_175_175 rfl).trans ((e_nx f_175_177 rfl).trans ((e_gk f_175_178 (h1) rfl).trans ((e_nx f_175_181 rfl).trans ((e_nx f_175_183 rfl).trans ((e_nx f_175_185 rfl).trans ((e_gk f_175_186 (h1) rfl).trans ((e_nx f_175_189 rfl).trans ((e_ia (L := [.ref l0, .int x1, .int x2, .int x3, .int x4, .int (x5 ||| (1 <<< (x10 &&& 31))), .int x6, .int x7, .int x8, .int x9, .int x10, .int 0]) (r := [.int x7, .int x10, .ref (mR μ l0 16)]) (μ := μ) f_175_191).trans (m_congr fun v7 => (e_nx f_175_192 rfl).trans ((e_gd f_175_193 rfl).trans (g_congr (Iff.rfl) (fun h8 => (e_nx (q := (_, [.ref l0, .int x1, .int x2, .int x3, .int x4, .int (x5 ||| (1 <<< (x10 &&& 31))), .int x6, .int x7, .int x8, .int (x9 + (-1)), .int x10, .int 0], _, _)) f_175_194 rfl).trans ((e_nx (q := (_, [.ref l0, .int x1, .int x2, .int x3, .int x4, .int (x5 ||| (1 <<< (x10 &&& 31))), .int x6, .int x7, .int x8, .int (x9 + (-1)), .int (x10 + 1), .int 0], _, _)) f_175_197 rfl).trans (e_nx f_175_200 rfl))))))))))))))))))))))))) (fun h5 => (e_nx f_175_128 rfl).trans ((e_nx f_175_130 rfl).trans ((e_nx f_175_132 rfl).trans ((e_nx f_175_133 rfl).trans ((e_nx f_175_135 rfl).trans ((e_nx (q := (_, _, .int 1 :: _, _)) f_175_136 rfl).trans ((e_nx f_175_137 rfl).trans ((e_ne f_175_138 rfl).trans (b_congr (fun h9 => (e_nx f_175_141 rfl).trans ((e_nx f_175_142 rfl).trans ((e_nx (q := (_, _, .int 4 :: _, _)) f_175_144 rfl).trans ((e_gI (L := [.ref l0, .int x1, .int x2, .int x3, .int x4, .int x5, .int x6, .int x7, .int x8, .int x9, .int x10, w11]) (st := [.int 4, .int x10, .ref l0]) (μ := μ) (L' := [.ref l0, .int x1, .int x2, .int x3, .int x4, .int x5, .int x6, .int x7, .int x8, .int x9, .int x10, w11]) (st' := []) f_175_145 rfl rfl).trans (g_congr (v_c2 rfl (Nat.le_of_ble_eq_true rfl)) (fun h11 => m_congr fun p10 => (e_nx f_175_148 rfl).trans ((e_nx (q := (_, _, .int (-1) :: _, _)) f_175_150 rfl).trans ((e_nx f_175_151 rfl).trans ((e_nx f_175_152 rfl).trans ((e_ne f_175_153 rfl).trans (b_congr (fun h12 => (e_nx (q := (_, _, .int 1 :: _, _)) f_175_156 rfl).trans ((e_nx f_175_157 rfl).trans ((e_nx (q := (_, [.ref l0, .int x1, .int x2, .int x3, .int x4, .int x5, .int x6, .int x7, .int x8, .int x9, .int x10, .int 1], _, _)) f_175_161 rfl).trans ((e_nx f_175_163 rfl).trans ((e_eq f_175_165 rfl).trans (b_congr (fun h13 => (e_nx (q := (_, [.ref l0, .int x1, .int x2, .int x3, .int x4, .int x5, .int x6, .int x7, .int x8, .int x9, .int (x10 + 1), .int 1], _, _)) f_175_197 rfl).trans (e_nx f_175_200 rfl)) (fun h13 => (e_nx f_175_168 rfl).trans ((e_nx (q := (_, _, .int 1 :: _, _)) f_175_170 rfl).trans ((e_nx f_175_171 rfl).trans ((e_nx f_175_173 rfl).trans ((e_nx f_175_174 rfl).trans ((e_nx (q := (_, [.ref l0, .int x1, .int x2, .int x3, .int x4, .int (x5 ||| (1 <<< (x10 &&& 31))), .int x6, .int x7, .int x8, .int x9, .int x10, .int 1], _, _)) f_175_175 rfl).trans ((e_nx f_175_177 rfl).trans ((e_gd f_175_178 rfl).trans (g_congr (Iff.rfl) (fun h14 => (e_nx f_175_181 rfl).trans ((e_nx f_175_183 rfl).trans ((e_nx f_175_185 rfl).trans ((e_gk f_175_186 (h14) rfl).trans ((e_nx f_175_189 rfl).trans ((e_ia (L := [.ref l0, .int x1, .int x2, .int x3, .int x4, .int (x5 ||| (1 <<< (x10 &&& 31))), .int x6, .int x7, .int x8, .int x9, .int x10, .int 1]) (r := [.int x7, .int x10, .ref (mR p10.2 l0 16)]) (μ := p10.2) f_175_191).trans (m_congr fun v15 => (e_nx f_175_192 rfl).trans ((e_gd f_175_193 rfl).trans (g_congr (Iff.rfl) (fun h16 => (e_nx (q := (_, [.ref l0, .int x1, .int x2, .int x3, .int x4, .int (x5 ||| (1 <<< (x10 &&& 31))), .int x6, .int x7, .int x8, .int (x9 + (-1)), .int x10, .int 1], _, _)) f_175_194 rfl).trans ((e_nx (q := (_, [.ref l0, .int x1, .int x2, .int x3, .int x4, .int (x5 ||| (1 <<< (x10 &&& 31))), .int x6, .int x7, .int x8, .int (x9 + (-1)), .int (x10 + 1), .int 1], _, _)) f_175_197 rfl).trans (e_nx f_175_200 rfl))))))))))))))))))))))))))) (fun h12 => (e_nx (q := (_, _, .int 0 :: _, _)) f_175_160 rfl).trans ((e_nx (q := (_, [.ref l0, .int x1, .int x2, .int x3, .int x4, .int x5, .int x6, .int x7, .int x8, .int x9, .int x10, .int 0], _, _)) f_175_161 rfl).trans ((e_nx f_175_163 rfl).trans ((e_eq f_175_165 rfl).trans (b_congr (fun h17 => (e_nx (q := (_, [.ref l0, .int x1, .int x2, .int x3, .int x4, .int x5, .int x6, .int x7, .int x8, .int x9, .int (x10 + 1), .int 0], _, _)) f_175_197 rfl).trans (e_nx f_175_200 rfl)) (fun h17 => (e_nx f_175_168 rfl).trans ((e_nx (q := (_, _, .int 1 :: _, _)) f_175_170 rfl).trans ((e_nx f_175_171 rfl).trans ((e_nx f_175_173 rfl).trans ((e_nx f_175_174 rfl).trans ((e_nx (q := (_, [.ref l0, .int x1, .int x2, .int x3, .int x4, .int (x5 ||| (1 <<< (x10 &&& 31))), .int x6, .int x7, .int x8, .int x9, .int x10, .int 0], _, _)) f_175_175 rfl).trans ((e_nx f_175_177 rfl).trans ((e_gd f_175_178 rfl).trans (g_congr (Iff.rfl) (fun h18 => (e_nx f_175_181 rfl).trans ((e_nx f_175_183 rfl).trans ((e_nx f_175_185 rfl).trans ((e_gk f_175_186 (h18) rfl).trans ((e_nx f_175_189 rfl).trans ((e_ia (L := [.ref l0, .int x1, .int x2, .int x3, .int x4, .int (x5 ||| (1 <<< (x10 &&& 31))), .int x6, .int x7, .int x8, .int x9, .int x10, .int 0]) (r := [.int x7, .int x10, .ref (mR p10.2 l0 16)]) (μ := p10.2) f_175_191).trans (m_congr fun v19 => (e_nx f_175_192 rfl).trans ((e_gd f_175_193 rfl).trans (g_congr (Iff.rfl) (fun h20 => (e_nx (q := (_, [.ref l0, .int x1, .int x2, .int x3, .int x4, .int (x5 ||| (1 <<< (x10 &&& 31))), .int x6, .int x7, .int x8, .int (x9 + (-1)), .int x10, .int 0], _, _)) f_175_194 rfl).trans ((e_nx (q := (_, [.ref l0, .int x1, .int x2, .int x3, .int x4, .int (x5 ||| (1 <<< (x10 &&& 31))), .int x6, .int x7, .int x8, .int (x9 + (-1)), .int (x10 + 1), .int 0], _, _)) f_175_197 rfl).trans (e_nx f_175_200 rfl))))))))))))))))))))))))))))))))))))) (fun h9 => (e_nx (q := (_, _, .int 0 :: _, _)) f_175_160 rfl).trans ((e_nx (q := (_, [.ref l0, .int x1, .int x2, .int x3, .int x4, .int x5, .int x6, .int x7, .int x8, .int x9, .int x10, .int 0], _, _)) f_175_161 rfl).trans ((e_nx f_175_163 rfl).trans ((e_eq f_175_165 rfl).trans (b_congr (fun h21 => (e_nx (q := (_, [.ref l0, .int x1, .int x2, .int x3, .int x4, .int x5, .int x6, .int x7, .int x8, .int x9, .int (x10 + 1), .int 0], _, _)) f_175_197 rfl).trans (e_nx f_175_200 rfl)) (fun h21 => (e_nx f_175_168 rfl).trans ((e_nx (q := (_, _, .int 1 :: _, _)) f_175_170 rfl).trans ((e_nx f_175_171 rfl).trans ((e_nx f_175_173 rfl).trans ((e_nx f_175_174 rfl).trans ((e_nx (q := (_, [.ref l0, .int x1, .int x2, .int x3, .int x4, .int (x5 ||| (1 <<< (x10 &&& 31))), .int x6, .int x7, .int x8, .int x9, .int x10, .int 0], _, _)) f_175_175 rfl).trans ((e_nx f_175_177 rfl).trans ((e_gk f_175_178 (h1) rfl).trans ((e_nx f_175_181 rfl).trans ((e_nx f_175_183 rfl).trans ((e_nx f_175_185 rfl).trans ((e_gk f_175_186 (h1) rfl).trans ((e_nx f_175_189 rfl).trans ((e_ia (L := [.ref l0, .int x1, .int x2, .int x3, .int x4, .int (x5 ||| (1 <<< (x10 &&& 31))), .int x6, .int x7, .int x8, .int x9, .int x10, .int 0]) (r := [.int x7, .int x10, .ref (mR μ l0 16)]) (μ := μ) f_175_191).trans (m_congr fun v22 => (e_nx f_175_192 rfl).trans ((e_gd f_175_193 rfl).trans (g_congr (Iff.rfl) (fun h23 => (e_nx (q := (_, [.ref l0, .int x1, .int x2, .int x3, .int x4, .int (x5 ||| (1 <<< (x10 &&& 31))), .int x6, .int x7, .int x8, .int (x9 + (-1)), .int x10, .int 0], _, _)) f_175_194 rfl).trans ((e_nx (q := (_, [.ref l0, .int x1, .int x2, .int x3, .int x4, .int (x5 ||| (1 <<< (x10 &&& 31))), .int x6, .int x7, .int x8, .int (x9 + (-1)), .int (x10 + 1), .int 0], _, _)) f_175_197 rfl).trans (e_nx f_175_200 rfl))))))))))))))))))))))))))))))))))))) (fun h4 => (e_nx (q := (_, _, .int 0 :: _, _)) f_175_160 rfl).trans ((e_nx (q := (_, [.ref l0, .int x1, .int x2, .int x3, .int x4, .int x5, .int x6, .int x7, .int x8, .int x9, .int x10, .int 0], _, _)) f_175_161 rfl).trans ((e_nx f_175_163 rfl).trans ((e_eq f_175_165 rfl).trans (b_congr (fun h24 => (e_nx (q := (_, [.ref l0, .int x1, .int x2, .int x3, .int x4, .int x5, .int x6, .int x7, .int x8, .int x9, .int (x10 + 1), .int 0], _, _)) f_175_197 rfl).trans (e_nx f_175_200 rfl)) (fun h24 => (e_nx f_175_168 rfl).trans ((e_nx (q := (_, _, .int 1 :: _, _)) f_175_170 rfl).trans ((e_nx f_175_171 rfl).trans ((e_nx f_175_173 rfl).trans ((e_nx f_175_174 rfl).trans ((e_nx (q := (_, [.ref l0, .int x1, .int x2, .int x3, .int x4, .int (x5 ||| (1 <<< (x10 &&& 31))), .int x6, .int x7, .int x8, .int x9, .int x10, .int 0], _, _)) f_175_175 rfl).trans ((e_nx f_175_177 rfl).trans ((e_gk f_175_178 (h1) rfl).trans ((e_nx f_175_181 rfl).trans ((e_nx f_175_183 rfl).trans ((e_nx f_175_185 rfl).trans ((e_gk f_175_186 (h1) rfl).trans ((e_nx f_175_189 rfl).trans ((e_ia (L := [.ref l0, .int x1, .int x2, .int x3, .int x4, .int (x5 ||| (1 <<< (x10 &&& 31))), .int x6, .int x7, .int x8, .int x9, .int x10, .int 0]) (r := [.int x7, .int x10, .ref (mR μ l0 16)]) (μ := μ) f_175_191).trans (m_congr fun v25 => (e_nx f_175_192 rfl).trans ((e_gd f_175_193 rfl).trans (g_congr (Iff.rfl) (fun h26 => (e_nx (q := (_, [.ref l0, .int x1, .int x2, .int x3, .int x4, .int (x5 ||| (1 <<< (x10 &&& 31))), .int x6, .int x7, .int x8, .int (x9 + (-1)), .int x10, .int 0], _, _)) f_175_194 rfl).trans ((e_nx (q := (_, [.ref l0, .int x1, .int x2, .int x3, .int x4, .int (x5 ||| (1 <<< (x10 &&& 31))), .int x6, .int x7, .int x8, .int (x9 + (-1)), .int (x10 + 1), .int 0], _, _)) f_175_197 rfl).trans (e_nx f_175_200 rfl)))))))))))))))))))))))))))))))))))
theorem pg_176 (pc : Nat) : fe0 176 pc = lk prg_176 pc := rfl
theorem f_176_0 : fe0 176 0 = some (.iload_n 1, 1, 0, 0, 0, 0, 0) := (pg_176 0).trans rfl
theorem f_176_1 : fe0 176 1 = some (.i2l, 1, 0, 0, 0, 0, 0) := (pg_176 1).trans rfl
theorem f_176_2 : fe0 176 2 = some (.lconst 1, 1, 0, 0, 0, 0, 0) := (pg_176 2).trans rfl
theorem f_176_3 : fe0 176 3 = some (.ldc2_w 192, 3, 0, 0, 9, 0, 6075) := (pg_176 3).trans rfl
theorem f_176_6 : fe0 176 6 = some (.invokestatic 84, 3, 133, 3, 2, 0, 5144) := (pg_176 6).trans rfl
theorem f_176_9 : fe0 176 9 = some (.ifCond .eq 13, 3, 0, 0, 0, 0, 0) := (pg_176 9).trans rfl
theorem f_176_12 : fe0 176 12 = some (.aload_n 0, 1, 0, 0, 0, 0, 0) := (pg_176 12).trans rfl
theorem f_176_13 : fe0 176 13 = some (.iload_n 1, 1, 0, 0, 0, 0, 0) := (pg_176 13).trans rfl
theorem f_176_14 : fe0 176 14 = some (.iconst (-1), 1, 0, 0, 0, 0, 0) := (pg_176 14).trans rfl
theorem f_176_15 : fe0 176 15 = some (.iconst 0, 1, 0, 0, 0, 0, 0) := (pg_176 15).trans rfl
theorem f_176_16 : fe0 176 16 = some (.invokevirtual 194, 3, 175, 3, 0, 9, 6076) := (pg_176 16).trans rfl
theorem f_176_19 : fe0 176 19 = some (.goto 5, 3, 0, 0, 0, 0, 0) := (pg_176 19).trans rfl
theorem f_176_22 : fe0 176 22 = some (.ldc 99, 2, 0, 0, 3294967295, 0, 5152) := (pg_176 22).trans rfl
theorem f_176_24 : fe0 176 24 = some (.ireturn, 1, 0, 0, 0, 0, 0) := (pg_176 24).trans rfl
theorem q_176_0 (d : Nat) (l0 : Nat) (x1 : Int32) (μ : aMem) : Rn (d + 1) 176 (0, [.ref l0, .int x1], [], μ) = (cI d 133 [.long ((x1 : Int32).toInt64), .long 1, .long 9] μ).bind fun p1 => if p1.1 = 0 then (some (some (.int (-1000000001)), p1.2)) else (if (mS p1.2 l0).1 = 9 ∧ l0 < 999999 then ((cI d 175 [.ref l0, .int x1, .int (-1), .int 0] p1.2).bind fun p3 => some (some (.int p3.1), p3.2)) else none) :=
  (e_nx f_176_0 rfl).trans ((e_nx f_176_1 rfl).trans ((e_nx (q := (_, _, .long 1 :: _, _)) f_176_2 rfl).trans ((e_nx (q := (_, _, .long 9 :: _, _)) f_176_3 rfl).trans ((e_cI (L := [.ref l0, .int x1]) (st := [.long 9, .long 1, .long ((x1 : Int32).toInt64)]) (μ := μ) (L' := [.ref l0, .int x1]) (st' := []) f_176_6 rfl rfl).trans (m_congr fun p1 => (e_eq f_176_9 rfl).trans (b_congr (fun h2 => (e_nx (q := (_, _, .int (-1000000001) :: _, _)) f_176_22 rfl).trans (e_rt f_176_24 rfl)) (fun h2 => (e_nx f_176_12 rfl).trans ((e_nx f_176_13 rfl).trans ((e_nx (q := (_, _, .int (-1) :: _, _)) f_176_14 rfl).trans ((e_nx (q := (_, _, .int 0 :: _, _)) f_176_15 rfl).trans ((e_gI (L := [.ref l0, .int x1]) (st := [.int 0, .int (-1), .int x1, .ref l0]) (μ := p1.2) (L' := [.ref l0, .int x1]) (st' := []) f_176_16 rfl rfl).trans (g_congr (v_c2 rfl (Nat.le_of_ble_eq_true rfl)) (fun h4 => m_congr fun p3 => (e_nx f_176_19 rfl).trans (e_rt f_176_24 rfl))))))))))))))
theorem pg_177 (pc : Nat) : fe0 177 pc = lk prg_177 pc := rfl
theorem f_177_0 : fe0 177 0 = some (.iload_n 1, 1, 0, 0, 0, 0, 0) := (pg_177 0).trans rfl
theorem f_177_1 : fe0 177 1 = some (.i2l, 1, 0, 0, 0, 0, 0) := (pg_177 1).trans rfl
theorem f_177_2 : fe0 177 2 = some (.lconst 1, 1, 0, 0, 0, 0, 0) := (pg_177 2).trans rfl
theorem f_177_3 : fe0 177 3 = some (.ldc2_w 192, 3, 0, 0, 9, 0, 6075) := (pg_177 3).trans rfl
theorem f_177_6 : fe0 177 6 = some (.invokestatic 84, 3, 133, 3, 2, 0, 5144) := (pg_177 6).trans rfl
theorem f_177_9 : fe0 177 9 = some (.ifCond .eq 37, 3, 0, 0, 0, 0, 0) := (pg_177 9).trans rfl
theorem f_177_12 : fe0 177 12 = some (.iload_n 2, 1, 0, 0, 0, 0, 0) := (pg_177 12).trans rfl
theorem f_177_13 : fe0 177 13 = some (.i2l, 1, 0, 0, 0, 0, 0) := (pg_177 13).trans rfl
theorem f_177_14 : fe0 177 14 = some (.lconst 0, 1, 0, 0, 0, 0, 0) := (pg_177 14).trans rfl
theorem f_177_15 : fe0 177 15 = some (.ldc2_w 192, 3, 0, 0, 9, 0, 6075) := (pg_177 15).trans rfl
theorem f_177_18 : fe0 177 18 = some (.invokestatic 84, 3, 133, 3, 2, 0, 5144) := (pg_177 18).trans rfl
theorem f_177_21 : fe0 177 21 = some (.ifCond .eq 25, 3, 0, 0, 0, 0, 0) := (pg_177 21).trans rfl
theorem f_177_24 : fe0 177 24 = some (.iload_n 3, 1, 0, 0, 0, 0, 0) := (pg_177 24).trans rfl
theorem f_177_25 : fe0 177 25 = some (.i2l, 1, 0, 0, 0, 0, 0) := (pg_177 25).trans rfl
theorem f_177_26 : fe0 177 26 = some (.lconst 0, 1, 0, 0, 0, 0, 0) := (pg_177 26).trans rfl
theorem f_177_27 : fe0 177 27 = some (.ldc2_w 197, 3, 0, 0, 999, 0, 6088) := (pg_177 27).trans rfl
theorem f_177_30 : fe0 177 30 = some (.invokestatic 84, 3, 133, 3, 2, 0, 5144) := (pg_177 30).trans rfl
theorem f_177_33 : fe0 177 33 = some (.ifCond .eq 13, 3, 0, 0, 0, 0, 0) := (pg_177 33).trans rfl
theorem f_177_36 : fe0 177 36 = some (.aload_n 0, 1, 0, 0, 0, 0, 0) := (pg_177 36).trans rfl
theorem f_177_37 : fe0 177 37 = some (.iload_n 1, 1, 0, 0, 0, 0, 0) := (pg_177 37).trans rfl
theorem f_177_38 : fe0 177 38 = some (.iload_n 2, 1, 0, 0, 0, 0, 0) := (pg_177 38).trans rfl
theorem f_177_39 : fe0 177 39 = some (.iload_n 3, 1, 0, 0, 0, 0, 0) := (pg_177 39).trans rfl
theorem f_177_40 : fe0 177 40 = some (.invokevirtual 194, 3, 175, 3, 0, 9, 6076) := (pg_177 40).trans rfl
theorem f_177_43 : fe0 177 43 = some (.goto 5, 3, 0, 0, 0, 0, 0) := (pg_177 43).trans rfl
theorem f_177_46 : fe0 177 46 = some (.ldc 99, 2, 0, 0, 3294967295, 0, 5152) := (pg_177 46).trans rfl
theorem f_177_48 : fe0 177 48 = some (.ireturn, 1, 0, 0, 0, 0, 0) := (pg_177 48).trans rfl
theorem q_177_0 (d : Nat) (l0 : Nat) (x1 : Int32) (x2 : Int32) (x3 : Int32) (μ : aMem) : Rn (d + 1) 177 (0, [.ref l0, .int x1, .int x2, .int x3], [], μ) = (cI d 133 [.long ((x1 : Int32).toInt64), .long 1, .long 9] μ).bind fun p1 => if p1.1 = 0 then (some (some (.int (-1000000001)), p1.2)) else ((cI d 133 [.long ((x2 : Int32).toInt64), .long 0, .long 9] p1.2).bind fun p3 => if p3.1 = 0 then (some (some (.int (-1000000001)), p3.2)) else ((cI d 133 [.long ((x3 : Int32).toInt64), .long 0, .long 999] p3.2).bind fun p5 => if p5.1 = 0 then (some (some (.int (-1000000001)), p5.2)) else (if (mS p5.2 l0).1 = 9 ∧ l0 < 999999 then ((cI d 175 [.ref l0, .int x1, .int x2, .int x3] p5.2).bind fun p7 => some (some (.int p7.1), p7.2)) else none))) :=
  (e_nx f_177_0 rfl).trans ((e_nx f_177_1 rfl).trans ((e_nx (q := (_, _, .long 1 :: _, _)) f_177_2 rfl).trans ((e_nx (q := (_, _, .long 9 :: _, _)) f_177_3 rfl).trans ((e_cI (L := [.ref l0, .int x1, .int x2, .int x3]) (st := [.long 9, .long 1, .long ((x1 : Int32).toInt64)]) (μ := μ) (L' := [.ref l0, .int x1, .int x2, .int x3]) (st' := []) f_177_6 rfl rfl).trans (m_congr fun p1 => (e_eq f_177_9 rfl).trans (b_congr (fun h2 => (e_nx (q := (_, _, .int (-1000000001) :: _, _)) f_177_46 rfl).trans (e_rt f_177_48 rfl)) (fun h2 => (e_nx f_177_12 rfl).trans ((e_nx f_177_13 rfl).trans ((e_nx (q := (_, _, .long 0 :: _, _)) f_177_14 rfl).trans ((e_nx (q := (_, _, .long 9 :: _, _)) f_177_15 rfl).trans ((e_cI (L := [.ref l0, .int x1, .int x2, .int x3]) (st := [.long 9, .long 0, .long ((x2 : Int32).toInt64)]) (μ := p1.2) (L' := [.ref l0, .int x1, .int x2, .int x3]) (st' := []) f_177_18 rfl rfl).trans (m_congr fun p3 => (e_eq f_177_21 rfl).trans (b_congr (fun h4 => (e_nx (q := (_, _, .int (-1000000001) :: _, _)) f_177_46 rfl).trans (e_rt f_177_48 rfl)) (fun h4 => (e_nx f_177_24 rfl).trans ((e_nx f_177_25 rfl).trans ((e_nx (q := (_, _, .long 0 :: _, _)) f_177_26 rfl).trans ((e_nx (q := (_, _, .long 999 :: _, _)) f_177_27 rfl).trans ((e_cI (L := [.ref l0, .int x1, .int x2, .int x3]) (st := [.long 999, .long 0, .long ((x3 : Int32).toInt64)]) (μ := p3.2) (L' := [.ref l0, .int x1, .int x2, .int x3]) (st' := []) f_177_30 rfl rfl).trans (m_congr fun p5 => (e_eq f_177_33 rfl).trans (b_congr (fun h6 => (e_nx (q := (_, _, .int (-1000000001) :: _, _)) f_177_46 rfl).trans (e_rt f_177_48 rfl)) (fun h6 => (e_nx f_177_36 rfl).trans ((e_nx f_177_37 rfl).trans ((e_nx f_177_38 rfl).trans ((e_nx f_177_39 rfl).trans ((e_gI (L := [.ref l0, .int x1, .int x2, .int x3]) (st := [.int x3, .int x2, .int x1, .ref l0]) (μ := p5.2) (L' := [.ref l0, .int x1, .int x2, .int x3]) (st' := []) f_177_40 rfl rfl).trans (g_congr (v_c2 rfl (Nat.le_of_ble_eq_true rfl)) (fun h8 => m_congr fun p7 => (e_nx f_177_43 rfl).trans (e_rt f_177_48 rfl))))))))))))))))))))))))))))
theorem pg_178 (pc : Nat) : fe0 178 pc = lk prg_178 pc := rfl
theorem f_178_0 : fe0 178 0 = some (.iconst 0, 1, 0, 0, 0, 0, 0) := (pg_178 0).trans rfl
theorem f_178_1 : fe0 178 1 = some (.istore_n 2, 1, 0, 0, 0, 0, 0) := (pg_178 1).trans rfl
theorem f_178_2 : fe0 178 2 = some (.iload_n 2, 1, 0, 0, 0, 0, 0) := (pg_178 2).trans rfl
theorem f_178_3 : fe0 178 3 = some (.aload_n 0, 1, 0, 0, 0, 0, 0) := (pg_178 3).trans rfl
theorem f_178_4 : fe0 178 4 = some (.getfield 7, 3, 9, 0, 1, 0, 5024) := (pg_178 4).trans rfl
theorem f_178_7 : fe0 178 7 = some (.iconst 0, 1, 0, 0, 0, 0, 0) := (pg_178 7).trans rfl
theorem f_178_8 : fe0 178 8 = some (.iaload, 1, 0, 0, 0, 0, 0) := (pg_178 8).trans rfl
theorem f_178_9 : fe0 178 9 = some (.if_icmp .ge 43, 3, 0, 0, 0, 0, 0) := (pg_178 9).trans rfl
theorem f_178_12 : fe0 178 12 = some (.aload_n 0, 1, 0, 0, 0, 0, 0) := (pg_178 12).trans rfl
theorem f_178_13 : fe0 178 13 = some (.getfield 43, 3, 9, 12, 1, 0, 5036) := (pg_178 13).trans rfl
theorem f_178_16 : fe0 178 16 = some (.iload_n 2, 1, 0, 0, 0, 0, 0) := (pg_178 16).trans rfl
theorem f_178_17 : fe0 178 17 = some (.iload_n 1, 1, 0, 0, 0, 0, 0) := (pg_178 17).trans rfl
theorem f_178_18 : fe0 178 18 = some (.iload_n 2, 1, 0, 0, 0, 0, 0) := (pg_178 18).trans rfl
theorem f_178_19 : fe0 178 19 = some (.ishr, 1, 0, 0, 0, 0, 0) := (pg_178 19).trans rfl
theorem f_178_20 : fe0 178 20 = some (.iconst 1, 1, 0, 0, 0, 0, 0) := (pg_178 20).trans rfl
theorem f_178_21 : fe0 178 21 = some (.iand, 1, 0, 0, 0, 0, 0) := (pg_178 21).trans rfl
theorem f_178_22 : fe0 178 22 = some (.iconst 1, 1, 0, 0, 0, 0, 0) := (pg_178 22).trans rfl
theorem f_178_23 : fe0 178 23 = some (.if_icmp .ne 16, 3, 0, 0, 0, 0, 0) := (pg_178 23).trans rfl
theorem f_178_26 : fe0 178 26 = some (.iconst 2, 1, 0, 0, 0, 0, 0) := (pg_178 26).trans rfl
theorem f_178_27 : fe0 178 27 = some (.aload_n 0, 1, 0, 0, 0, 0, 0) := (pg_178 27).trans rfl
theorem f_178_28 : fe0 178 28 = some (.iload_n 2, 1, 0, 0, 0, 0, 0) := (pg_178 28).trans rfl
theorem f_178_29 : fe0 178 29 = some (.iconst 1, 1, 0, 0, 0, 0, 0) := (pg_178 29).trans rfl
theorem f_178_30 : fe0 178 30 = some (.invokevirtual 105, 3, 139, 2, 0, 9, 5166) := (pg_178 30).trans rfl
theorem f_178_33 : fe0 178 33 = some (.imul, 1, 0, 0, 0, 0, 0) := (pg_178 33).trans rfl
theorem f_178_34 : fe0 178 34 = some (.iconst 1, 1, 0, 0, 0, 0, 0) := (pg_178 34).trans rfl
theorem f_178_35 : fe0 178 35 = some (.iadd, 1, 0, 0, 0, 0, 0) := (pg_178 35).trans rfl
theorem f_178_36 : fe0 178 36 = some (.goto 9, 3, 0, 0, 0, 0, 0) := (pg_178 36).trans rfl
theorem f_178_39 : fe0 178 39 = some (.aload_n 0, 1, 0, 0, 0, 0, 0) := (pg_178 39).trans rfl
theorem f_178_40 : fe0 178 40 = some (.iload_n 2, 1, 0, 0, 0, 0, 0) := (pg_178 40).trans rfl
theorem f_178_41 : fe0 178 41 = some (.iconst 1, 1, 0, 0, 0, 0, 0) := (pg_178 41).trans rfl
theorem f_178_42 : fe0 178 42 = some (.invokevirtual 105, 3, 139, 2, 0, 9, 5166) := (pg_178 42).trans rfl
theorem f_178_45 : fe0 178 45 = some (.iastore, 1, 0, 0, 0, 0, 0) := (pg_178 45).trans rfl
theorem f_178_46 : fe0 178 46 = some (.iinc 2 1, 3, 0, 0, 0, 0, 0) := (pg_178 46).trans rfl
theorem f_178_49 : fe0 178 49 = some (.goto (-47), 3, 0, 0, 0, 0, 0) := (pg_178 49).trans rfl
theorem f_178_52 : fe0 178 52 = some (.return_, 1, 0, 0, 0, 0, 0) := (pg_178 52).trans rfl
theorem q_178_0 (d : Nat) (l0 : Nat) (x1 : Int32) (μ : aMem) : Rn (d + 1) 178 (0, [.ref l0, .int x1, un], [], μ) = Rn (d + 1) 178 (2, [.ref l0, .int x1, .int 0], [], μ) :=
  (e_nx (q := (_, _, .int 0 :: _, _)) f_178_0 rfl).trans (e_nx (q := (_, [.ref l0, .int x1, .int 0], _, _)) f_178_1 rfl)
theorem q_178_2 (d : Nat) (l0 : Nat) (x1 : Int32) (x2 : Int32) (μ : aMem) : Rn (d + 1) 178 (2, [.ref l0, .int x1, .int x2], [], μ) = if (mS μ l0).1 = 9 then ((rdI μ (mR μ l0 0) 0).bind fun v2 => if v2 ≤ x2 then (some (none, μ)) else (if ((x1 >>> (x2 &&& 31)) &&& 1) = 1 then (if (mS μ l0).1 = 9 ∧ l0 < 999999 then ((cI d 139 [.ref l0, .int x2, .int 1] μ).bind fun p5 => if (mS p5.2 (mR μ l0 12)).1 = 10 ∧ inb x2 (mS p5.2 (mR μ l0 12)).2 then (Rn (d + 1) 178 (2, [.ref l0, .int x1, .int (x2 + 1)], [], setF p5.2 (mR μ l0 12) (ix x2) ((2 * p5.1) + 1))) else none) else none) else (if (mS μ l0).1 = 9 ∧ l0 < 999999 then ((cI d 139 [.ref l0, .int x2, .int 1] μ).bind fun p8 => if (mS p8.2 (mR μ l0 12)).1 = 10 ∧ inb x2 (mS p8.2 (mR μ l0 12)).2 then (Rn (d + 1) 178 (2, [.ref l0, .int x1, .int (x2 + 1)], [], setF p8.2 (mR μ l0 12) (ix x2) p8.1)) else none) else none))) else none :=
  (e_nx f_178_2 rfl).trans ((e_nx f_178_3 rfl).trans ((e_gd f_178_4 rfl).trans (g_congr (Iff.rfl) (fun h1 => (e_nx (q := (_, _, .int 0 :: _, _)) f_178_7 rfl).trans ((e_ia (L := [.ref l0, .int x1, .int x2]) (r := [.int x2]) (μ := μ) f_178_8).trans (m_congr fun v2 => (e_ge f_178_9 rfl).trans (b_congr (fun h3 => e_rt f_178_52 rfl) (fun h3 => (e_nx f_178_12 rfl).trans ((e_gk f_178_13 (h1) rfl).trans ((e_nx f_178_16 rfl).trans ((e_nx f_178_17 rfl).trans ((e_nx f_178_18 rfl).trans ((e_nx f_178_19 rfl).trans ((e_nx (q := (_, _, .int 1 :: _, _)) f_178_20 rfl).trans ((e_nx f_178_21 rfl).trans ((e_nx (q := (_, _, .int 1 :: _, _)) f_178_22 rfl).trans ((e_ne f_178_23 rfl).trans (b_congr (fun h4 => (e_nx (q := (_, _, .int 2 :: _, _)) f_178_26 rfl).trans ((e_nx f_178_27 rfl).trans ((e_nx f_178_28 rfl).trans ((e_nx (q := (_, _, .int 1 :: _, _)) f_178_29 rfl).trans ((e_gI (L := [.ref l0, .int x1, .int x2]) (st := [.int 1, .int x2, .ref l0, .int 2, .int x2, .ref (mR μ l0 12)]) (μ := μ) (L' := [.ref l0, .int x1, .int x2]) (st' := [.int 2, .int x2, .ref (mR μ l0 12)]) f_178_30 rfl rfl).trans (g_congr (v_c2 rfl (Nat.le_of_ble_eq_true rfl)) (fun h6 => m_congr fun p5 => (e_nx f_178_33 rfl).trans ((e_nx (q := (_, _, .int 1 :: _, _)) f_178_34 rfl).trans ((e_nx f_178_35 rfl).trans ((e_nx f_178_36 rfl).trans ((e_gd f_178_45 rfl).trans (g_congr (Iff.rfl) (fun h7 => (e_nx (q := (_, [.ref l0, .int x1, .int (x2 + 1)], _, _)) f_178_46 rfl).trans (e_nx f_178_49 rfl)))))))))))))) (fun h4 => (e_nx f_178_39 rfl).trans ((e_nx f_178_40 rfl).trans ((e_nx (q := (_, _, .int 1 :: _, _)) f_178_41 rfl).trans ((e_gI (L := [.ref l0, .int x1, .int x2]) (st := [.int 1, .int x2, .ref l0, .int x2, .ref (mR μ l0 12)]) (μ := μ) (L' := [.ref l0, .int x1, .int x2]) (st' := [.int x2, .ref (mR μ l0 12)]) f_178_42 rfl rfl).trans (g_congr (v_c2 rfl (Nat.le_of_ble_eq_true rfl)) (fun h9 => m_congr fun p8 => (e_gd f_178_45 rfl).trans (g_congr (Iff.rfl) (fun h10 => (e_nx (q := (_, [.ref l0, .int x1, .int (x2 + 1)], _, _)) f_178_46 rfl).trans (e_nx f_178_49 rfl)))))))))))))))))))))))))))
theorem pg_179 (pc : Nat) : fe0 179 pc = lk prg_179 pc := rfl
theorem f_179_0 : fe0 179 0 = some (.lconst 1, 1, 0, 0, 0, 0, 0) := (pg_179 0).trans rfl
theorem f_179_1 : fe0 179 1 = some (.lstore_n 2, 1, 0, 0, 0, 0, 0) := (pg_179 1).trans rfl
theorem f_179_2 : fe0 179 2 = some (.iconst 0, 1, 0, 0, 0, 0, 0) := (pg_179 2).trans rfl
theorem f_179_3 : fe0 179 3 = some (.istore 4, 2, 0, 0, 0, 0, 0) := (pg_179 3).trans rfl
theorem f_179_5 : fe0 179 5 = some (.iload 4, 2, 0, 0, 0, 0, 0) := (pg_179 5).trans rfl
theorem f_179_7 : fe0 179 7 = some (.aload_n 0, 1, 0, 0, 0, 0, 0) := (pg_179 7).trans rfl
theorem f_179_8 : fe0 179 8 = some (.getfield 7, 3, 9, 0, 1, 0, 5024) := (pg_179 8).trans rfl
theorem f_179_11 : fe0 179 11 = some (.iconst 0, 1, 0, 0, 0, 0, 0) := (pg_179 11).trans rfl
theorem f_179_12 : fe0 179 12 = some (.iaload, 1, 0, 0, 0, 0, 0) := (pg_179 12).trans rfl
theorem f_179_13 : fe0 179 13 = some (.if_icmp .ge 44, 3, 0, 0, 0, 0, 0) := (pg_179 13).trans rfl
theorem f_179_16 : fe0 179 16 = some (.lload_n 2, 1, 0, 0, 0, 0, 0) := (pg_179 16).trans rfl
theorem f_179_17 : fe0 179 17 = some (.iload_n 1, 1, 0, 0, 0, 0, 0) := (pg_179 17).trans rfl
theorem f_179_18 : fe0 179 18 = some (.iload 4, 2, 0, 0, 0, 0, 0) := (pg_179 18).trans rfl
theorem f_179_20 : fe0 179 20 = some (.ishr, 1, 0, 0, 0, 0, 0) := (pg_179 20).trans rfl
theorem f_179_21 : fe0 179 21 = some (.iconst 1, 1, 0, 0, 0, 0, 0) := (pg_179 21).trans rfl
theorem f_179_22 : fe0 179 22 = some (.iand, 1, 0, 0, 0, 0, 0) := (pg_179 22).trans rfl
theorem f_179_23 : fe0 179 23 = some (.iconst 1, 1, 0, 0, 0, 0, 0) := (pg_179 23).trans rfl
theorem f_179_24 : fe0 179 24 = some (.if_icmp .ne 14, 3, 0, 0, 0, 0, 0) := (pg_179 24).trans rfl
theorem f_179_27 : fe0 179 27 = some (.aload_n 0, 1, 0, 0, 0, 0, 0) := (pg_179 27).trans rfl
theorem f_179_28 : fe0 179 28 = some (.iload 4, 2, 0, 0, 0, 0, 0) := (pg_179 28).trans rfl
theorem f_179_30 : fe0 179 30 = some (.iconst 2, 1, 0, 0, 0, 0, 0) := (pg_179 30).trans rfl
theorem f_179_31 : fe0 179 31 = some (.invokevirtual 105, 3, 139, 2, 0, 9, 5166) := (pg_179 31).trans rfl
theorem f_179_34 : fe0 179 34 = some (.i2l, 1, 0, 0, 0, 0, 0) := (pg_179 34).trans rfl
theorem f_179_35 : fe0 179 35 = some (.goto 14, 3, 0, 0, 0, 0, 0) := (pg_179 35).trans rfl
theorem f_179_38 : fe0 179 38 = some (.bipush 10, 2, 0, 0, 0, 0, 0) := (pg_179 38).trans rfl
theorem f_179_40 : fe0 179 40 = some (.aload_n 0, 1, 0, 0, 0, 0, 0) := (pg_179 40).trans rfl
theorem f_179_41 : fe0 179 41 = some (.iload 4, 2, 0, 0, 0, 0, 0) := (pg_179 41).trans rfl
theorem f_179_43 : fe0 179 43 = some (.iconst 2, 1, 0, 0, 0, 0, 0) := (pg_179 43).trans rfl
theorem f_179_44 : fe0 179 44 = some (.invokevirtual 105, 3, 139, 2, 0, 9, 5166) := (pg_179 44).trans rfl
theorem f_179_47 : fe0 179 47 = some (.isub, 1, 0, 0, 0, 0, 0) := (pg_179 47).trans rfl
theorem f_179_48 : fe0 179 48 = some (.i2l, 1, 0, 0, 0, 0, 0) := (pg_179 48).trans rfl
theorem f_179_49 : fe0 179 49 = some (.lmul, 1, 0, 0, 0, 0, 0) := (pg_179 49).trans rfl
theorem f_179_50 : fe0 179 50 = some (.lstore_n 2, 1, 0, 0, 0, 0, 0) := (pg_179 50).trans rfl
theorem f_179_51 : fe0 179 51 = some (.iinc 4 1, 3, 0, 0, 0, 0, 0) := (pg_179 51).trans rfl
theorem f_179_54 : fe0 179 54 = some (.goto (-49), 3, 0, 0, 0, 0, 0) := (pg_179 54).trans rfl
theorem f_179_57 : fe0 179 57 = some (.lload_n 2, 1, 0, 0, 0, 0, 0) := (pg_179 57).trans rfl
theorem f_179_58 : fe0 179 58 = some (.lreturn, 1, 0, 0, 0, 0, 0) := (pg_179 58).trans rfl
theorem q_179_0 (d : Nat) (l0 : Nat) (x1 : Int32) (μ : aMem) : Rn (d + 1) 179 (0, [.ref l0, .int x1, un, un, un], [], μ) = Rn (d + 1) 179 (5, [.ref l0, .int x1, .long 1, un, .int 0], [], μ) :=
  (e_nx (q := (_, _, .long 1 :: _, _)) f_179_0 rfl).trans ((e_nx (q := (_, [.ref l0, .int x1, .long 1, un, un], _, _)) f_179_1 rfl).trans ((e_nx (q := (_, _, .int 0 :: _, _)) f_179_2 rfl).trans (e_nx (q := (_, [.ref l0, .int x1, .long 1, un, .int 0], _, _)) f_179_3 rfl)))
theorem q_179_5 (d : Nat) (l0 : Nat) (x1 : Int32) (j2 : Int64) (x4 : Int32) (μ : aMem) : Rn (d + 1) 179 (5, [.ref l0, .int x1, .long j2, un, .int x4], [], μ) = if (mS μ l0).1 = 9 then ((rdI μ (mR μ l0 0) 0).bind fun v2 => if v2 ≤ x4 then (some (some (.long j2), μ)) else (if ((x1 >>> (x4 &&& 31)) &&& 1) = 1 then (if (mS μ l0).1 = 9 ∧ l0 < 999999 then ((cI d 139 [.ref l0, .int x4, .int 2] μ).bind fun p5 => Rn (d + 1) 179 (5, [.ref l0, .int x1, .long (j2 * ((p5.1 : Int32).toInt64)), un, .int (x4 + 1)], [], p5.2)) else none) else (if (mS μ l0).1 = 9 ∧ l0 < 999999 then ((cI d 139 [.ref l0, .int x4, .int 2] μ).bind fun p7 => Rn (d + 1) 179 (5, [.ref l0, .int x1, .long (j2 * ((10 - p7.1 : Int32).toInt64)), un, .int (x4 + 1)], [], p7.2)) else none))) else none :=
  (e_nx f_179_5 rfl).trans ((e_nx f_179_7 rfl).trans ((e_gd f_179_8 rfl).trans (g_congr (Iff.rfl) (fun h1 => (e_nx (q := (_, _, .int 0 :: _, _)) f_179_11 rfl).trans ((e_ia (L := [.ref l0, .int x1, .long j2, un, .int x4]) (r := [.int x4]) (μ := μ) f_179_12).trans (m_congr fun v2 => (e_ge f_179_13 rfl).trans (b_congr (fun h3 => (e_nx f_179_57 rfl).trans (e_rt f_179_58 rfl)) (fun h3 => (e_nx f_179_16 rfl).trans ((e_nx f_179_17 rfl).trans ((e_nx f_179_18 rfl).trans ((e_nx f_179_20 rfl).trans ((e_nx (q := (_, _, .int 1 :: _, _)) f_179_21 rfl).trans ((e_nx f_179_22 rfl).trans ((e_nx (q := (_, _, .int 1 :: _, _)) f_179_23 rfl).trans ((e_ne f_179_24 rfl).trans (b_congr (fun h4 => (e_nx f_179_27 rfl).trans ((e_nx f_179_28 rfl).trans ((e_nx (q := (_, _, .int 2 :: _, _)) f_179_30 rfl).trans ((e_gI (L := [.ref l0, .int x1, .long j2, un, .int x4]) (st := [.int 2, .int x4, .ref l0, .long j2]) (μ := μ) (L' := [.ref l0, .int x1, .long j2, un, .int x4]) (st' := [.long j2]) f_179_31 rfl rfl).trans (g_congr (v_c2 rfl (Nat.le_of_ble_eq_true rfl)) (fun h6 => m_congr fun p5 => (e_nx f_179_34 rfl).trans ((e_nx f_179_35 rfl).trans ((e_nx f_179_49 rfl).trans ((e_nx (q := (_, [.ref l0, .int x1, .long (j2 * ((p5.1 : Int32).toInt64)), un, .int x4], _, _)) f_179_50 rfl).trans ((e_nx (q := (_, [.ref l0, .int x1, .long (j2 * ((p5.1 : Int32).toInt64)), un, .int (x4 + 1)], _, _)) f_179_51 rfl).trans (e_nx f_179_54 rfl))))))))))) (fun h4 => (e_nx (q := (_, _, .int 10 :: _, _)) f_179_38 rfl).trans ((e_nx f_179_40 rfl).trans ((e_nx f_179_41 rfl).trans ((e_nx (q := (_, _, .int 2 :: _, _)) f_179_43 rfl).trans ((e_gI (L := [.ref l0, .int x1, .long j2, un, .int x4]) (st := [.int 2, .int x4, .ref l0, .int 10, .long j2]) (μ := μ) (L' := [.ref l0, .int x1, .long j2, un, .int x4]) (st' := [.int 10, .long j2]) f_179_44 rfl rfl).trans (g_congr (v_c2 rfl (Nat.le_of_ble_eq_true rfl)) (fun h8 => m_congr fun p7 => (e_nx f_179_47 rfl).trans ((e_nx f_179_48 rfl).trans ((e_nx f_179_49 rfl).trans ((e_nx (q := (_, [.ref l0, .int x1, .long (j2 * ((10 - p7.1 : Int32).toInt64)), un, .int x4], _, _)) f_179_50 rfl).trans ((e_nx (q := (_, [.ref l0, .int x1, .long (j2 * ((10 - p7.1 : Int32).toInt64)), un, .int (x4 + 1)], _, _)) f_179_51 rfl).trans (e_nx f_179_54 rfl))))))))))))))))))))))))))))
theorem pg_180 (pc : Nat) : fe0 180 pc = lk prg_180 pc := rfl
theorem f_180_0 : fe0 180 0 = some (.lconst 1, 1, 0, 0, 0, 0, 0) := (pg_180 0).trans rfl
theorem f_180_1 : fe0 180 1 = some (.lstore_n 1, 1, 0, 0, 0, 0, 0) := (pg_180 1).trans rfl
theorem f_180_2 : fe0 180 2 = some (.iconst 0, 1, 0, 0, 0, 0, 0) := (pg_180 2).trans rfl
theorem f_180_3 : fe0 180 3 = some (.istore_n 3, 1, 0, 0, 0, 0, 0) := (pg_180 3).trans rfl
theorem f_180_4 : fe0 180 4 = some (.iload_n 3, 1, 0, 0, 0, 0, 0) := (pg_180 4).trans rfl
theorem f_180_5 : fe0 180 5 = some (.aload_n 0, 1, 0, 0, 0, 0, 0) := (pg_180 5).trans rfl
theorem f_180_6 : fe0 180 6 = some (.getfield 7, 3, 9, 0, 1, 0, 5024) := (pg_180 6).trans rfl
theorem f_180_9 : fe0 180 9 = some (.iconst 0, 1, 0, 0, 0, 0, 0) := (pg_180 9).trans rfl
theorem f_180_10 : fe0 180 10 = some (.iaload, 1, 0, 0, 0, 0, 0) := (pg_180 10).trans rfl
theorem f_180_11 : fe0 180 11 = some (.if_icmp .ge 15, 3, 0, 0, 0, 0, 0) := (pg_180 11).trans rfl
theorem f_180_14 : fe0 180 14 = some (.lload_n 1, 1, 0, 0, 0, 0, 0) := (pg_180 14).trans rfl
theorem f_180_15 : fe0 180 15 = some (.ldc2_w 93, 3, 0, 0, 10, 0, 5148) := (pg_180 15).trans rfl
theorem f_180_18 : fe0 180 18 = some (.lmul, 1, 0, 0, 0, 0, 0) := (pg_180 18).trans rfl
theorem f_180_19 : fe0 180 19 = some (.lstore_n 1, 1, 0, 0, 0, 0, 0) := (pg_180 19).trans rfl
theorem f_180_20 : fe0 180 20 = some (.iinc 3 1, 3, 0, 0, 0, 0, 0) := (pg_180 20).trans rfl
theorem f_180_23 : fe0 180 23 = some (.goto (-19), 3, 0, 0, 0, 0, 0) := (pg_180 23).trans rfl
theorem f_180_26 : fe0 180 26 = some (.lload_n 1, 1, 0, 0, 0, 0, 0) := (pg_180 26).trans rfl
theorem f_180_27 : fe0 180 27 = some (.lreturn, 1, 0, 0, 0, 0, 0) := (pg_180 27).trans rfl
theorem q_180_0 (d : Nat) (l0 : Nat) (μ : aMem) : Rn d 180 (0, [.ref l0, un, un, un], [], μ) = Rn d 180 (4, [.ref l0, .long 1, un, .int 0], [], μ) :=
  (e_nx (q := (_, _, .long 1 :: _, _)) f_180_0 rfl).trans ((e_nx (q := (_, [.ref l0, .long 1, un, un], _, _)) f_180_1 rfl).trans ((e_nx (q := (_, _, .int 0 :: _, _)) f_180_2 rfl).trans (e_nx (q := (_, [.ref l0, .long 1, un, .int 0], _, _)) f_180_3 rfl)))
theorem q_180_4 (d : Nat) (l0 : Nat) (j1 : Int64) (x3 : Int32) (μ : aMem) : Rn d 180 (4, [.ref l0, .long j1, un, .int x3], [], μ) = if (mS μ l0).1 = 9 then ((rdI μ (mR μ l0 0) 0).bind fun v2 => if v2 ≤ x3 then (some (some (.long j1), μ)) else (Rn d 180 (4, [.ref l0, .long (j1 * 10), un, .int (x3 + 1)], [], μ))) else none :=
  (e_nx f_180_4 rfl).trans ((e_nx f_180_5 rfl).trans ((e_gd f_180_6 rfl).trans (g_congr (Iff.rfl) (fun h1 => (e_nx (q := (_, _, .int 0 :: _, _)) f_180_9 rfl).trans ((e_ia (L := [.ref l0, .long j1, un, .int x3]) (r := [.int x3]) (μ := μ) f_180_10).trans (m_congr fun v2 => (e_ge f_180_11 rfl).trans (b_congr (fun h3 => (e_nx f_180_26 rfl).trans (e_rt f_180_27 rfl)) (fun h3 => (e_nx f_180_14 rfl).trans ((e_nx (q := (_, _, .long 10 :: _, _)) f_180_15 rfl).trans ((e_nx f_180_18 rfl).trans ((e_nx (q := (_, [.ref l0, .long (j1 * 10), un, .int x3], _, _)) f_180_19 rfl).trans ((e_nx (q := (_, [.ref l0, .long (j1 * 10), un, .int (x3 + 1)], _, _)) f_180_20 rfl).trans (e_nx f_180_23 rfl)))))))))))))
theorem pg_181 (pc : Nat) : fe0 181 pc = lk prg_181 pc := rfl
theorem f_181_0 : fe0 181 0 = some (.aload_n 0, 1, 0, 0, 0, 0, 0) := (pg_181 0).trans rfl
theorem f_181_1 : fe0 181 1 = some (.invokevirtual 131, 3, 152, 0, 0, 9, 5222) := (pg_181 1).trans rfl
theorem f_181_4 : fe0 181 4 = some (.lconst 0, 1, 0, 0, 0, 0, 0) := (pg_181 4).trans rfl
theorem f_181_5 : fe0 181 5 = some (.lstore_n 2, 1, 0, 0, 0, 0, 0) := (pg_181 5).trans rfl
theorem f_181_6 : fe0 181 6 = some (.iconst 0, 1, 0, 0, 0, 0, 0) := (pg_181 6).trans rfl
theorem f_181_7 : fe0 181 7 = some (.istore 4, 2, 0, 0, 0, 0, 0) := (pg_181 7).trans rfl
theorem f_181_9 : fe0 181 9 = some (.iload 4, 2, 0, 0, 0, 0, 0) := (pg_181 9).trans rfl
theorem f_181_11 : fe0 181 11 = some (.iconst 1, 1, 0, 0, 0, 0, 0) := (pg_181 11).trans rfl
theorem f_181_12 : fe0 181 12 = some (.aload_n 0, 1, 0, 0, 0, 0, 0) := (pg_181 12).trans rfl
theorem f_181_13 : fe0 181 13 = some (.getfield 7, 3, 9, 0, 1, 0, 5024) := (pg_181 13).trans rfl
theorem f_181_16 : fe0 181 16 = some (.iconst 0, 1, 0, 0, 0, 0, 0) := (pg_181 16).trans rfl
theorem f_181_17 : fe0 181 17 = some (.iaload, 1, 0, 0, 0, 0, 0) := (pg_181 17).trans rfl
theorem f_181_18 : fe0 181 18 = some (.ishl, 1, 0, 0, 0, 0, 0) := (pg_181 18).trans rfl
theorem f_181_19 : fe0 181 19 = some (.if_icmp .ge 47, 3, 0, 0, 0, 0, 0) := (pg_181 19).trans rfl
theorem f_181_22 : fe0 181 22 = some (.aload_n 0, 1, 0, 0, 0, 0, 0) := (pg_181 22).trans rfl
theorem f_181_23 : fe0 181 23 = some (.iload 4, 2, 0, 0, 0, 0, 0) := (pg_181 23).trans rfl
theorem f_181_25 : fe0 181 25 = some (.invokevirtual 199, 3, 179, 1, 0, 9, 6098) := (pg_181 25).trans rfl
theorem f_181_28 : fe0 181 28 = some (.lstore 5, 2, 0, 0, 0, 0, 0) := (pg_181 28).trans rfl
theorem f_181_30 : fe0 181 30 = some (.lload 5, 2, 0, 0, 0, 0, 0) := (pg_181 30).trans rfl
theorem f_181_32 : fe0 181 32 = some (.lconst 0, 1, 0, 0, 0, 0, 0) := (pg_181 32).trans rfl
theorem f_181_33 : fe0 181 33 = some (.lcmp, 1, 0, 0, 0, 0, 0) := (pg_181 33).trans rfl
theorem f_181_34 : fe0 181 34 = some (.ifCond .le 26, 3, 0, 0, 0, 0, 0) := (pg_181 34).trans rfl
theorem f_181_37 : fe0 181 37 = some (.aload_n 0, 1, 0, 0, 0, 0, 0) := (pg_181 37).trans rfl
theorem f_181_38 : fe0 181 38 = some (.iload 4, 2, 0, 0, 0, 0, 0) := (pg_181 38).trans rfl
theorem f_181_40 : fe0 181 40 = some (.invokevirtual 203, 3, 178, 1, 0, 9, 6102) := (pg_181 40).trans rfl
theorem f_181_43 : fe0 181 43 = some (.lload_n 2, 1, 0, 0, 0, 0, 0) := (pg_181 43).trans rfl
theorem f_181_44 : fe0 181 44 = some (.aload_n 0, 1, 0, 0, 0, 0, 0) := (pg_181 44).trans rfl
theorem f_181_45 : fe0 181 45 = some (.invokevirtual 143, 3, 154, 0, 0, 9, 5226) := (pg_181 45).trans rfl
theorem f_181_48 : fe0 181 48 = some (.iload_n 1, 1, 0, 0, 0, 0, 0) := (pg_181 48).trans rfl
theorem f_181_49 : fe0 181 49 = some (.if_icmp .gt 8, 3, 0, 0, 0, 0, 0) := (pg_181 49).trans rfl
theorem f_181_52 : fe0 181 52 = some (.lload 5, 2, 0, 0, 0, 0, 0) := (pg_181 52).trans rfl
theorem f_181_54 : fe0 181 54 = some (.goto 4, 3, 0, 0, 0, 0, 0) := (pg_181 54).trans rfl
theorem f_181_57 : fe0 181 57 = some (.lconst 0, 1, 0, 0, 0, 0, 0) := (pg_181 57).trans rfl
theorem f_181_58 : fe0 181 58 = some (.ladd, 1, 0, 0, 0, 0, 0) := (pg_181 58).trans rfl
theorem f_181_59 : fe0 181 59 = some (.lstore_n 2, 1, 0, 0, 0, 0, 0) := (pg_181 59).trans rfl
theorem f_181_60 : fe0 181 60 = some (.iinc 4 1, 3, 0, 0, 0, 0, 0) := (pg_181 60).trans rfl
theorem f_181_63 : fe0 181 63 = some (.goto (-54), 3, 0, 0, 0, 0, 0) := (pg_181 63).trans rfl
theorem f_181_66 : fe0 181 66 = some (.lload_n 2, 1, 0, 0, 0, 0, 0) := (pg_181 66).trans rfl
theorem f_181_67 : fe0 181 67 = some (.lreturn, 1, 0, 0, 0, 0, 0) := (pg_181 67).trans rfl
theorem q_181_0 (d : Nat) (l0 : Nat) (x1 : Int32) (μ : aMem) : Rn (d + 1) 181 (0, [.ref l0, .int x1, un, un, un, un, un], [], μ) = if (mS μ l0).1 = 9 ∧ l0 < 999999 then ((cV d 152 [.ref l0] μ).bind fun p1 => Rn (d + 1) 181 (9, [.ref l0, .int x1, .long 0, un, .int 0, un, un], [], p1)) else none :=
  (e_nx f_181_0 rfl).trans ((e_gV (L := [.ref l0, .int x1, un, un, un, un, un]) (st := [.ref l0]) (μ := μ) (L' := [.ref l0, .int x1, un, un, un, un, un]) (st' := []) f_181_1 rfl rfl).trans (g_congr (v_c2 rfl (Nat.le_of_ble_eq_true rfl)) (fun h2 => m_congr fun p1 => (e_nx (q := (_, _, .long 0 :: _, _)) f_181_4 rfl).trans ((e_nx (q := (_, [.ref l0, .int x1, .long 0, un, un, un, un], _, _)) f_181_5 rfl).trans ((e_nx (q := (_, _, .int 0 :: _, _)) f_181_6 rfl).trans (e_nx (q := (_, [.ref l0, .int x1, .long 0, un, .int 0, un, un], _, _)) f_181_7 rfl))))))
theorem q_181_9 (d : Nat) (l0 : Nat) (x1 : Int32) (j2 : Int64) (x4 : Int32) (w5 : Value) (w6 : Value) (μ : aMem) : Rn (d + 1) 181 (9, [.ref l0, .int x1, .long j2, un, .int x4, w5, w6], [], μ) = if (mS μ l0).1 = 9 then ((rdI μ (mR μ l0 0) 0).bind fun v2 => if (1 <<< (v2 &&& 31)) ≤ x4 then (some (some (.long j2), μ)) else (if (mS μ l0).1 = 9 ∧ l0 < 999999 then ((cJ d 179 [.ref l0, .int x4] μ).bind fun p4 => if (lg_cmp p4.1 0) ≤ 0 then (Rn (d + 1) 181 (9, [.ref l0, .int x1, .long j2, un, .int (x4 + 1), .long p4.1, un], [], p4.2)) else (if (mS p4.2 l0).1 = 9 ∧ l0 < 999999 then ((cV d 178 [.ref l0, .int x4] p4.2).bind fun p7 => if (mS p7 l0).1 = 9 ∧ l0 < 999999 then ((cI d 154 [.ref l0] p7).bind fun p9 => if x1 < p9.1 then (Rn (d + 1) 181 (9, [.ref l0, .int x1, .long (j2 + 0), un, .int (x4 + 1), .long p4.1, un], [], p9.2)) else (Rn (d + 1) 181 (9, [.ref l0, .int x1, .long (j2 + p4.1), un, .int (x4 + 1), .long p4.1, un], [], p9.2))) else none) else none)) else none)) else none :=
  (e_nx f_181_9 rfl).trans ((e_nx (q := (_, _, .int 1 :: _, _)) f_181_11 rfl).trans ((e_nx f_181_12 rfl).trans ((e_gd f_181_13 rfl).trans (g_congr (Iff.rfl) (fun h1 => (e_nx (q := (_, _, .int 0 :: _, _)) f_181_16 rfl).trans ((e_ia (L := [.ref l0, .int x1, .long j2, un, .int x4, w5, w6]) (r := [.int 1, .int x4]) (μ := μ) f_181_17).trans (m_congr fun v2 => (e_nx f_181_18 rfl).trans ((e_ge f_181_19 rfl).trans (b_congr (fun h3 => (e_nx f_181_66 rfl).trans (e_rt f_181_67 rfl)) (fun h3 => (e_nx f_181_22 rfl).trans ((e_nx f_181_23 rfl).trans ((e_gJ (L := [.ref l0, .int x1, .long j2, un, .int x4, w5, w6]) (st := [.int x4, .ref l0]) (μ := μ) (L' := [.ref l0, .int x1, .long j2, un, .int x4, w5, w6]) (st' := []) f_181_25 rfl rfl).trans (g_congr (v_c2 rfl (Nat.le_of_ble_eq_true rfl)) (fun h5 => m_congr fun p4 => (e_nx (q := (_, [.ref l0, .int x1, .long j2, un, .int x4, .long p4.1, un], _, _)) f_181_28 rfl).trans ((e_nx f_181_30 rfl).trans ((e_nx (q := (_, _, .long 0 :: _, _)) f_181_32 rfl).trans ((e_nx f_181_33 rfl).trans ((e_le f_181_34 rfl).trans (b_congr (fun h6 => (e_nx (q := (_, [.ref l0, .int x1, .long j2, un, .int (x4 + 1), .long p4.1, un], _, _)) f_181_60 rfl).trans (e_nx f_181_63 rfl)) (fun h6 => (e_nx f_181_37 rfl).trans ((e_nx f_181_38 rfl).trans ((e_gV (L := [.ref l0, .int x1, .long j2, un, .int x4, .long p4.1, un]) (st := [.int x4, .ref l0]) (μ := p4.2) (L' := [.ref l0, .int x1, .long j2, un, .int x4, .long p4.1, un]) (st' := []) f_181_40 rfl rfl).trans (g_congr (v_c2 rfl (Nat.le_of_ble_eq_true rfl)) (fun h8 => m_congr fun p7 => (e_nx f_181_43 rfl).trans ((e_nx f_181_44 rfl).trans ((e_gI (L := [.ref l0, .int x1, .long j2, un, .int x4, .long p4.1, un]) (st := [.ref l0, .long j2]) (μ := p7) (L' := [.ref l0, .int x1, .long j2, un, .int x4, .long p4.1, un]) (st' := [.long j2]) f_181_45 rfl rfl).trans (g_congr (v_c2 rfl (Nat.le_of_ble_eq_true rfl)) (fun h10 => m_congr fun p9 => (e_nx f_181_48 rfl).trans ((e_gt f_181_49 rfl).trans (b_congr (fun h11 => (e_nx (q := (_, _, .long 0 :: _, _)) f_181_57 rfl).trans ((e_nx f_181_58 rfl).trans ((e_nx (q := (_, [.ref l0, .int x1, .long (j2 + 0), un, .int x4, .long p4.1, un], _, _)) f_181_59 rfl).trans ((e_nx (q := (_, [.ref l0, .int x1, .long (j2 + 0), un, .int (x4 + 1), .long p4.1, un], _, _)) f_181_60 rfl).trans (e_nx f_181_63 rfl))))) (fun h11 => (e_nx f_181_52 rfl).trans ((e_nx f_181_54 rfl).trans ((e_nx f_181_58 rfl).trans ((e_nx (q := (_, [.ref l0, .int x1, .long (j2 + p4.1), un, .int x4, .long p4.1, un], _, _)) f_181_59 rfl).trans ((e_nx (q := (_, [.ref l0, .int x1, .long (j2 + p4.1), un, .int (x4 + 1), .long p4.1, un], _, _)) f_181_60 rfl).trans (e_nx f_181_63 rfl))))))))))))))))))))))))))))))))))))
theorem pg_182 (pc : Nat) : fe0 182 pc = lk prg_182 pc := rfl
theorem f_182_0 : fe0 182 0 = some (.lload_n 0, 1, 0, 0, 0, 0, 0) := (pg_182 0).trans rfl
theorem f_182_1 : fe0 182 1 = some (.lstore 5, 2, 0, 0, 0, 0, 0) := (pg_182 1).trans rfl
theorem f_182_3 : fe0 182 3 = some (.lload_n 2, 1, 0, 0, 0, 0, 0) := (pg_182 3).trans rfl
theorem f_182_4 : fe0 182 4 = some (.lstore 7, 2, 0, 0, 0, 0, 0) := (pg_182 4).trans rfl
theorem f_182_6 : fe0 182 6 = some (.lload 7, 2, 0, 0, 0, 0, 0) := (pg_182 6).trans rfl
theorem f_182_8 : fe0 182 8 = some (.lconst 0, 1, 0, 0, 0, 0, 0) := (pg_182 8).trans rfl
theorem f_182_9 : fe0 182 9 = some (.lcmp, 1, 0, 0, 0, 0, 0) := (pg_182 9).trans rfl
theorem f_182_10 : fe0 182 10 = some (.ifCond .le 21, 3, 0, 0, 0, 0, 0) := (pg_182 10).trans rfl
theorem f_182_13 : fe0 182 13 = some (.lload 5, 2, 0, 0, 0, 0, 0) := (pg_182 13).trans rfl
theorem f_182_15 : fe0 182 15 = some (.lload 7, 2, 0, 0, 0, 0, 0) := (pg_182 15).trans rfl
theorem f_182_17 : fe0 182 17 = some (.lrem, 1, 0, 0, 0, 0, 0) := (pg_182 17).trans rfl
theorem f_182_18 : fe0 182 18 = some (.lstore 9, 2, 0, 0, 0, 0, 0) := (pg_182 18).trans rfl
theorem f_182_20 : fe0 182 20 = some (.lload 7, 2, 0, 0, 0, 0, 0) := (pg_182 20).trans rfl
theorem f_182_22 : fe0 182 22 = some (.lstore 5, 2, 0, 0, 0, 0, 0) := (pg_182 22).trans rfl
theorem f_182_24 : fe0 182 24 = some (.lload 9, 2, 0, 0, 0, 0, 0) := (pg_182 24).trans rfl
theorem f_182_26 : fe0 182 26 = some (.lstore 7, 2, 0, 0, 0, 0, 0) := (pg_182 26).trans rfl
theorem f_182_28 : fe0 182 28 = some (.goto (-22), 3, 0, 0, 0, 0, 0) := (pg_182 28).trans rfl
theorem f_182_31 : fe0 182 31 = some (.iload 4, 2, 0, 0, 0, 0, 0) := (pg_182 31).trans rfl
theorem f_182_33 : fe0 182 33 = some (.ifCond .ne 7, 3, 0, 0, 0, 0, 0) := (pg_182 33).trans rfl
theorem f_182_36 : fe0 182 36 = some (.lload_n 0, 1, 0, 0, 0, 0, 0) := (pg_182 36).trans rfl
theorem f_182_37 : fe0 182 37 = some (.goto 4, 3, 0, 0, 0, 0, 0) := (pg_182 37).trans rfl
theorem f_182_40 : fe0 182 40 = some (.lload_n 2, 1, 0, 0, 0, 0, 0) := (pg_182 40).trans rfl
theorem f_182_41 : fe0 182 41 = some (.lload 5, 2, 0, 0, 0, 0, 0) := (pg_182 41).trans rfl
theorem f_182_43 : fe0 182 43 = some (.ldiv, 1, 0, 0, 0, 0, 0) := (pg_182 43).trans rfl
theorem f_182_44 : fe0 182 44 = some (.lreturn, 1, 0, 0, 0, 0, 0) := (pg_182 44).trans rfl
theorem q_182_0 (d : Nat) (j0 : Int64) (j2 : Int64) (x4 : Int32) (μ : aMem) : Rn d 182 (0, [.long j0, un, .long j2, un, .int x4, un, un, un, un, un, un], [], μ) = Rn d 182 (6, [.long j0, un, .long j2, un, .int x4, .long j0, un, .long j2, un, un, un], [], μ) :=
  (e_nx f_182_0 rfl).trans ((e_nx (q := (_, [.long j0, un, .long j2, un, .int x4, .long j0, un, un, un, un, un], _, _)) f_182_1 rfl).trans ((e_nx f_182_3 rfl).trans (e_nx (q := (_, [.long j0, un, .long j2, un, .int x4, .long j0, un, .long j2, un, un, un], _, _)) f_182_4 rfl)))
theorem q_182_6 (d : Nat) (j0 : Int64) (j2 : Int64) (x4 : Int32) (j5 : Int64) (j7 : Int64) (w9 : Value) (w10 : Value) (μ : aMem) : Rn d 182 (6, [.long j0, un, .long j2, un, .int x4, .long j5, un, .long j7, un, w9, w10], [], μ) = if (lg_cmp j7 0) ≤ 0 then (if x4 = 0 then (if ¬ j5 = 0 then (some (some (.long (j0 / j5)), μ)) else none) else (if ¬ j5 = 0 then (some (some (.long (j2 / j5)), μ)) else none)) else (if ¬ j7 = 0 then (Rn d 182 (6, [.long j0, un, .long j2, un, .int x4, .long j7, un, .long (j5 - j5 / j7 * j7), un, .long (j5 - j5 / j7 * j7), un], [], μ)) else none) :=
  (e_nx f_182_6 rfl).trans ((e_nx (q := (_, _, .long 0 :: _, _)) f_182_8 rfl).trans ((e_nx f_182_9 rfl).trans ((e_le f_182_10 rfl).trans (b_congr (fun h1 => (e_nx f_182_31 rfl).trans ((e_ne f_182_33 rfl).trans (b_congr (fun h2 => (e_nx f_182_36 rfl).trans ((e_nx f_182_37 rfl).trans ((e_nx f_182_41 rfl).trans ((e_gd f_182_43 rfl).trans (g_congr (Iff.rfl) (fun h3 => e_rt f_182_44 rfl)))))) (fun h2 => (e_nx f_182_40 rfl).trans ((e_nx f_182_41 rfl).trans ((e_gd f_182_43 rfl).trans (g_congr (Iff.rfl) (fun h4 => e_rt f_182_44 rfl)))))))) (fun h1 => (e_nx f_182_13 rfl).trans ((e_nx f_182_15 rfl).trans ((e_gd f_182_17 rfl).trans (g_congr (Iff.rfl) (fun h5 => (e_nx (q := (_, [.long j0, un, .long j2, un, .int x4, .long j5, un, .long j7, un, .long (j5 - j5 / j7 * j7), un], _, _)) f_182_18 rfl).trans ((e_nx f_182_20 rfl).trans ((e_nx (q := (_, [.long j0, un, .long j2, un, .int x4, .long j7, un, .long j7, un, .long (j5 - j5 / j7 * j7), un], _, _)) f_182_22 rfl).trans ((e_nx f_182_24 rfl).trans ((e_nx (q := (_, [.long j0, un, .long j2, un, .int x4, .long j7, un, .long (j5 - j5 / j7 * j7), un, .long (j5 - j5 / j7 * j7), un], _, _)) f_182_26 rfl).trans (e_nx f_182_28 rfl))))))))))))))
theorem pg_183 (pc : Nat) : fe0 183 pc = lk prg_183 pc := rfl
theorem f_183_0 : fe0 183 0 = some (.iload_n 1, 1, 0, 0, 0, 0, 0) := (pg_183 0).trans rfl
theorem f_183_1 : fe0 183 1 = some (.i2l, 1, 0, 0, 0, 0, 0) := (pg_183 1).trans rfl
theorem f_183_2 : fe0 183 2 = some (.lconst 0, 1, 0, 0, 0, 0, 0) := (pg_183 2).trans rfl
theorem f_183_3 : fe0 183 3 = some (.ldc2_w 174, 3, 0, 0, 9999, 0, 6027) := (pg_183 3).trans rfl
theorem f_183_6 : fe0 183 6 = some (.invokestatic 84, 3, 133, 3, 2, 0, 5144) := (pg_183 6).trans rfl
theorem f_183_9 : fe0 183 9 = some (.ifCond .eq 13, 3, 0, 0, 0, 0, 0) := (pg_183 9).trans rfl
theorem f_183_12 : fe0 183 12 = some (.iload_n 2, 1, 0, 0, 0, 0, 0) := (pg_183 12).trans rfl
theorem f_183_13 : fe0 183 13 = some (.i2l, 1, 0, 0, 0, 0, 0) := (pg_183 13).trans rfl
theorem f_183_14 : fe0 183 14 = some (.lconst 0, 1, 0, 0, 0, 0, 0) := (pg_183 14).trans rfl
theorem f_183_15 : fe0 183 15 = some (.lconst 1, 1, 0, 0, 0, 0, 0) := (pg_183 15).trans rfl
theorem f_183_16 : fe0 183 16 = some (.invokestatic 84, 3, 133, 3, 2, 0, 5144) := (pg_183 16).trans rfl
theorem f_183_19 : fe0 183 19 = some (.ifCond .ne 7, 3, 0, 0, 0, 0, 0) := (pg_183 19).trans rfl
theorem f_183_22 : fe0 183 22 = some (.ldc2_w 207, 3, 0, 0, 18446744072709551615, 0, 6093) := (pg_183 22).trans rfl
theorem f_183_25 : fe0 183 25 = some (.lreturn, 1, 0, 0, 0, 0, 0) := (pg_183 25).trans rfl
theorem f_183_26 : fe0 183 26 = some (.aload_n 0, 1, 0, 0, 0, 0, 0) := (pg_183 26).trans rfl
theorem f_183_27 : fe0 183 27 = some (.iload_n 1, 1, 0, 0, 0, 0, 0) := (pg_183 27).trans rfl
theorem f_183_28 : fe0 183 28 = some (.invokevirtual 209, 3, 181, 1, 0, 9, 6094) := (pg_183 28).trans rfl
theorem f_183_31 : fe0 183 31 = some (.aload_n 0, 1, 0, 0, 0, 0, 0) := (pg_183 31).trans rfl
theorem f_183_32 : fe0 183 32 = some (.invokevirtual 212, 3, 180, 0, 0, 9, 6106) := (pg_183 32).trans rfl
theorem f_183_35 : fe0 183 35 = some (.iload_n 2, 1, 0, 0, 0, 0, 0) := (pg_183 35).trans rfl
theorem f_183_36 : fe0 183 36 = some (.invokestatic 216, 3, 182, 3, 2, 0, 6110) := (pg_183 36).trans rfl
theorem f_183_39 : fe0 183 39 = some (.lreturn, 1, 0, 0, 0, 0, 0) := (pg_183 39).trans rfl
theorem q_183_0 (d : Nat) (l0 : Nat) (x1 : Int32) (x2 : Int32) (μ : aMem) : Rn (d + 1) 183 (0, [.ref l0, .int x1, .int x2], [], μ) = (cI d 133 [.long ((x1 : Int32).toInt64), .long 0, .long 9999] μ).bind fun p1 => if p1.1 = 0 then (some (some (.long (-1000000001)), p1.2)) else ((cI d 133 [.long ((x2 : Int32).toInt64), .long 0, .long 1] p1.2).bind fun p3 => if p3.1 = 0 then (some (some (.long (-1000000001)), p3.2)) else (if (mS p3.2 l0).1 = 9 ∧ l0 < 999999 then ((cJ d 181 [.ref l0, .int x1] p3.2).bind fun p5 => if (mS p5.2 l0).1 = 9 ∧ l0 < 999999 then ((cJ d 180 [.ref l0] p5.2).bind fun p7 => (cJ d 182 [.long p5.1, .long p7.1, .int x2] p7.2).bind fun p9 => some (some (.long p9.1), p9.2)) else none) else none)) :=
  (e_nx f_183_0 rfl).trans ((e_nx f_183_1 rfl).trans ((e_nx (q := (_, _, .long 0 :: _, _)) f_183_2 rfl).trans ((e_nx (q := (_, _, .long 9999 :: _, _)) f_183_3 rfl).trans ((e_cI (L := [.ref l0, .int x1, .int x2]) (st := [.long 9999, .long 0, .long ((x1 : Int32).toInt64)]) (μ := μ) (L' := [.ref l0, .int x1, .int x2]) (st' := []) f_183_6 rfl rfl).trans (m_congr fun p1 => (e_eq f_183_9 rfl).trans (b_congr (fun h2 => (e_nx (q := (_, _, .long (-1000000001) :: _, _)) f_183_22 rfl).trans (e_rt f_183_25 rfl)) (fun h2 => (e_nx f_183_12 rfl).trans ((e_nx f_183_13 rfl).trans ((e_nx (q := (_, _, .long 0 :: _, _)) f_183_14 rfl).trans ((e_nx (q := (_, _, .long 1 :: _, _)) f_183_15 rfl).trans ((e_cI (L := [.ref l0, .int x1, .int x2]) (st := [.long 1, .long 0, .long ((x2 : Int32).toInt64)]) (μ := p1.2) (L' := [.ref l0, .int x1, .int x2]) (st' := []) f_183_16 rfl rfl).trans (m_congr fun p3 => (e_ne f_183_19 rfl).trans (b_congr (fun h4 => (e_nx (q := (_, _, .long (-1000000001) :: _, _)) f_183_22 rfl).trans (e_rt f_183_25 rfl)) (fun h4 => (e_nx f_183_26 rfl).trans ((e_nx f_183_27 rfl).trans ((e_gJ (L := [.ref l0, .int x1, .int x2]) (st := [.int x1, .ref l0]) (μ := p3.2) (L' := [.ref l0, .int x1, .int x2]) (st' := []) f_183_28 rfl rfl).trans (g_congr (v_c2 rfl (Nat.le_of_ble_eq_true rfl)) (fun h6 => m_congr fun p5 => (e_nx f_183_31 rfl).trans ((e_gJ (L := [.ref l0, .int x1, .int x2]) (st := [.ref l0, .long p5.1]) (μ := p5.2) (L' := [.ref l0, .int x1, .int x2]) (st' := [.long p5.1]) f_183_32 rfl rfl).trans (g_congr (v_c2 rfl (Nat.le_of_ble_eq_true rfl)) (fun h8 => m_congr fun p7 => (e_nx f_183_35 rfl).trans ((e_cJ (L := [.ref l0, .int x1, .int x2]) (st := [.int x2, .long p7.1, .long p5.1]) (μ := p7.2) (L' := [.ref l0, .int x1, .int x2]) (st' := []) f_183_36 rfl rfl).trans (m_congr fun p9 => e_rt f_183_39 rfl)))))))))))))))))))))))
