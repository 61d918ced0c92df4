theorem pg_37 (pc : Nat) : fe0 37 pc = lk prg_37 pc := rfl
theorem f_37_0 : fe0 37 0 = some (.aload_n 0, 1, 0, 0, 0, 0, 0) := (pg_37 0).trans rfl
theorem f_37_1 : fe0 37 1 = some (.iload_n 1, 1, 0, 0, 0, 0, 0) := (pg_37 1).trans rfl
theorem f_37_2 : fe0 37 2 = some (.invokevirtual 128, 3, 33, 1, 0, 3, 3224) := (pg_37 2).trans rfl
theorem f_37_5 : fe0 37 5 = some (.aload_n 0, 1, 0, 0, 0, 0, 0) := (pg_37 5).trans rfl
theorem f_37_6 : fe0 37 6 = some (.dup, 1, 0, 0, 0, 0, 0) := (pg_37 6).trans rfl
theorem f_37_7 : fe0 37 7 = some (.getfield 40, 3, 3, 5, 0, 0, 1180) := (pg_37 7).trans rfl
theorem f_37_10 : fe0 37 10 = some (.iconst 1, 1, 0, 0, 0, 0, 0) := (pg_37 10).trans rfl
theorem f_37_11 : fe0 37 11 = some (.iadd, 1, 0, 0, 0, 0, 0) := (pg_37 11).trans rfl
theorem f_37_12 : fe0 37 12 = some (.putfield 40, 3, 3, 5, 0, 0, 1180) := (pg_37 12).trans rfl
theorem f_37_15 : fe0 37 15 = some (.aload_n 0, 1, 0, 0, 0, 0, 0) := (pg_37 15).trans rfl
theorem f_37_16 : fe0 37 16 = some (.invokevirtual 52, 3, 26, 0, 0, 3, 3135) := (pg_37 16).trans rfl
theorem f_37_19 : fe0 37 19 = some (.return_, 1, 0, 0, 0, 0, 0) := (pg_37 19).trans rfl
theorem q_37_0 (d : Nat) (l0 : Nat) (x1 : Int32) (μ : aMem) : Rn (d + 1) 37 (0, [.ref l0, .int x1], [], μ) = if (mS μ l0).1 = 3 ∧ l0 < 999999 then ((cV d 33 [.ref l0, .int x1] μ).bind fun p1 => if (mS p1 l0).1 = 3 then (if (mS p1 l0).1 = 3 ∧ l0 < 999999 then ((cV d 26 [.ref l0] (setF p1 l0 5 ((mF p1 l0 5) + 1))).bind fun p4 => some (none, p4)) else none) else none) else none :=
  (e_nx f_37_0 rfl).trans ((e_nx f_37_1 rfl).trans ((e_gV (L := [.ref l0, .int x1]) (st := [.int x1, .ref l0]) (μ := μ) (L' := [.ref l0, .int x1]) (st' := []) f_37_2 rfl rfl).trans (g_congr (v_c2 rfl (Nat.le_of_ble_eq_true rfl)) (fun h2 => m_congr fun p1 => (e_nx f_37_5 rfl).trans ((e_nx f_37_6 rfl).trans ((e_gd f_37_7 rfl).trans (g_congr (Iff.rfl) (fun h3 => (e_nx (q := (_, _, .int 1 :: _, _)) f_37_10 rfl).trans ((e_nx f_37_11 rfl).trans ((e_gk (L := [.ref l0, .int x1]) (st := [.int ((mF p1 l0 5) + 1), .ref l0]) (μ := p1) f_37_12 ((pi_iff rfl).mpr h3) rfl).trans ((e_nx f_37_15 rfl).trans ((e_gV (L := [.ref l0, .int x1]) (st := [.ref l0]) (μ := setF p1 l0 5 ((mF p1 l0 5) + 1)) (L' := [.ref l0, .int x1]) (st' := []) f_37_16 rfl rfl).trans (g_congr (v_c2 rfl (Nat.le_of_ble_eq_true rfl)) (fun h5 => m_congr fun p4 => e_rt f_37_19 rfl))))))))))))))
theorem pg_38 (pc : Nat) : fe0 38 pc = lk prg_38 pc := rfl
theorem f_38_0 : fe0 38 0 = some (.aload_n 0, 1, 0, 0, 0, 0, 0) := (pg_38 0).trans rfl
theorem f_38_1 : fe0 38 1 = some (.invokespecial 3, 3, 0, 0, 6, 0, 1134) := (pg_38 1).trans rfl
theorem f_38_4 : fe0 38 4 = some (.aload_n 0, 1, 0, 0, 0, 0, 0) := (pg_38 4).trans rfl
theorem f_38_5 : fe0 38 5 = some (.bipush 10, 2, 0, 0, 0, 0, 0) := (pg_38 5).trans rfl
theorem f_38_7 : fe0 38 7 = some (.newarray .int, 2, 10, 0, 0, 0, 0) := (pg_38 7).trans rfl
theorem f_38_9 : fe0 38 9 = some (.putfield 9, 3, 4, 0, 1, 0, 1135) := (pg_38 9).trans rfl
theorem f_38_12 : fe0 38 12 = some (.aload_n 0, 1, 0, 0, 0, 0, 0) := (pg_38 12).trans rfl
theorem f_38_13 : fe0 38 13 = some (.bipush 10, 2, 0, 0, 0, 0, 0) := (pg_38 13).trans rfl
theorem f_38_15 : fe0 38 15 = some (.newarray .int, 2, 10, 0, 0, 0, 0) := (pg_38 15).trans rfl
theorem f_38_17 : fe0 38 17 = some (.putfield 15, 3, 4, 1, 1, 0, 1136) := (pg_38 17).trans rfl
theorem f_38_20 : fe0 38 20 = some (.aload_n 0, 1, 0, 0, 0, 0, 0) := (pg_38 20).trans rfl
theorem f_38_21 : fe0 38 21 = some (.bipush 10, 2, 0, 0, 0, 0, 0) := (pg_38 21).trans rfl
theorem f_38_23 : fe0 38 23 = some (.newarray .int, 2, 10, 0, 0, 0, 0) := (pg_38 23).trans rfl
theorem f_38_25 : fe0 38 25 = some (.putfield 18, 3, 4, 2, 1, 0, 1137) := (pg_38 25).trans rfl
theorem f_38_28 : fe0 38 28 = some (.aload_n 0, 1, 0, 0, 0, 0, 0) := (pg_38 28).trans rfl
theorem f_38_29 : fe0 38 29 = some (.bipush 10, 2, 0, 0, 0, 0, 0) := (pg_38 29).trans rfl
theorem f_38_31 : fe0 38 31 = some (.newarray .int, 2, 10, 0, 0, 0, 0) := (pg_38 31).trans rfl
theorem f_38_33 : fe0 38 33 = some (.putfield 21, 3, 4, 3, 1, 0, 1138) := (pg_38 33).trans rfl
theorem f_38_36 : fe0 38 36 = some (.aload_n 0, 1, 0, 0, 0, 0, 0) := (pg_38 36).trans rfl
theorem f_38_37 : fe0 38 37 = some (.bipush 10, 2, 0, 0, 0, 0, 0) := (pg_38 37).trans rfl
theorem f_38_39 : fe0 38 39 = some (.newarray .int, 2, 10, 0, 0, 0, 0) := (pg_38 39).trans rfl
theorem f_38_41 : fe0 38 41 = some (.putfield 24, 3, 4, 4, 1, 0, 1139) := (pg_38 41).trans rfl
theorem f_38_44 : fe0 38 44 = some (.aload_n 0, 1, 0, 0, 0, 0, 0) := (pg_38 44).trans rfl
theorem f_38_45 : fe0 38 45 = some (.bipush 10, 2, 0, 0, 0, 0, 0) := (pg_38 45).trans rfl
theorem f_38_47 : fe0 38 47 = some (.newarray .int, 2, 10, 0, 0, 0, 0) := (pg_38 47).trans rfl
theorem f_38_49 : fe0 38 49 = some (.putfield 27, 3, 4, 5, 1, 0, 1140) := (pg_38 49).trans rfl
theorem f_38_52 : fe0 38 52 = some (.aload_n 0, 1, 0, 0, 0, 0, 0) := (pg_38 52).trans rfl
theorem f_38_53 : fe0 38 53 = some (.bipush 96, 2, 0, 0, 0, 0, 0) := (pg_38 53).trans rfl
theorem f_38_55 : fe0 38 55 = some (.newarray .int, 2, 10, 0, 0, 0, 0) := (pg_38 55).trans rfl
theorem f_38_57 : fe0 38 57 = some (.putfield 30, 3, 4, 6, 1, 0, 1141) := (pg_38 57).trans rfl
theorem f_38_60 : fe0 38 60 = some (.aload_n 0, 1, 0, 0, 0, 0, 0) := (pg_38 60).trans rfl
theorem f_38_61 : fe0 38 61 = some (.sipush 2981, 3, 0, 0, 0, 0, 0) := (pg_38 61).trans rfl
theorem f_38_64 : fe0 38 64 = some (.newarray .long, 2, 11, 0, 0, 0, 0) := (pg_38 64).trans rfl
theorem f_38_66 : fe0 38 66 = some (.putfield 33, 3, 4, 7, 1, 0, 1142) := (pg_38 66).trans rfl
theorem f_38_69 : fe0 38 69 = some (.return_, 1, 0, 0, 0, 0, 0) := (pg_38 69).trans rfl
theorem q_38_0 (d : Nat) (l0 : Nat) (μ : aMem) : Rn d 38 (0, [.ref l0], [], μ) = if l0 < 999999 then (if mN μ < 900000 then (if (mS (newC μ 10 (ix 10)) l0).1 = 4 ∧ (mN μ) ≤ 999999 then (Rn d 38 (12, [.ref l0], [], setR (newC μ 10 (ix 10)) l0 0 (mN μ))) else none) else none) else none :=
  (e_nx f_38_0 rfl).trans ((e_gd (L := [.ref l0]) (st := [.ref l0]) (μ := μ) f_38_1 rfl).trans (g_congr (oi_iff (Nat.le_of_ble_eq_true rfl)) (fun h1 => (e_nx f_38_4 rfl).trans ((e_nx (q := (_, _, .int 10 :: _, _)) f_38_5 rfl).trans ((e_gd (L := [.ref l0]) (st := [.int 10, .ref l0]) (μ := μ) f_38_7 rfl).trans (g_congr (na_iff (by decide)) (fun h2 => (e_gd f_38_9 rfl).trans (g_congr (pr_iff rfl) (fun h3 => rfl)))))))))
theorem q_38_12 (d : Nat) (l0 : Nat) (μ : aMem) : Rn d 38 (12, [.ref l0], [], μ) = if mN μ < 900000 then (if (mS (newC μ 10 (ix 10)) l0).1 = 4 ∧ (mN μ) ≤ 999999 then (Rn d 38 (20, [.ref l0], [], setR (newC μ 10 (ix 10)) l0 1 (mN μ))) else none) else none :=
  (e_nx f_38_12 rfl).trans ((e_nx (q := (_, _, .int 10 :: _, _)) f_38_13 rfl).trans ((e_gd (L := [.ref l0]) (st := [.int 10, .ref l0]) (μ := μ) f_38_15 rfl).trans (g_congr (na_iff (by decide)) (fun h1 => (e_gd f_38_17 rfl).trans (g_congr (pr_iff rfl) (fun h2 => rfl))))))
theorem q_38_20 (d : Nat) (l0 : Nat) (μ : aMem) : Rn d 38 (20, [.ref l0], [], μ) = if mN μ < 900000 then (if (mS (newC μ 10 (ix 10)) l0).1 = 4 ∧ (mN μ) ≤ 999999 then (Rn d 38 (28, [.ref l0], [], setR (newC μ 10 (ix 10)) l0 2 (mN μ))) else none) else none :=
  (e_nx f_38_20 rfl).trans ((e_nx (q := (_, _, .int 10 :: _, _)) f_38_21 rfl).trans ((e_gd (L := [.ref l0]) (st := [.int 10, .ref l0]) (μ := μ) f_38_23 rfl).trans (g_congr (na_iff (by decide)) (fun h1 => (e_gd f_38_25 rfl).trans (g_congr (pr_iff rfl) (fun h2 => rfl))))))
theorem q_38_28 (d : Nat) (l0 : Nat) (μ : aMem) : Rn d 38 (28, [.ref l0], [], μ) = if mN μ < 900000 then (if (mS (newC μ 10 (ix 10)) l0).1 = 4 ∧ (mN μ) ≤ 999999 then (Rn d 38 (36, [.ref l0], [], setR (newC μ 10 (ix 10)) l0 3 (mN μ))) else none) else none :=
  (e_nx f_38_28 rfl).trans ((e_nx (q := (_, _, .int 10 :: _, _)) f_38_29 rfl).trans ((e_gd (L := [.ref l0]) (st := [.int 10, .ref l0]) (μ := μ) f_38_31 rfl).trans (g_congr (na_iff (by decide)) (fun h1 => (e_gd f_38_33 rfl).trans (g_congr (pr_iff rfl) (fun h2 => rfl))))))
theorem q_38_36 (d : Nat) (l0 : Nat) (μ : aMem) : Rn d 38 (36, [.ref l0], [], μ) = if mN μ < 900000 then (if (mS (newC μ 10 (ix 10)) l0).1 = 4 ∧ (mN μ) ≤ 999999 then (Rn d 38 (44, [.ref l0], [], setR (newC μ 10 (ix 10)) l0 4 (mN μ))) else none) else none :=
  (e_nx f_38_36 rfl).trans ((e_nx (q := (_, _, .int 10 :: _, _)) f_38_37 rfl).trans ((e_gd (L := [.ref l0]) (st := [.int 10, .ref l0]) (μ := μ) f_38_39 rfl).trans (g_congr (na_iff (by decide)) (fun h1 => (e_gd f_38_41 rfl).trans (g_congr (pr_iff rfl) (fun h2 => rfl))))))
theorem q_38_44 (d : Nat) (l0 : Nat) (μ : aMem) : Rn d 38 (44, [.ref l0], [], μ) = if mN μ < 900000 then (if (mS (newC μ 10 (ix 10)) l0).1 = 4 ∧ (mN μ) ≤ 999999 then (Rn d 38 (52, [.ref l0], [], setR (newC μ 10 (ix 10)) l0 5 (mN μ))) else none) else none :=
  (e_nx f_38_44 rfl).trans ((e_nx (q := (_, _, .int 10 :: _, _)) f_38_45 rfl).trans ((e_gd (L := [.ref l0]) (st := [.int 10, .ref l0]) (μ := μ) f_38_47 rfl).trans (g_congr (na_iff (by decide)) (fun h1 => (e_gd f_38_49 rfl).trans (g_congr (pr_iff rfl) (fun h2 => rfl))))))
theorem q_38_52 (d : Nat) (l0 : Nat) (μ : aMem) : Rn d 38 (52, [.ref l0], [], μ) = if mN μ < 900000 then (if (mS (newC μ 10 (ix 96)) l0).1 = 4 ∧ (mN μ) ≤ 999999 then (Rn d 38 (60, [.ref l0], [], setR (newC μ 10 (ix 96)) l0 6 (mN μ))) else none) else none :=
  (e_nx f_38_52 rfl).trans ((e_nx (q := (_, _, .int 96 :: _, _)) f_38_53 rfl).trans ((e_gd (L := [.ref l0]) (st := [.int 96, .ref l0]) (μ := μ) f_38_55 rfl).trans (g_congr (na_iff (by decide)) (fun h1 => (e_gd f_38_57 rfl).trans (g_congr (pr_iff rfl) (fun h2 => rfl))))))
theorem q_38_60 (d : Nat) (l0 : Nat) (μ : aMem) : Rn d 38 (60, [.ref l0], [], μ) = if mN μ < 900000 then (if (mS (newC μ 11 (ix 2981)) l0).1 = 4 ∧ (mN μ) ≤ 999999 then (Rn d 38 (69, [.ref l0], [], setR (newC μ 11 (ix 2981)) l0 7 (mN μ))) else none) else none :=
  (e_nx f_38_60 rfl).trans ((e_nx (q := (_, _, .int 2981 :: _, _)) f_38_61 rfl).trans ((e_gd (L := [.ref l0]) (st := [.int 2981, .ref l0]) (μ := μ) f_38_64 rfl).trans (g_congr (na_iff (by decide)) (fun h1 => (e_gd f_38_66 rfl).trans (g_congr (pr_iff rfl) (fun h2 => rfl))))))
theorem q_38_69 (d : Nat) (l0 : Nat) (μ : aMem) : Rn d 38 (69, [.ref l0], [], μ) = some (none, μ) :=
  e_rt f_38_69 rfl
theorem pg_39 (pc : Nat) : fe0 39 pc = lk prg_39 pc := rfl
theorem f_39_0 : fe0 39 0 = some (.iconst 0, 1, 0, 0, 0, 0, 0) := (pg_39 0).trans rfl
theorem f_39_1 : fe0 39 1 = some (.istore 5, 2, 0, 0, 0, 0, 0) := (pg_39 1).trans rfl
theorem f_39_3 : fe0 39 3 = some (.iconst 0, 1, 0, 0, 0, 0, 0) := (pg_39 3).trans rfl
theorem f_39_4 : fe0 39 4 = some (.istore 6, 2, 0, 0, 0, 0, 0) := (pg_39 4).trans rfl
theorem f_39_6 : fe0 39 6 = some (.iload 6, 2, 0, 0, 0, 0, 0) := (pg_39 6).trans rfl
theorem f_39_8 : fe0 39 8 = some (.aload_n 1, 1, 0, 0, 0, 0, 0) := (pg_39 8).trans rfl
theorem f_39_9 : fe0 39 9 = some (.getfield 37, 3, 7, 2, 1, 0, 4090) := (pg_39 9).trans rfl
theorem f_39_12 : fe0 39 12 = some (.arraylength, 1, 0, 0, 0, 0, 0) := (pg_39 12).trans rfl
theorem f_39_13 : fe0 39 13 = some (.if_icmp .ge 160, 3, 0, 0, 0, 0, 0) := (pg_39 13).trans rfl
theorem f_39_16 : fe0 39 16 = some (.aload_n 1, 1, 0, 0, 0, 0, 0) := (pg_39 16).trans rfl
theorem f_39_17 : fe0 39 17 = some (.getfield 37, 3, 7, 2, 1, 0, 4090) := (pg_39 17).trans rfl
theorem f_39_20 : fe0 39 20 = some (.iload 6, 2, 0, 0, 0, 0, 0) := (pg_39 20).trans rfl
theorem f_39_22 : fe0 39 22 = some (.iaload, 1, 0, 0, 0, 0, 0) := (pg_39 22).trans rfl
theorem f_39_23 : fe0 39 23 = some (.istore 7, 2, 0, 0, 0, 0, 0) := (pg_39 23).trans rfl
theorem f_39_25 : fe0 39 25 = some (.iload 7, 2, 0, 0, 0, 0, 0) := (pg_39 25).trans rfl
theorem f_39_27 : fe0 39 27 = some (.bipush (-3), 2, 0, 0, 0, 0, 0) := (pg_39 27).trans rfl
theorem f_39_29 : fe0 39 29 = some (.if_icmp .lt 56, 3, 0, 0, 0, 0, 0) := (pg_39 29).trans rfl
theorem f_39_32 : fe0 39 32 = some (.iload 5, 2, 0, 0, 0, 0, 0) := (pg_39 32).trans rfl
theorem f_39_34 : fe0 39 34 = some (.bipush 96, 2, 0, 0, 0, 0, 0) := (pg_39 34).trans rfl
theorem f_39_36 : fe0 39 36 = some (.if_icmp .ge 131, 3, 0, 0, 0, 0, 0) := (pg_39 36).trans rfl
theorem f_39_39 : fe0 39 39 = some (.aload_n 0, 1, 0, 0, 0, 0, 0) := (pg_39 39).trans rfl
theorem f_39_40 : fe0 39 40 = some (.getfield 30, 3, 4, 6, 1, 0, 1141) := (pg_39 40).trans rfl
theorem f_39_43 : fe0 39 43 = some (.iload 5, 2, 0, 0, 0, 0, 0) := (pg_39 43).trans rfl
theorem f_39_45 : fe0 39 45 = some (.iload 7, 2, 0, 0, 0, 0, 0) := (pg_39 45).trans rfl
theorem f_39_47 : fe0 39 47 = some (.ifCond .lt 8, 3, 0, 0, 0, 0, 0) := (pg_39 47).trans rfl
theorem f_39_50 : fe0 39 50 = some (.iload 7, 2, 0, 0, 0, 0, 0) := (pg_39 50).trans rfl
theorem f_39_52 : fe0 39 52 = some (.goto 26, 3, 0, 0, 0, 0, 0) := (pg_39 52).trans rfl
theorem f_39_55 : fe0 39 55 = some (.iload 7, 2, 0, 0, 0, 0, 0) := (pg_39 55).trans rfl
theorem f_39_57 : fe0 39 57 = some (.iconst (-1), 1, 0, 0, 0, 0, 0) := (pg_39 57).trans rfl
theorem f_39_58 : fe0 39 58 = some (.if_icmp .ne 7, 3, 0, 0, 0, 0, 0) := (pg_39 58).trans rfl
theorem f_39_61 : fe0 39 61 = some (.iload_n 2, 1, 0, 0, 0, 0, 0) := (pg_39 61).trans rfl
theorem f_39_62 : fe0 39 62 = some (.goto 16, 3, 0, 0, 0, 0, 0) := (pg_39 62).trans rfl
theorem f_39_65 : fe0 39 65 = some (.iload 7, 2, 0, 0, 0, 0, 0) := (pg_39 65).trans rfl
theorem f_39_67 : fe0 39 67 = some (.bipush (-2), 2, 0, 0, 0, 0, 0) := (pg_39 67).trans rfl
theorem f_39_69 : fe0 39 69 = some (.if_icmp .ne 7, 3, 0, 0, 0, 0, 0) := (pg_39 69).trans rfl
theorem f_39_72 : fe0 39 72 = some (.iload_n 3, 1, 0, 0, 0, 0, 0) := (pg_39 72).trans rfl
theorem f_39_73 : fe0 39 73 = some (.goto 5, 3, 0, 0, 0, 0, 0) := (pg_39 73).trans rfl
theorem f_39_76 : fe0 39 76 = some (.iload 4, 2, 0, 0, 0, 0, 0) := (pg_39 76).trans rfl
theorem f_39_78 : fe0 39 78 = some (.iastore, 1, 0, 0, 0, 0, 0) := (pg_39 78).trans rfl
theorem f_39_79 : fe0 39 79 = some (.iinc 5 1, 3, 0, 0, 0, 0, 0) := (pg_39 79).trans rfl
theorem f_39_82 : fe0 39 82 = some (.goto 85, 3, 0, 0, 0, 0, 0) := (pg_39 82).trans rfl
theorem f_39_85 : fe0 39 85 = some (.iload 7, 2, 0, 0, 0, 0, 0) := (pg_39 85).trans rfl
theorem f_39_87 : fe0 39 87 = some (.bipush (-33), 2, 0, 0, 0, 0, 0) := (pg_39 87).trans rfl
theorem f_39_89 : fe0 39 89 = some (.if_icmp .ne 38, 3, 0, 0, 0, 0, 0) := (pg_39 89).trans rfl
theorem f_39_92 : fe0 39 92 = some (.iload 5, 2, 0, 0, 0, 0, 0) := (pg_39 92).trans rfl
theorem f_39_94 : fe0 39 94 = some (.iconst 1, 1, 0, 0, 0, 0, 0) := (pg_39 94).trans rfl
theorem f_39_95 : fe0 39 95 = some (.if_icmp .lt 72, 3, 0, 0, 0, 0, 0) := (pg_39 95).trans rfl
theorem f_39_98 : fe0 39 98 = some (.aload_n 0, 1, 0, 0, 0, 0, 0) := (pg_39 98).trans rfl
theorem f_39_99 : fe0 39 99 = some (.getfield 30, 3, 4, 6, 1, 0, 1141) := (pg_39 99).trans rfl
theorem f_39_102 : fe0 39 102 = some (.iload 5, 2, 0, 0, 0, 0, 0) := (pg_39 102).trans rfl
theorem f_39_104 : fe0 39 104 = some (.iconst 1, 1, 0, 0, 0, 0, 0) := (pg_39 104).trans rfl
theorem f_39_105 : fe0 39 105 = some (.isub, 1, 0, 0, 0, 0, 0) := (pg_39 105).trans rfl
theorem f_39_106 : fe0 39 106 = some (.aload_n 0, 1, 0, 0, 0, 0, 0) := (pg_39 106).trans rfl
theorem f_39_107 : fe0 39 107 = some (.getfield 30, 3, 4, 6, 1, 0, 1141) := (pg_39 107).trans rfl
theorem f_39_110 : fe0 39 110 = some (.iload 5, 2, 0, 0, 0, 0, 0) := (pg_39 110).trans rfl
theorem f_39_112 : fe0 39 112 = some (.iconst 1, 1, 0, 0, 0, 0, 0) := (pg_39 112).trans rfl
theorem f_39_113 : fe0 39 113 = some (.isub, 1, 0, 0, 0, 0, 0) := (pg_39 113).trans rfl
theorem f_39_114 : fe0 39 114 = some (.iaload, 1, 0, 0, 0, 0, 0) := (pg_39 114).trans rfl
theorem f_39_115 : fe0 39 115 = some (.ifCond .ne 7, 3, 0, 0, 0, 0, 0) := (pg_39 115).trans rfl
theorem f_39_118 : fe0 39 118 = some (.iconst 1, 1, 0, 0, 0, 0, 0) := (pg_39 118).trans rfl
theorem f_39_119 : fe0 39 119 = some (.goto 4, 3, 0, 0, 0, 0, 0) := (pg_39 119).trans rfl
theorem f_39_122 : fe0 39 122 = some (.iconst 0, 1, 0, 0, 0, 0, 0) := (pg_39 122).trans rfl
theorem f_39_123 : fe0 39 123 = some (.iastore, 1, 0, 0, 0, 0, 0) := (pg_39 123).trans rfl
theorem f_39_124 : fe0 39 124 = some (.goto 43, 3, 0, 0, 0, 0, 0) := (pg_39 124).trans rfl
theorem f_39_127 : fe0 39 127 = some (.iload 5, 2, 0, 0, 0, 0, 0) := (pg_39 127).trans rfl
theorem f_39_129 : fe0 39 129 = some (.iconst 2, 1, 0, 0, 0, 0, 0) := (pg_39 129).trans rfl
theorem f_39_130 : fe0 39 130 = some (.if_icmp .lt 37, 3, 0, 0, 0, 0, 0) := (pg_39 130).trans rfl
theorem f_39_133 : fe0 39 133 = some (.iinc 5 (-1), 3, 0, 0, 0, 0, 0) := (pg_39 133).trans rfl
theorem f_39_136 : fe0 39 136 = some (.aload_n 0, 1, 0, 0, 0, 0, 0) := (pg_39 136).trans rfl
theorem f_39_137 : fe0 39 137 = some (.getfield 30, 3, 4, 6, 1, 0, 1141) := (pg_39 137).trans rfl
theorem f_39_140 : fe0 39 140 = some (.iload 5, 2, 0, 0, 0, 0, 0) := (pg_39 140).trans rfl
theorem f_39_142 : fe0 39 142 = some (.iconst 1, 1, 0, 0, 0, 0, 0) := (pg_39 142).trans rfl
theorem f_39_143 : fe0 39 143 = some (.isub, 1, 0, 0, 0, 0, 0) := (pg_39 143).trans rfl
theorem f_39_144 : fe0 39 144 = some (.iload 7, 2, 0, 0, 0, 0, 0) := (pg_39 144).trans rfl
theorem f_39_146 : fe0 39 146 = some (.ineg, 1, 0, 0, 0, 0, 0) := (pg_39 146).trans rfl
theorem f_39_147 : fe0 39 147 = some (.aload_n 0, 1, 0, 0, 0, 0, 0) := (pg_39 147).trans rfl
theorem f_39_148 : fe0 39 148 = some (.getfield 30, 3, 4, 6, 1, 0, 1141) := (pg_39 148).trans rfl
theorem f_39_151 : fe0 39 151 = some (.iload 5, 2, 0, 0, 0, 0, 0) := (pg_39 151).trans rfl
theorem f_39_153 : fe0 39 153 = some (.iconst 1, 1, 0, 0, 0, 0, 0) := (pg_39 153).trans rfl
theorem f_39_154 : fe0 39 154 = some (.isub, 1, 0, 0, 0, 0, 0) := (pg_39 154).trans rfl
theorem f_39_155 : fe0 39 155 = some (.iaload, 1, 0, 0, 0, 0, 0) := (pg_39 155).trans rfl
theorem f_39_156 : fe0 39 156 = some (.aload_n 0, 1, 0, 0, 0, 0, 0) := (pg_39 156).trans rfl
theorem f_39_157 : fe0 39 157 = some (.getfield 30, 3, 4, 6, 1, 0, 1141) := (pg_39 157).trans rfl
theorem f_39_160 : fe0 39 160 = some (.iload 5, 2, 0, 0, 0, 0, 0) := (pg_39 160).trans rfl
theorem f_39_162 : fe0 39 162 = some (.iaload, 1, 0, 0, 0, 0, 0) := (pg_39 162).trans rfl
theorem f_39_163 : fe0 39 163 = some (.invokestatic 42, 3, 40, 3, 2, 0, 2104) := (pg_39 163).trans rfl
theorem f_39_166 : fe0 39 166 = some (.iastore, 1, 0, 0, 0, 0, 0) := (pg_39 166).trans rfl
theorem f_39_167 : fe0 39 167 = some (.iinc 6 1, 3, 0, 0, 0, 0, 0) := (pg_39 167).trans rfl
theorem f_39_170 : fe0 39 170 = some (.goto (-164), 3, 0, 0, 0, 0, 0) := (pg_39 170).trans rfl
theorem f_39_173 : fe0 39 173 = some (.iload 5, 2, 0, 0, 0, 0, 0) := (pg_39 173).trans rfl
theorem f_39_175 : fe0 39 175 = some (.iconst 1, 1, 0, 0, 0, 0, 0) := (pg_39 175).trans rfl
theorem f_39_176 : fe0 39 176 = some (.if_icmp .lt 12, 3, 0, 0, 0, 0, 0) := (pg_39 176).trans rfl
theorem f_39_179 : fe0 39 179 = some (.aload_n 0, 1, 0, 0, 0, 0, 0) := (pg_39 179).trans rfl
theorem f_39_180 : fe0 39 180 = some (.getfield 30, 3, 4, 6, 1, 0, 1141) := (pg_39 180).trans rfl
theorem f_39_183 : fe0 39 183 = some (.iconst 0, 1, 0, 0, 0, 0, 0) := (pg_39 183).trans rfl
theorem f_39_184 : fe0 39 184 = some (.iaload, 1, 0, 0, 0, 0, 0) := (pg_39 184).trans rfl
theorem f_39_185 : fe0 39 185 = some (.goto 4, 3, 0, 0, 0, 0, 0) := (pg_39 185).trans rfl
theorem f_39_188 : fe0 39 188 = some (.iconst 0, 1, 0, 0, 0, 0, 0) := (pg_39 188).trans rfl
theorem f_39_189 : fe0 39 189 = some (.ireturn, 1, 0, 0, 0, 0, 0) := (pg_39 189).trans rfl
theorem q_39_0 (d : Nat) (l0 : Nat) (l1 : Nat) (x2 : Int32) (x3 : Int32) (x4 : Int32) (μ : aMem) : Rn (d + 1) 39 (0, [.ref l0, .ref l1, .int x2, .int x3, .int x4, un, un, un], [], μ) = Rn (d + 1) 39 (6, [.ref l0, .ref l1, .int x2, .int x3, .int x4, .int 0, .int 0, un], [], μ) :=
  (e_nx (q := (_, _, .int 0 :: _, _)) f_39_0 rfl).trans ((e_nx (q := (_, [.ref l0, .ref l1, .int x2, .int x3, .int x4, .int 0, un, un], _, _)) f_39_1 rfl).trans ((e_nx (q := (_, _, .int 0 :: _, _)) f_39_3 rfl).trans (e_nx (q := (_, [.ref l0, .ref l1, .int x2, .int x3, .int x4, .int 0, .int 0, un], _, _)) f_39_4 rfl)))
theorem q_39_6 (d : Nat) (l0 : Nat) (l1 : Nat) (x2 : Int32) (x3 : Int32) (x4 : Int32) (x5 : Int32) (x6 : Int32) (w7 : Value) (μ : aMem) : Rn (d + 1) 39 (6, [.ref l0, .ref l1, .int x2, .int x3, .int x4, .int x5, .int x6, w7], [], μ) = if (mS μ l1).1 = 7 then ((rdL μ (mR μ l1 2)).bind fun v2 => if v2 ≤ x6 then (if x5 < 1 then (some (some (.int 0), μ)) else (if (mS μ l0).1 = 4 then ((rdI μ (mR μ l0 6) 0).bind fun v6 => some (some (.int v6), μ)) else none)) else ((rdI μ (mR μ l1 2) x6).bind fun v7 => if v7 < (-3) then (if v7 = (-33) then (if x5 < 1 then (Rn (d + 1) 39 (6, [.ref l0, .ref l1, .int x2, .int x3, .int x4, .int x5, .int (x6 + 1), .int v7], [], μ)) else (if (mS μ l0).1 = 4 then ((rdI μ (mR μ l0 6) (x5 - 1)).bind fun v12 => if v12 = 0 then (if (mS μ (mR μ l0 6)).1 = 10 ∧ inb (x5 - 1) (mS μ (mR μ l0 6)).2 then (Rn (d + 1) 39 (6, [.ref l0, .ref l1, .int x2, .int x3, .int x4, .int x5, .int (x6 + 1), .int v7], [], setF μ (mR μ l0 6) (ix (x5 - 1)) 1)) else none) else (if (mS μ (mR μ l0 6)).1 = 10 ∧ inb (x5 - 1) (mS μ (mR μ l0 6)).2 then (Rn (d + 1) 39 (6, [.ref l0, .ref l1, .int x2, .int x3, .int x4, .int x5, .int (x6 + 1), .int v7], [], setF μ (mR μ l0 6) (ix (x5 - 1)) 0)) else none)) else none)) else (if x5 < 2 then (Rn (d + 1) 39 (6, [.ref l0, .ref l1, .int x2, .int x3, .int x4, .int x5, .int (x6 + 1), .int v7], [], μ)) else (if (mS μ l0).1 = 4 then ((rdI μ (mR μ l0 6) ((x5 + (-1)) - 1)).bind fun v18 => (rdI μ (mR μ l0 6) (x5 + (-1))).bind fun v19 => (cI d 40 [.int (-v7), .int v18, .int v19] μ).bind fun p20 => if (mS p20.2 (mR μ l0 6)).1 = 10 ∧ inb ((x5 + (-1)) - 1) (mS p20.2 (mR μ l0 6)).2 then (Rn (d + 1) 39 (6, [.ref l0, .ref l1, .int x2, .int x3, .int x4, .int (x5 + (-1)), .int (x6 + 1), .int v7], [], setF p20.2 (mR μ l0 6) (ix ((x5 + (-1)) - 1)) p20.1)) else none) else none))) else (if 96 ≤ x5 then (Rn (d + 1) 39 (6, [.ref l0, .ref l1, .int x2, .int x3, .int x4, .int x5, .int (x6 + 1), .int v7], [], μ)) else (if (mS μ l0).1 = 4 then (if v7 < 0 then (if v7 = (-1) then (if (mS μ (mR μ l0 6)).1 = 10 ∧ inb x5 (mS μ (mR μ l0 6)).2 then (Rn (d + 1) 39 (6, [.ref l0, .ref l1, .int x2, .int x3, .int x4, .int (x5 + 1), .int (x6 + 1), .int v7], [], setF μ (mR μ l0 6) (ix x5) x2)) else none) else (if v7 = (-2) then (if (mS μ (mR μ l0 6)).1 = 10 ∧ inb x5 (mS μ (mR μ l0 6)).2 then (Rn (d + 1) 39 (6, [.ref l0, .ref l1, .int x2, .int x3, .int x4, .int (x5 + 1), .int (x6 + 1), .int v7], [], setF μ (mR μ l0 6) (ix x5) x3)) else none) else (if (mS μ (mR μ l0 6)).1 = 10 ∧ inb x5 (mS μ (mR μ l0 6)).2 then (Rn (d + 1) 39 (6, [.ref l0, .ref l1, .int x2, .int x3, .int x4, .int (x5 + 1), .int (x6 + 1), .int v7], [], setF μ (mR μ l0 6) (ix x5) x4)) else none))) else (if (mS μ (mR μ l0 6)).1 = 10 ∧ inb x5 (mS μ (mR μ l0 6)).2 then (Rn (d + 1) 39 (6, [.ref l0, .ref l1, .int x2, .int x3, .int x4, .int (x5 + 1), .int (x6 + 1), .int v7], [], setF μ (mR μ l0 6) (ix x5) v7)) else none)) else none)))) else none :=
  (e_nx f_39_6 rfl).trans ((e_nx f_39_8 rfl).trans ((e_gd f_39_9 rfl).trans (g_congr (Iff.rfl) (fun h1 => (e_al (L := [.ref l0, .ref l1, .int x2, .int x3, .int x4, .int x5, .int x6, w7]) (r := [.int x6]) (μ := μ) f_39_12).trans (m_congr fun v2 => (e_ge f_39_13 rfl).trans (b_congr (fun h3 => (e_nx f_39_173 rfl).trans ((e_nx (q := (_, _, .int 1 :: _, _)) f_39_175 rfl).trans ((e_lt f_39_176 rfl).trans (b_congr (fun h4 => (e_nx (q := (_, _, .int 0 :: _, _)) f_39_188 rfl).trans (e_rt f_39_189 rfl)) (fun h4 => (e_nx f_39_179 rfl).trans ((e_gd f_39_180 rfl).trans (g_congr (Iff.rfl) (fun h5 => (e_nx (q := (_, _, .int 0 :: _, _)) f_39_183 rfl).trans ((e_ia (L := [.ref l0, .ref l1, .int x2, .int x3, .int x4, .int x5, .int x6, w7]) (r := []) (μ := μ) f_39_184).trans (m_congr fun v6 => (e_nx f_39_185 rfl).trans (e_rt f_39_189 rfl))))))))))) (fun h3 => (e_nx f_39_16 rfl).trans ((e_gk f_39_17 (h1) rfl).trans ((e_nx f_39_20 rfl).trans ((e_ia (L := [.ref l0, .ref l1, .int x2, .int x3, .int x4, .int x5, .int x6, w7]) (r := []) (μ := μ) f_39_22).trans (m_congr fun v7 => (e_nx (q := (_, [.ref l0, .ref l1, .int x2, .int x3, .int x4, .int x5, .int x6, .int v7], _, _)) f_39_23 rfl).trans ((e_nx f_39_25 rfl).trans ((e_nx (q := (_, _, .int (-3) :: _, _)) f_39_27 rfl).trans ((e_lt f_39_29 rfl).trans (b_congr (fun h8 => (e_nx f_39_85 rfl).trans ((e_nx (q := (_, _, .int (-33) :: _, _)) f_39_87 rfl).trans ((e_ne f_39_89 rfl).trans (b_congr (fun h9 => (e_nx f_39_92 rfl).trans ((e_nx (q := (_, _, .int 1 :: _, _)) f_39_94 rfl).trans ((e_lt f_39_95 rfl).trans (b_congr (fun h10 => (e_nx (q := (_, [.ref l0, .ref l1, .int x2, .int x3, .int x4, .int x5, .int (x6 + 1), .int v7], _, _)) f_39_167 rfl).trans (e_nx f_39_170 rfl)) (fun h10 => (e_nx f_39_98 rfl).trans ((e_gd f_39_99 rfl).trans (g_congr (Iff.rfl) (fun h11 => (e_nx f_39_102 rfl).trans ((e_nx (q := (_, _, .int 1 :: _, _)) f_39_104 rfl).trans ((e_nx f_39_105 rfl).trans ((e_nx f_39_106 rfl).trans ((e_gk f_39_107 (h11) rfl).trans ((e_nx f_39_110 rfl).trans ((e_nx (q := (_, _, .int 1 :: _, _)) f_39_112 rfl).trans ((e_nx f_39_113 rfl).trans ((e_ia (L := [.ref l0, .ref l1, .int x2, .int x3, .int x4, .int x5, .int x6, .int v7]) (r := [.int (x5 - 1), .ref (mR μ l0 6)]) (μ := μ) f_39_114).trans (m_congr fun v12 => (e_ne f_39_115 rfl).trans (b_congr (fun h13 => (e_nx (q := (_, _, .int 1 :: _, _)) f_39_118 rfl).trans ((e_nx f_39_119 rfl).trans ((e_gd f_39_123 rfl).trans (g_congr (Iff.rfl) (fun h14 => (e_nx f_39_124 rfl).trans ((e_nx (q := (_, [.ref l0, .ref l1, .int x2, .int x3, .int x4, .int x5, .int (x6 + 1), .int v7], _, _)) f_39_167 rfl).trans (e_nx f_39_170 rfl))))))) (fun h13 => (e_nx (q := (_, _, .int 0 :: _, _)) f_39_122 rfl).trans ((e_gd f_39_123 rfl).trans (g_congr (Iff.rfl) (fun h15 => (e_nx f_39_124 rfl).trans ((e_nx (q := (_, [.ref l0, .ref l1, .int x2, .int x3, .int x4, .int x5, .int (x6 + 1), .int v7], _, _)) f_39_167 rfl).trans (e_nx f_39_170 rfl)))))))))))))))))))))))) (fun h9 => (e_nx f_39_127 rfl).trans ((e_nx (q := (_, _, .int 2 :: _, _)) f_39_129 rfl).trans ((e_lt f_39_130 rfl).trans (b_congr (fun h16 => (e_nx (q := (_, [.ref l0, .ref l1, .int x2, .int x3, .int x4, .int x5, .int (x6 + 1), .int v7], _, _)) f_39_167 rfl).trans (e_nx f_39_170 rfl)) (fun h16 => (e_nx (q := (_, [.ref l0, .ref l1, .int x2, .int x3, .int x4, .int (x5 + (-1)), .int x6, .int v7], _, _)) f_39_133 rfl).trans ((e_nx f_39_136 rfl).trans ((e_gd f_39_137 rfl).trans (g_congr (Iff.rfl) (fun h17 => (e_nx f_39_140 rfl).trans ((e_nx (q := (_, _, .int 1 :: _, _)) f_39_142 rfl).trans ((e_nx f_39_143 rfl).trans ((e_nx f_39_144 rfl).trans ((e_nx f_39_146 rfl).trans ((e_nx f_39_147 rfl).trans ((e_gk f_39_148 (h17) rfl).trans ((e_nx f_39_151 rfl).trans ((e_nx (q := (_, _, .int 1 :: _, _)) f_39_153 rfl).trans ((e_nx f_39_154 rfl).trans ((e_ia (L := [.ref l0, .ref l1, .int x2, .int x3, .int x4, .int (x5 + (-1)), .int x6, .int v7]) (r := [.int (-v7), .int ((x5 + (-1)) - 1), .ref (mR μ l0 6)]) (μ := μ) f_39_155).trans (m_congr fun v18 => (e_nx f_39_156 rfl).trans ((e_gk f_39_157 (h17) rfl).trans ((e_nx f_39_160 rfl).trans ((e_ia (L := [.ref l0, .ref l1, .int x2, .int x3, .int x4, .int (x5 + (-1)), .int x6, .int v7]) (r := [.int v18, .int (-v7), .int ((x5 + (-1)) - 1), .ref (mR μ l0 6)]) (μ := μ) f_39_162).trans (m_congr fun v19 => (e_cI (L := [.ref l0, .ref l1, .int x2, .int x3, .int x4, .int (x5 + (-1)), .int x6, .int v7]) (st := [.int v19, .int v18, .int (-v7), .int ((x5 + (-1)) - 1), .ref (mR μ l0 6)]) (μ := μ) (L' := [.ref l0, .ref l1, .int x2, .int x3, .int x4, .int (x5 + (-1)), .int x6, .int v7]) (st' := [.int ((x5 + (-1)) - 1), .ref (mR μ l0 6)]) f_39_163 rfl rfl).trans (m_congr fun p20 => (e_gd f_39_166 rfl).trans (g_congr (Iff.rfl) (fun h21 => (e_nx (q := (_, [.ref l0, .ref l1, .int x2, .int x3, .int x4, .int (x5 + (-1)), .int (x6 + 1), .int v7], _, _)) f_39_167 rfl).trans (e_nx f_39_170 rfl)))))))))))))))))))))))))))))))) (fun h8 => (e_nx f_39_32 rfl).trans ((e_nx (q := (_, _, .int 96 :: _, _)) f_39_34 rfl).trans ((e_ge f_39_36 rfl).trans (b_congr (fun h22 => (e_nx (q := (_, [.ref l0, .ref l1, .int x2, .int x3, .int x4, .int x5, .int (x6 + 1), .int v7], _, _)) f_39_167 rfl).trans (e_nx f_39_170 rfl)) (fun h22 => (e_nx f_39_39 rfl).trans ((e_gd f_39_40 rfl).trans (g_congr (Iff.rfl) (fun h23 => (e_nx f_39_43 rfl).trans ((e_nx f_39_45 rfl).trans ((e_lt f_39_47 rfl).trans (b_congr (fun h24 => (e_nx f_39_55 rfl).trans ((e_nx (q := (_, _, .int (-1) :: _, _)) f_39_57 rfl).trans ((e_ne f_39_58 rfl).trans (b_congr (fun h25 => (e_nx f_39_61 rfl).trans ((e_nx f_39_62 rfl).trans ((e_gd f_39_78 rfl).trans (g_congr (Iff.rfl) (fun h26 => (e_nx (q := (_, [.ref l0, .ref l1, .int x2, .int x3, .int x4, .int (x5 + 1), .int x6, .int v7], _, _)) f_39_79 rfl).trans ((e_nx f_39_82 rfl).trans ((e_nx (q := (_, [.ref l0, .ref l1, .int x2, .int x3, .int x4, .int (x5 + 1), .int (x6 + 1), .int v7], _, _)) f_39_167 rfl).trans (e_nx f_39_170 rfl)))))))) (fun h25 => (e_nx f_39_65 rfl).trans ((e_nx (q := (_, _, .int (-2) :: _, _)) f_39_67 rfl).trans ((e_ne f_39_69 rfl).trans (b_congr (fun h27 => (e_nx f_39_72 rfl).trans ((e_nx f_39_73 rfl).trans ((e_gd f_39_78 rfl).trans (g_congr (Iff.rfl) (fun h28 => (e_nx (q := (_, [.ref l0, .ref l1, .int x2, .int x3, .int x4, .int (x5 + 1), .int x6, .int v7], _, _)) f_39_79 rfl).trans ((e_nx f_39_82 rfl).trans ((e_nx (q := (_, [.ref l0, .ref l1, .int x2, .int x3, .int x4, .int (x5 + 1), .int (x6 + 1), .int v7], _, _)) f_39_167 rfl).trans (e_nx f_39_170 rfl)))))))) (fun h27 => (e_nx f_39_76 rfl).trans ((e_gd f_39_78 rfl).trans (g_congr (Iff.rfl) (fun h29 => (e_nx (q := (_, [.ref l0, .ref l1, .int x2, .int x3, .int x4, .int (x5 + 1), .int x6, .int v7], _, _)) f_39_79 rfl).trans ((e_nx f_39_82 rfl).trans ((e_nx (q := (_, [.ref l0, .ref l1, .int x2, .int x3, .int x4, .int (x5 + 1), .int (x6 + 1), .int v7], _, _)) f_39_167 rfl).trans (e_nx f_39_170 rfl))))))))))))))) (fun h24 => (e_nx f_39_50 rfl).trans ((e_nx f_39_52 rfl).trans ((e_gd f_39_78 rfl).trans (g_congr (Iff.rfl) (fun h30 => (e_nx (q := (_, [.ref l0, .ref l1, .int x2, .int x3, .int x4, .int (x5 + 1), .int x6, .int v7], _, _)) f_39_79 rfl).trans ((e_nx f_39_82 rfl).trans ((e_nx (q := (_, [.ref l0, .ref l1, .int x2, .int x3, .int x4, .int (x5 + 1), .int (x6 + 1), .int v7], _, _)) f_39_167 rfl).trans (e_nx f_39_170 rfl))))))))))))))))))))))))))))))))))
theorem pg_40 (pc : Nat) : fe0 40 pc = lk prg_40 pc := rfl
theorem f_40_0 : fe0 40 0 = some (.iload_n 0, 1, 0, 0, 0, 0, 0) := (pg_40 0).trans rfl
theorem f_40_1 : fe0 40 1 = some (.lookupswitch 148 #[(38, 89), (42, 144), (43, 136), (45, 140), (60, 103), (61, 114), (62, 125), (124, 75)], 75, 0, 0, 0, 0, 0) := (pg_40 1).trans rfl
theorem f_40_76 : fe0 40 76 = some (.iload_n 1, 1, 0, 0, 0, 0, 0) := (pg_40 76).trans rfl
theorem f_40_77 : fe0 40 77 = some (.ifCond .ne 7, 3, 0, 0, 0, 0, 0) := (pg_40 77).trans rfl
theorem f_40_80 : fe0 40 80 = some (.iload_n 2, 1, 0, 0, 0, 0, 0) := (pg_40 80).trans rfl
theorem f_40_81 : fe0 40 81 = some (.ifCond .eq 7, 3, 0, 0, 0, 0, 0) := (pg_40 81).trans rfl
theorem f_40_84 : fe0 40 84 = some (.iconst 1, 1, 0, 0, 0, 0, 0) := (pg_40 84).trans rfl
theorem f_40_85 : fe0 40 85 = some (.goto 4, 3, 0, 0, 0, 0, 0) := (pg_40 85).trans rfl
theorem f_40_88 : fe0 40 88 = some (.iconst 0, 1, 0, 0, 0, 0, 0) := (pg_40 88).trans rfl
theorem f_40_89 : fe0 40 89 = some (.ireturn, 1, 0, 0, 0, 0, 0) := (pg_40 89).trans rfl
theorem f_40_90 : fe0 40 90 = some (.iload_n 1, 1, 0, 0, 0, 0, 0) := (pg_40 90).trans rfl
theorem f_40_91 : fe0 40 91 = some (.ifCond .eq 11, 3, 0, 0, 0, 0, 0) := (pg_40 91).trans rfl
theorem f_40_94 : fe0 40 94 = some (.iload_n 2, 1, 0, 0, 0, 0, 0) := (pg_40 94).trans rfl
theorem f_40_95 : fe0 40 95 = some (.ifCond .eq 7, 3, 0, 0, 0, 0, 0) := (pg_40 95).trans rfl
theorem f_40_98 : fe0 40 98 = some (.iconst 1, 1, 0, 0, 0, 0, 0) := (pg_40 98).trans rfl
theorem f_40_99 : fe0 40 99 = some (.goto 4, 3, 0, 0, 0, 0, 0) := (pg_40 99).trans rfl
theorem f_40_102 : fe0 40 102 = some (.iconst 0, 1, 0, 0, 0, 0, 0) := (pg_40 102).trans rfl
theorem f_40_103 : fe0 40 103 = some (.ireturn, 1, 0, 0, 0, 0, 0) := (pg_40 103).trans rfl
theorem f_40_104 : fe0 40 104 = some (.iload_n 1, 1, 0, 0, 0, 0, 0) := (pg_40 104).trans rfl
theorem f_40_105 : fe0 40 105 = some (.iload_n 2, 1, 0, 0, 0, 0, 0) := (pg_40 105).trans rfl
theorem f_40_106 : fe0 40 106 = some (.if_icmp .ge 7, 3, 0, 0, 0, 0, 0) := (pg_40 106).trans rfl
theorem f_40_109 : fe0 40 109 = some (.iconst 1, 1, 0, 0, 0, 0, 0) := (pg_40 109).trans rfl
theorem f_40_110 : fe0 40 110 = some (.goto 4, 3, 0, 0, 0, 0, 0) := (pg_40 110).trans rfl
theorem f_40_113 : fe0 40 113 = some (.iconst 0, 1, 0, 0, 0, 0, 0) := (pg_40 113).trans rfl
theorem f_40_114 : fe0 40 114 = some (.ireturn, 1, 0, 0, 0, 0, 0) := (pg_40 114).trans rfl
theorem f_40_115 : fe0 40 115 = some (.iload_n 1, 1, 0, 0, 0, 0, 0) := (pg_40 115).trans rfl
theorem f_40_116 : fe0 40 116 = some (.iload_n 2, 1, 0, 0, 0, 0, 0) := (pg_40 116).trans rfl
theorem f_40_117 : fe0 40 117 = some (.if_icmp .ne 7, 3, 0, 0, 0, 0, 0) := (pg_40 117).trans rfl
theorem f_40_120 : fe0 40 120 = some (.iconst 1, 1, 0, 0, 0, 0, 0) := (pg_40 120).trans rfl
theorem f_40_121 : fe0 40 121 = some (.goto 4, 3, 0, 0, 0, 0, 0) := (pg_40 121).trans rfl
theorem f_40_124 : fe0 40 124 = some (.iconst 0, 1, 0, 0, 0, 0, 0) := (pg_40 124).trans rfl
theorem f_40_125 : fe0 40 125 = some (.ireturn, 1, 0, 0, 0, 0, 0) := (pg_40 125).trans rfl
theorem f_40_126 : fe0 40 126 = some (.iload_n 1, 1, 0, 0, 0, 0, 0) := (pg_40 126).trans rfl
theorem f_40_127 : fe0 40 127 = some (.iload_n 2, 1, 0, 0, 0, 0, 0) := (pg_40 127).trans rfl
theorem f_40_128 : fe0 40 128 = some (.if_icmp .le 7, 3, 0, 0, 0, 0, 0) := (pg_40 128).trans rfl
theorem f_40_131 : fe0 40 131 = some (.iconst 1, 1, 0, 0, 0, 0, 0) := (pg_40 131).trans rfl
theorem f_40_132 : fe0 40 132 = some (.goto 4, 3, 0, 0, 0, 0, 0) := (pg_40 132).trans rfl
theorem f_40_135 : fe0 40 135 = some (.iconst 0, 1, 0, 0, 0, 0, 0) := (pg_40 135).trans rfl
theorem f_40_136 : fe0 40 136 = some (.ireturn, 1, 0, 0, 0, 0, 0) := (pg_40 136).trans rfl
theorem f_40_137 : fe0 40 137 = some (.iload_n 1, 1, 0, 0, 0, 0, 0) := (pg_40 137).trans rfl
theorem f_40_138 : fe0 40 138 = some (.iload_n 2, 1, 0, 0, 0, 0, 0) := (pg_40 138).trans rfl
theorem f_40_139 : fe0 40 139 = some (.iadd, 1, 0, 0, 0, 0, 0) := (pg_40 139).trans rfl
theorem f_40_140 : fe0 40 140 = some (.ireturn, 1, 0, 0, 0, 0, 0) := (pg_40 140).trans rfl
theorem f_40_141 : fe0 40 141 = some (.iload_n 1, 1, 0, 0, 0, 0, 0) := (pg_40 141).trans rfl
theorem f_40_142 : fe0 40 142 = some (.iload_n 2, 1, 0, 0, 0, 0, 0) := (pg_40 142).trans rfl
theorem f_40_143 : fe0 40 143 = some (.isub, 1, 0, 0, 0, 0, 0) := (pg_40 143).trans rfl
theorem f_40_144 : fe0 40 144 = some (.ireturn, 1, 0, 0, 0, 0, 0) := (pg_40 144).trans rfl
theorem f_40_145 : fe0 40 145 = some (.iload_n 1, 1, 0, 0, 0, 0, 0) := (pg_40 145).trans rfl
theorem f_40_146 : fe0 40 146 = some (.iload_n 2, 1, 0, 0, 0, 0, 0) := (pg_40 146).trans rfl
theorem f_40_147 : fe0 40 147 = some (.imul, 1, 0, 0, 0, 0, 0) := (pg_40 147).trans rfl
theorem f_40_148 : fe0 40 148 = some (.ireturn, 1, 0, 0, 0, 0, 0) := (pg_40 148).trans rfl
theorem f_40_149 : fe0 40 149 = some (.iload_n 2, 1, 0, 0, 0, 0, 0) := (pg_40 149).trans rfl
theorem f_40_150 : fe0 40 150 = some (.ifCond .ne 7, 3, 0, 0, 0, 0, 0) := (pg_40 150).trans rfl
theorem f_40_153 : fe0 40 153 = some (.iconst 0, 1, 0, 0, 0, 0, 0) := (pg_40 153).trans rfl
theorem f_40_154 : fe0 40 154 = some (.goto 6, 3, 0, 0, 0, 0, 0) := (pg_40 154).trans rfl
theorem f_40_157 : fe0 40 157 = some (.iload_n 1, 1, 0, 0, 0, 0, 0) := (pg_40 157).trans rfl
theorem f_40_158 : fe0 40 158 = some (.iload_n 2, 1, 0, 0, 0, 0, 0) := (pg_40 158).trans rfl
theorem f_40_159 : fe0 40 159 = some (.idiv, 1, 0, 0, 0, 0, 0) := (pg_40 159).trans rfl
theorem f_40_160 : fe0 40 160 = some (.ireturn, 1, 0, 0, 0, 0, 0) := (pg_40 160).trans rfl
theorem q_40_0 (d : Nat) (x0 : Int32) (x1 : Int32) (x2 : Int32) (μ : aMem) : Rn d 40 (0, [.int x0, .int x1, .int x2], [], μ) = if x0 = 38 then (if x1 = 0 then (some (some (.int 0), μ)) else (if x2 = 0 then (some (some (.int 0), μ)) else (some (some (.int 1), μ)))) else (if x0 = 42 then (some (some (.int (x1 * x2)), μ)) else (if x0 = 43 then (some (some (.int (x1 + x2)), μ)) else (if x0 = 45 then (some (some (.int (x1 - x2)), μ)) else (if x0 = 60 then (if x2 ≤ x1 then (some (some (.int 0), μ)) else (some (some (.int 1), μ))) else (if x0 = 61 then (if x1 = x2 then (some (some (.int 1), μ)) else (some (some (.int 0), μ))) else (if x0 = 62 then (if x1 ≤ x2 then (some (some (.int 0), μ)) else (some (some (.int 1), μ))) else (if x0 = 124 then (if x1 = 0 then (if x2 = 0 then (some (some (.int 0), μ)) else (some (some (.int 1), μ))) else (some (some (.int 1), μ))) else (if x2 = 0 then (some (some (.int 0), μ)) else (if ¬ x2 = 0 then (some (some (.int (x1 / x2)), μ)) else none))))))))) :=
  (e_nx f_40_0 rfl).trans ((e_lks f_40_1 (ts := [(38, 90), (42, 145), (43, 137), (45, 141), (60, 104), (61, 115), (62, 126), (124, 76)]) (df := 149) rfl rfl (by decide)).trans (b_congr (fun _ => (e_nx f_40_90 rfl).trans ((e_eq f_40_91 rfl).trans (b_congr (fun h1 => (e_nx (q := (_, _, .int 0 :: _, _)) f_40_102 rfl).trans (e_rt f_40_103 rfl)) (fun h1 => (e_nx f_40_94 rfl).trans ((e_eq f_40_95 rfl).trans (b_congr (fun h2 => (e_nx (q := (_, _, .int 0 :: _, _)) f_40_102 rfl).trans (e_rt f_40_103 rfl)) (fun h2 => (e_nx (q := (_, _, .int 1 :: _, _)) f_40_98 rfl).trans ((e_nx f_40_99 rfl).trans (e_rt f_40_103 rfl))))))))) (fun _ => b_congr (fun _ => (e_nx f_40_145 rfl).trans ((e_nx f_40_146 rfl).trans ((e_nx f_40_147 rfl).trans (e_rt f_40_148 rfl)))) (fun _ => b_congr (fun _ => (e_nx f_40_137 rfl).trans ((e_nx f_40_138 rfl).trans ((e_nx f_40_139 rfl).trans (e_rt f_40_140 rfl)))) (fun _ => b_congr (fun _ => (e_nx f_40_141 rfl).trans ((e_nx f_40_142 rfl).trans ((e_nx f_40_143 rfl).trans (e_rt f_40_144 rfl)))) (fun _ => b_congr (fun _ => (e_nx f_40_104 rfl).trans ((e_nx f_40_105 rfl).trans ((e_ge f_40_106 rfl).trans (b_congr (fun h3 => (e_nx (q := (_, _, .int 0 :: _, _)) f_40_113 rfl).trans (e_rt f_40_114 rfl)) (fun h3 => (e_nx (q := (_, _, .int 1 :: _, _)) f_40_109 rfl).trans ((e_nx f_40_110 rfl).trans (e_rt f_40_114 rfl))))))) (fun _ => b_congr (fun _ => (e_nx f_40_115 rfl).trans ((e_nx f_40_116 rfl).trans ((e_ne f_40_117 rfl).trans (b_congr (fun h4 => (e_nx (q := (_, _, .int 1 :: _, _)) f_40_120 rfl).trans ((e_nx f_40_121 rfl).trans (e_rt f_40_125 rfl))) (fun h4 => (e_nx (q := (_, _, .int 0 :: _, _)) f_40_124 rfl).trans (e_rt f_40_125 rfl)))))) (fun _ => b_congr (fun _ => (e_nx f_40_126 rfl).trans ((e_nx f_40_127 rfl).trans ((e_le f_40_128 rfl).trans (b_congr (fun h5 => (e_nx (q := (_, _, .int 0 :: _, _)) f_40_135 rfl).trans (e_rt f_40_136 rfl)) (fun h5 => (e_nx (q := (_, _, .int 1 :: _, _)) f_40_131 rfl).trans ((e_nx f_40_132 rfl).trans (e_rt f_40_136 rfl))))))) (fun _ => b_congr (fun _ => (e_nx f_40_76 rfl).trans ((e_ne f_40_77 rfl).trans (b_congr (fun h6 => (e_nx f_40_80 rfl).trans ((e_eq f_40_81 rfl).trans (b_congr (fun h7 => (e_nx (q := (_, _, .int 0 :: _, _)) f_40_88 rfl).trans (e_rt f_40_89 rfl)) (fun h7 => (e_nx (q := (_, _, .int 1 :: _, _)) f_40_84 rfl).trans ((e_nx f_40_85 rfl).trans (e_rt f_40_89 rfl)))))) (fun h6 => (e_nx (q := (_, _, .int 1 :: _, _)) f_40_84 rfl).trans ((e_nx f_40_85 rfl).trans (e_rt f_40_89 rfl)))))) (fun _ => (e_nx f_40_149 rfl).trans ((e_ne f_40_150 rfl).trans (b_congr (fun h8 => (e_nx (q := (_, _, .int 0 :: _, _)) f_40_153 rfl).trans ((e_nx f_40_154 rfl).trans (e_rt f_40_160 rfl))) (fun h8 => (e_nx f_40_157 rfl).trans ((e_nx f_40_158 rfl).trans ((e_gd f_40_159 rfl).trans (g_congr (Iff.rfl) (fun h9 => e_rt f_40_160 rfl)))))))))))))))))
theorem pg_41 (pc : Nat) : fe0 41 pc = lk prg_41 pc := rfl
theorem f_41_0 : fe0 41 0 = some (.aload_n 1, 1, 0, 0, 0, 0, 0) := (pg_41 0).trans rfl
theorem f_41_1 : fe0 41 1 = some (.iconst 0, 1, 0, 0, 0, 0, 0) := (pg_41 1).trans rfl
theorem f_41_2 : fe0 41 2 = some (.invokevirtual 46, 3, 16, 1, 0, 2, 2085) := (pg_41 2).trans rfl
theorem f_41_5 : fe0 41 5 = some (.astore_n 3, 1, 0, 0, 0, 0, 0) := (pg_41 5).trans rfl
theorem f_41_6 : fe0 41 6 = some (.aload_n 3, 1, 0, 0, 0, 0, 0) := (pg_41 6).trans rfl
theorem f_41_7 : fe0 41 7 = some (.ifnonnull 8, 3, 0, 0, 0, 0, 0) := (pg_41 7).trans rfl
theorem f_41_10 : fe0 41 10 = some (.aload_n 2, 1, 0, 0, 0, 0, 0) := (pg_41 10).trans rfl
theorem f_41_11 : fe0 41 11 = some (.getfield 52, 3, 1, 1, 0, 0, 1070) := (pg_41 11).trans rfl
theorem f_41_14 : fe0 41 14 = some (.ireturn, 1, 0, 0, 0, 0, 0) := (pg_41 14).trans rfl
theorem f_41_15 : fe0 41 15 = some (.aload_n 0, 1, 0, 0, 0, 0, 0) := (pg_41 15).trans rfl
theorem f_41_16 : fe0 41 16 = some (.aload_n 3, 1, 0, 0, 0, 0, 0) := (pg_41 16).trans rfl
theorem f_41_17 : fe0 41 17 = some (.aload_n 2, 1, 0, 0, 0, 0, 0) := (pg_41 17).trans rfl
theorem f_41_18 : fe0 41 18 = some (.getfield 52, 3, 1, 1, 0, 0, 1070) := (pg_41 18).trans rfl
theorem f_41_21 : fe0 41 21 = some (.aload_n 2, 1, 0, 0, 0, 0, 0) := (pg_41 21).trans rfl
theorem f_41_22 : fe0 41 22 = some (.getfield 58, 3, 1, 2, 0, 0, 1074) := (pg_41 22).trans rfl
theorem f_41_25 : fe0 41 25 = some (.aload_n 1, 1, 0, 0, 0, 0, 0) := (pg_41 25).trans rfl
theorem f_41_26 : fe0 41 26 = some (.getfield 61, 3, 2, 2, 1, 0, 1105) := (pg_41 26).trans rfl
theorem f_41_29 : fe0 41 29 = some (.iconst (-1), 1, 0, 0, 0, 0, 0) := (pg_41 29).trans rfl
theorem f_41_30 : fe0 41 30 = some (.invokevirtual 65, 3, 3, 1, 0, 0, 2093) := (pg_41 30).trans rfl
theorem f_41_33 : fe0 41 33 = some (.invokevirtual 71, 3, 39, 4, 0, 4, 2100) := (pg_41 33).trans rfl
theorem f_41_36 : fe0 41 36 = some (.iconst 0, 1, 0, 0, 0, 0, 0) := (pg_41 36).trans rfl
theorem f_41_37 : fe0 41 37 = some (.sipush 999, 3, 0, 0, 0, 0, 0) := (pg_41 37).trans rfl
theorem f_41_40 : fe0 41 40 = some (.invokestatic 75, 3, 123, 3, 4, 0, 2107) := (pg_41 40).trans rfl
theorem f_41_43 : fe0 41 43 = some (.ireturn, 1, 0, 0, 0, 0, 0) := (pg_41 43).trans rfl
theorem q_41_0 (d : Nat) (l0 : Nat) (l1 : Nat) (l2 : Nat) (μ : aMem) : Rn (d + 1) 41 (0, [.ref l0, .ref l1, .ref l2, un], [], μ) = if (mS μ l1).1 = 2 ∧ l1 < 999999 then ((cR d 16 [.ref l1, .int 0] μ).bind fun p1 => if p1.1 ≤ 999999 then (if p1.1 = 999999 then (if (mS p1.2 l2).1 = 1 then (some (some (.int (mF p1.2 l2 1)), p1.2)) else none) else (if (mS p1.2 l2).1 = 1 then (if (mS p1.2 l1).1 = 2 then (if (mS p1.2 (mR p1.2 l1 2)).1 = 0 ∧ (mR p1.2 l1 2) < 999999 then ((cI d 3 [.ref (mR p1.2 l1 2), .int (-1)] p1.2).bind fun p8 => if (mS p8.2 l0).1 = 4 ∧ l0 < 999999 then ((cI d 39 [.ref l0, .ref p1.1, .int (mF p1.2 l2 1), .int (mF p1.2 l2 2), .int p8.1] p8.2).bind fun p10 => (cI d 123 [.int p10.1, .int 0, .int 999] p10.2).bind fun p12 => some (some (.int p12.1), p12.2)) else none) else none) else none) else none)) else none) else none :=
  (e_nx f_41_0 rfl).trans ((e_nx (q := (_, _, .int 0 :: _, _)) f_41_1 rfl).trans ((e_gR (L := [.ref l0, .ref l1, .ref l2, un]) (st := [.int 0, .ref l1]) (μ := μ) (L' := [.ref l0, .ref l1, .ref l2, un]) (st' := []) f_41_2 rfl rfl).trans (g_congr (v_c2 rfl (Nat.le_of_ble_eq_true rfl)) (fun h2 => m_congr fun p1 => (e_nx (q := (_, [.ref l0, .ref l1, .ref l2, .ref p1.1], _, _)) f_41_5 rfl).trans ((e_nx f_41_6 rfl).trans ((e_gb f_41_7 rfl).trans (g_congr Iff.rfl (fun h4 => b_congr (fun h3 => (e_nx f_41_10 rfl).trans ((e_gd f_41_11 rfl).trans (g_congr (Iff.rfl) (fun h5 => e_rt f_41_14 rfl)))) (fun h3 => (e_nx f_41_15 rfl).trans ((e_nx f_41_16 rfl).trans ((e_nx f_41_17 rfl).trans ((e_gd f_41_18 rfl).trans (g_congr (Iff.rfl) (fun h6 => (e_nx f_41_21 rfl).trans ((e_gk f_41_22 (h6) rfl).trans ((e_nx f_41_25 rfl).trans ((e_gd f_41_26 rfl).trans (g_congr (Iff.rfl) (fun h7 => (e_nx (q := (_, _, .int (-1) :: _, _)) f_41_29 rfl).trans ((e_gI (L := [.ref l0, .ref l1, .ref l2, .ref p1.1]) (st := [.int (-1), .ref (mR p1.2 l1 2), .int (mF p1.2 l2 2), .int (mF p1.2 l2 1), .ref p1.1, .ref l0]) (μ := p1.2) (L' := [.ref l0, .ref l1, .ref l2, .ref p1.1]) (st' := [.int (mF p1.2 l2 2), .int (mF p1.2 l2 1), .ref p1.1, .ref l0]) f_41_30 rfl rfl).trans (g_congr (v_c2 rfl (Nat.le_of_ble_eq_true rfl)) (fun h9 => m_congr fun p8 => (e_gI (L := [.ref l0, .ref l1, .ref l2, .ref p1.1]) (st := [.int p8.1, .int (mF p1.2 l2 2), .int (mF p1.2 l2 1), .ref p1.1, .ref l0]) (μ := p8.2) (L' := [.ref l0, .ref l1, .ref l2, .ref p1.1]) (st' := []) f_41_33 rfl rfl).trans (g_congr (v_c2 rfl (Nat.le_of_ble_eq_true rfl)) (fun h11 => m_congr fun p10 => (e_nx (q := (_, _, .int 0 :: _, _)) f_41_36 rfl).trans ((e_nx (q := (_, _, .int 999 :: _, _)) f_41_37 rfl).trans ((e_cI (L := [.ref l0, .ref l1, .ref l2, .ref p1.1]) (st := [.int 999, .int 0, .int p10.1]) (μ := p10.2) (L' := [.ref l0, .ref l1, .ref l2, .ref p1.1]) (st' := []) f_41_40 rfl rfl).trans (m_congr fun p12 => e_rt f_41_43 rfl)))))))))))))))))))))))))))
theorem pg_42 (pc : Nat) : fe0 42 pc = lk prg_42 pc := rfl
theorem f_42_0 : fe0 42 0 = some (.aload_n 0, 1, 0, 0, 0, 0, 0) := (pg_42 0).trans rfl
theorem f_42_1 : fe0 42 1 = some (.aload_n 1, 1, 0, 0, 0, 0, 0) := (pg_42 1).trans rfl
theorem f_42_2 : fe0 42 2 = some (.aload_n 2, 1, 0, 0, 0, 0, 0) := (pg_42 2).trans rfl
theorem f_42_3 : fe0 42 3 = some (.invokevirtual 78, 3, 41, 2, 0, 4, 2081) := (pg_42 3).trans rfl
theorem f_42_6 : fe0 42 6 = some (.istore_n 3, 1, 0, 0, 0, 0, 0) := (pg_42 6).trans rfl
theorem f_42_7 : fe0 42 7 = some (.sipush 999, 3, 0, 0, 0, 0, 0) := (pg_42 7).trans rfl
theorem f_42_10 : fe0 42 10 = some (.iload_n 3, 1, 0, 0, 0, 0, 0) := (pg_42 10).trans rfl
theorem f_42_11 : fe0 42 11 = some (.aload_n 2, 1, 0, 0, 0, 0, 0) := (pg_42 11).trans rfl
theorem f_42_12 : fe0 42 12 = some (.getfield 58, 3, 1, 2, 0, 0, 1074) := (pg_42 12).trans rfl
theorem f_42_15 : fe0 42 15 = some (.iadd, 1, 0, 0, 0, 0, 0) := (pg_42 15).trans rfl
theorem f_42_16 : fe0 42 16 = some (.invokestatic 82, 3, 0, 0, 8, 0, 2108) := (pg_42 16).trans rfl
theorem f_42_19 : fe0 42 19 = some (.istore 4, 2, 0, 0, 0, 0, 0) := (pg_42 19).trans rfl
theorem f_42_21 : fe0 42 21 = some (.aload_n 2, 1, 0, 0, 0, 0, 0) := (pg_42 21).trans rfl
theorem f_42_22 : fe0 42 22 = some (.getfield 88, 3, 1, 0, 0, 0, 1067) := (pg_42 22).trans rfl
theorem f_42_25 : fe0 42 25 = some (.tableswitch 93 1 5 #[35, 45, 38, 65, 88], 35, 0, 0, 0, 0, 0) := (pg_42 25).trans rfl
theorem f_42_60 : fe0 42 60 = some (.iload 4, 2, 0, 0, 0, 0, 0) := (pg_42 60).trans rfl
theorem f_42_62 : fe0 42 62 = some (.ireturn, 1, 0, 0, 0, 0, 0) := (pg_42 62).trans rfl
theorem f_42_63 : fe0 42 63 = some (.iconst 2, 1, 0, 0, 0, 0, 0) := (pg_42 63).trans rfl
theorem f_42_64 : fe0 42 64 = some (.iload 4, 2, 0, 0, 0, 0, 0) := (pg_42 64).trans rfl
theorem f_42_66 : fe0 42 66 = some (.imul, 1, 0, 0, 0, 0, 0) := (pg_42 66).trans rfl
theorem f_42_67 : fe0 42 67 = some (.iconst 3, 1, 0, 0, 0, 0, 0) := (pg_42 67).trans rfl
theorem f_42_68 : fe0 42 68 = some (.idiv, 1, 0, 0, 0, 0, 0) := (pg_42 68).trans rfl
theorem f_42_69 : fe0 42 69 = some (.ireturn, 1, 0, 0, 0, 0, 0) := (pg_42 69).trans rfl
theorem f_42_70 : fe0 42 70 = some (.sipush 999, 3, 0, 0, 0, 0, 0) := (pg_42 70).trans rfl
theorem f_42_73 : fe0 42 73 = some (.iload_n 3, 1, 0, 0, 0, 0, 0) := (pg_42 73).trans rfl
theorem f_42_74 : fe0 42 74 = some (.aload_n 1, 1, 0, 0, 0, 0, 0) := (pg_42 74).trans rfl
theorem f_42_75 : fe0 42 75 = some (.getfield 61, 3, 2, 2, 1, 0, 1105) := (pg_42 75).trans rfl
theorem f_42_78 : fe0 42 78 = some (.iconst (-1), 1, 0, 0, 0, 0, 0) := (pg_42 78).trans rfl
theorem f_42_79 : fe0 42 79 = some (.invokevirtual 65, 3, 3, 1, 0, 0, 2093) := (pg_42 79).trans rfl
theorem f_42_82 : fe0 42 82 = some (.imul, 1, 0, 0, 0, 0, 0) := (pg_42 82).trans rfl
theorem f_42_83 : fe0 42 83 = some (.bipush 100, 2, 0, 0, 0, 0, 0) := (pg_42 83).trans rfl
theorem f_42_85 : fe0 42 85 = some (.idiv, 1, 0, 0, 0, 0, 0) := (pg_42 85).trans rfl
theorem f_42_86 : fe0 42 86 = some (.invokestatic 82, 3, 0, 0, 8, 0, 2108) := (pg_42 86).trans rfl
theorem f_42_89 : fe0 42 89 = some (.ireturn, 1, 0, 0, 0, 0, 0) := (pg_42 89).trans rfl
theorem f_42_90 : fe0 42 90 = some (.sipush 999, 3, 0, 0, 0, 0, 0) := (pg_42 90).trans rfl
theorem f_42_93 : fe0 42 93 = some (.iload_n 3, 1, 0, 0, 0, 0, 0) := (pg_42 93).trans rfl
theorem f_42_94 : fe0 42 94 = some (.aload_n 1, 1, 0, 0, 0, 0, 0) := (pg_42 94).trans rfl
theorem f_42_95 : fe0 42 95 = some (.getfield 61, 3, 2, 2, 1, 0, 1105) := (pg_42 95).trans rfl
theorem f_42_98 : fe0 42 98 = some (.aload_n 2, 1, 0, 0, 0, 0, 0) := (pg_42 98).trans rfl
theorem f_42_99 : fe0 42 99 = some (.getfield 91, 3, 1, 3, 0, 0, 1079) := (pg_42 99).trans rfl
theorem f_42_102 : fe0 42 102 = some (.invokevirtual 65, 3, 3, 1, 0, 0, 2093) := (pg_42 102).trans rfl
theorem f_42_105 : fe0 42 105 = some (.imul, 1, 0, 0, 0, 0, 0) := (pg_42 105).trans rfl
theorem f_42_106 : fe0 42 106 = some (.bipush 100, 2, 0, 0, 0, 0, 0) := (pg_42 106).trans rfl
theorem f_42_108 : fe0 42 108 = some (.idiv, 1, 0, 0, 0, 0, 0) := (pg_42 108).trans rfl
theorem f_42_109 : fe0 42 109 = some (.invokestatic 82, 3, 0, 0, 8, 0, 2108) := (pg_42 109).trans rfl
theorem f_42_112 : fe0 42 112 = some (.ireturn, 1, 0, 0, 0, 0, 0) := (pg_42 112).trans rfl
theorem f_42_113 : fe0 42 113 = some (.iload_n 3, 1, 0, 0, 0, 0, 0) := (pg_42 113).trans rfl
theorem f_42_114 : fe0 42 114 = some (.invokestatic 94, 3, 43, 1, 2, 0, 2111) := (pg_42 114).trans rfl
theorem f_42_117 : fe0 42 117 = some (.ireturn, 1, 0, 0, 0, 0, 0) := (pg_42 117).trans rfl
theorem f_42_118 : fe0 42 118 = some (.iload_n 3, 1, 0, 0, 0, 0, 0) := (pg_42 118).trans rfl
theorem f_42_119 : fe0 42 119 = some (.ireturn, 1, 0, 0, 0, 0, 0) := (pg_42 119).trans rfl
theorem q_42_0 (d : Nat) (l0 : Nat) (l1 : Nat) (l2 : Nat) (μ : aMem) : Rn (d + 1) 42 (0, [.ref l0, .ref l1, .ref l2, un, un], [], μ) = if (mS μ l0).1 = 4 ∧ l0 < 999999 then ((cI d 41 [.ref l0, .ref l1, .ref l2] μ).bind fun p1 => if (mS p1.2 l2).1 = 1 then (if (mF p1.2 l2 0) = 1 then (some (some (.int (if (p1.1 + (mF p1.2 l2 2)) < 999 then (p1.1 + (mF p1.2 l2 2)) else 999)), p1.2)) else (if (mF p1.2 l2 0) = 2 then (if (mS p1.2 l1).1 = 2 then (if (mS p1.2 (mR p1.2 l1 2)).1 = 0 ∧ (mR p1.2 l1 2) < 999999 then ((cI d 3 [.ref (mR p1.2 l1 2), .int (-1)] p1.2).bind fun p5 => some (some (.int (if ((p1.1 * p5.1) / 100) < 999 then ((p1.1 * p5.1) / 100) else 999)), p5.2)) else none) else none) else (if (mF p1.2 l2 0) = 3 then (some (some (.int ((2 * (if (p1.1 + (mF p1.2 l2 2)) < 999 then (p1.1 + (mF p1.2 l2 2)) else 999)) / 3)), p1.2)) else (if (mF p1.2 l2 0) = 4 then (if (mS p1.2 l1).1 = 2 then (if (mS p1.2 (mR p1.2 l1 2)).1 = 0 ∧ (mR p1.2 l1 2) < 999999 then ((cI d 3 [.ref (mR p1.2 l1 2), .int (mF p1.2 l2 3)] p1.2).bind fun p8 => some (some (.int (if ((p1.1 * p8.1) / 100) < 999 then ((p1.1 * p8.1) / 100) else 999)), p8.2)) else none) else none) else (if (mF p1.2 l2 0) = 5 then ((cI d 43 [.int p1.1] p1.2).bind fun p10 => some (some (.int p10.1), p10.2)) else (some (some (.int p1.1), p1.2))))))) else none) else none :=
  (e_nx f_42_0 rfl).trans ((e_nx f_42_1 rfl).trans ((e_nx f_42_2 rfl).trans ((e_gI (L := [.ref l0, .ref l1, .ref l2, un, un]) (st := [.ref l2, .ref l1, .ref l0]) (μ := μ) (L' := [.ref l0, .ref l1, .ref l2, un, un]) (st' := []) f_42_3 rfl rfl).trans (g_congr (v_c2 rfl (Nat.le_of_ble_eq_true rfl)) (fun h2 => m_congr fun p1 => (e_nx (q := (_, [.ref l0, .ref l1, .ref l2, .int p1.1, un], _, _)) f_42_6 rfl).trans ((e_nx (q := (_, _, .int 999 :: _, _)) f_42_7 rfl).trans ((e_nx f_42_10 rfl).trans ((e_nx f_42_11 rfl).trans ((e_gd f_42_12 rfl).trans (g_congr (Iff.rfl) (fun h3 => (e_nx f_42_15 rfl).trans ((e_nx f_42_16 rfl).trans ((e_nx (q := (_, [.ref l0, .ref l1, .ref l2, .int p1.1, .int (if (p1.1 + (mF p1.2 l2 2)) < 999 then (p1.1 + (mF p1.2 l2 2)) else 999)], _, _)) f_42_19 rfl).trans ((e_nx f_42_21 rfl).trans ((e_gk f_42_22 (h3) rfl).trans ((e_tab f_42_25 (ts := [60, 70, 63, 90, 113]) (df := 118) (lo := 1) rfl rfl rfl (by decide) (by decide)).trans (b_congr (fun _ => (e_nx f_42_60 rfl).trans (e_rt f_42_62 rfl)) (fun _ => b_congr (fun _ => (e_nx (q := (_, _, .int 999 :: _, _)) f_42_70 rfl).trans ((e_nx f_42_73 rfl).trans ((e_nx f_42_74 rfl).trans ((e_gd f_42_75 rfl).trans (g_congr (Iff.rfl) (fun h4 => (e_nx (q := (_, _, .int (-1) :: _, _)) f_42_78 rfl).trans ((e_gI (L := [.ref l0, .ref l1, .ref l2, .int p1.1, .int (if (p1.1 + (mF p1.2 l2 2)) < 999 then (p1.1 + (mF p1.2 l2 2)) else 999)]) (st := [.int (-1), .ref (mR p1.2 l1 2), .int p1.1, .int 999]) (μ := p1.2) (L' := [.ref l0, .ref l1, .ref l2, .int p1.1, .int (if (p1.1 + (mF p1.2 l2 2)) < 999 then (p1.1 + (mF p1.2 l2 2)) else 999)]) (st' := [.int p1.1, .int 999]) f_42_79 rfl rfl).trans (g_congr (v_c2 rfl (Nat.le_of_ble_eq_true rfl)) (fun h6 => m_congr fun p5 => (e_nx f_42_82 rfl).trans ((e_nx (q := (_, _, .int 100 :: _, _)) f_42_83 rfl).trans ((e_nx f_42_85 rfl).trans ((e_nx f_42_86 rfl).trans (e_rt f_42_89 rfl))))))))))))) (fun _ => b_congr (fun _ => (e_nx (q := (_, _, .int 2 :: _, _)) f_42_63 rfl).trans ((e_nx f_42_64 rfl).trans ((e_nx f_42_66 rfl).trans ((e_nx (q := (_, _, .int 3 :: _, _)) f_42_67 rfl).trans ((e_nx f_42_68 rfl).trans (e_rt f_42_69 rfl)))))) (fun _ => b_congr (fun _ => (e_nx (q := (_, _, .int 999 :: _, _)) f_42_90 rfl).trans ((e_nx f_42_93 rfl).trans ((e_nx f_42_94 rfl).trans ((e_gd f_42_95 rfl).trans (g_congr (Iff.rfl) (fun h7 => (e_nx f_42_98 rfl).trans ((e_gk f_42_99 (h3) rfl).trans ((e_gI (L := [.ref l0, .ref l1, .ref l2, .int p1.1, .int (if (p1.1 + (mF p1.2 l2 2)) < 999 then (p1.1 + (mF p1.2 l2 2)) else 999)]) (st := [.int (mF p1.2 l2 3), .ref (mR p1.2 l1 2), .int p1.1, .int 999]) (μ := p1.2) (L' := [.ref l0, .ref l1, .ref l2, .int p1.1, .int (if (p1.1 + (mF p1.2 l2 2)) < 999 then (p1.1 + (mF p1.2 l2 2)) else 999)]) (st' := [.int p1.1, .int 999]) f_42_102 rfl rfl).trans (g_congr (v_c2 rfl (Nat.le_of_ble_eq_true rfl)) (fun h9 => m_congr fun p8 => (e_nx f_42_105 rfl).trans ((e_nx (q := (_, _, .int 100 :: _, _)) f_42_106 rfl).trans ((e_nx f_42_108 rfl).trans ((e_nx f_42_109 rfl).trans (e_rt f_42_112 rfl)))))))))))))) (fun _ => b_congr (fun _ => (e_nx f_42_113 rfl).trans ((e_cI (L := [.ref l0, .ref l1, .ref l2, .int p1.1, .int (if (p1.1 + (mF p1.2 l2 2)) < 999 then (p1.1 + (mF p1.2 l2 2)) else 999)]) (st := [.int p1.1]) (μ := p1.2) (L' := [.ref l0, .ref l1, .ref l2, .int p1.1, .int (if (p1.1 + (mF p1.2 l2 2)) < 999 then (p1.1 + (mF p1.2 l2 2)) else 999)]) (st' := []) f_42_114 rfl rfl).trans (m_congr fun p10 => e_rt f_42_117 rfl))) (fun _ => (e_nx f_42_118 rfl).trans (e_rt f_42_119 rfl)))))))))))))))))))))))
theorem pg_43 (pc : Nat) : fe0 43 pc = lk prg_43 pc := rfl
theorem f_43_0 : fe0 43 0 = some (.iconst 0, 1, 0, 0, 0, 0, 0) := (pg_43 0).trans rfl
theorem f_43_1 : fe0 43 1 = some (.istore_n 1, 1, 0, 0, 0, 0, 0) := (pg_43 1).trans rfl
theorem f_43_2 : fe0 43 2 = some (.iload_n 1, 1, 0, 0, 0, 0, 0) := (pg_43 2).trans rfl
theorem f_43_3 : fe0 43 3 = some (.getstatic 97, 3, 0, 1, 0, 0, 2114) := (pg_43 3).trans rfl
theorem f_43_6 : fe0 43 6 = some (.arraylength, 1, 0, 0, 0, 0, 0) := (pg_43 6).trans rfl
theorem f_43_7 : fe0 43 7 = some (.if_icmp .ge 24, 3, 0, 0, 0, 0, 0) := (pg_43 7).trans rfl
theorem f_43_10 : fe0 43 10 = some (.getstatic 97, 3, 0, 1, 0, 0, 2114) := (pg_43 10).trans rfl
theorem f_43_13 : fe0 43 13 = some (.iload_n 1, 1, 0, 0, 0, 0, 0) := (pg_43 13).trans rfl
theorem f_43_14 : fe0 43 14 = some (.iaload, 1, 0, 0, 0, 0, 0) := (pg_43 14).trans rfl
theorem f_43_15 : fe0 43 15 = some (.iload_n 0, 1, 0, 0, 0, 0, 0) := (pg_43 15).trans rfl
theorem f_43_16 : fe0 43 16 = some (.if_icmp .lt 9, 3, 0, 0, 0, 0, 0) := (pg_43 16).trans rfl
theorem f_43_19 : fe0 43 19 = some (.getstatic 97, 3, 0, 1, 0, 0, 2114) := (pg_43 19).trans rfl
theorem f_43_22 : fe0 43 22 = some (.iload_n 1, 1, 0, 0, 0, 0, 0) := (pg_43 22).trans rfl
theorem f_43_23 : fe0 43 23 = some (.iaload, 1, 0, 0, 0, 0, 0) := (pg_43 23).trans rfl
theorem f_43_24 : fe0 43 24 = some (.ireturn, 1, 0, 0, 0, 0, 0) := (pg_43 24).trans rfl
theorem f_43_25 : fe0 43 25 = some (.iinc 1 1, 3, 0, 0, 0, 0, 0) := (pg_43 25).trans rfl
theorem f_43_28 : fe0 43 28 = some (.goto (-26), 3, 0, 0, 0, 0, 0) := (pg_43 28).trans rfl
theorem f_43_31 : fe0 43 31 = some (.getstatic 97, 3, 0, 1, 0, 0, 2114) := (pg_43 31).trans rfl
theorem f_43_34 : fe0 43 34 = some (.getstatic 97, 3, 0, 1, 0, 0, 2114) := (pg_43 34).trans rfl
theorem f_43_37 : fe0 43 37 = some (.arraylength, 1, 0, 0, 0, 0, 0) := (pg_43 37).trans rfl
theorem f_43_38 : fe0 43 38 = some (.iconst 1, 1, 0, 0, 0, 0, 0) := (pg_43 38).trans rfl
theorem f_43_39 : fe0 43 39 = some (.isub, 1, 0, 0, 0, 0, 0) := (pg_43 39).trans rfl
theorem f_43_40 : fe0 43 40 = some (.iaload, 1, 0, 0, 0, 0, 0) := (pg_43 40).trans rfl
theorem f_43_41 : fe0 43 41 = some (.ireturn, 1, 0, 0, 0, 0, 0) := (pg_43 41).trans rfl
theorem q_43_0 (d : Nat) (x0 : Int32) (μ : aMem) : Rn d 43 (0, [.int x0, un], [], μ) = Rn d 43 (2, [.int x0, .int 0], [], μ) :=
  (e_nx (q := (_, _, .int 0 :: _, _)) f_43_0 rfl).trans (e_nx (q := (_, [.int x0, .int 0], _, _)) f_43_1 rfl)
theorem q_43_2 (d : Nat) (x0 : Int32) (x1 : Int32) (μ : aMem) : Rn d 43 (2, [.int x0, .int x1], [], μ) = (rdL μ 1000000).bind fun v1 => if v1 ≤ x1 then ((rdL μ 1000000).bind fun v3 => (rdI μ 1000000 (v3 - 1)).bind fun v4 => some (some (.int v4), μ)) else ((rdI μ 1000000 x1).bind fun v5 => if v5 < x0 then (Rn d 43 (2, [.int x0, .int (x1 + 1)], [], μ)) else ((rdI μ 1000000 x1).bind fun v7 => some (some (.int v7), μ))) :=
  (e_nx f_43_2 rfl).trans ((e_nx f_43_3 rfl).trans ((e_al (L := [.int x0, .int x1]) (r := [.int x1]) (μ := μ) f_43_6).trans (m_congr fun v1 => (e_ge f_43_7 rfl).trans (b_congr (fun h2 => (e_nx f_43_31 rfl).trans ((e_nx f_43_34 rfl).trans ((e_al (L := [.int x0, .int x1]) (r := [.ref 1000000]) (μ := μ) f_43_37).trans (m_congr fun v3 => (e_nx (q := (_, _, .int 1 :: _, _)) f_43_38 rfl).trans ((e_nx f_43_39 rfl).trans ((e_ia (L := [.int x0, .int x1]) (r := []) (μ := μ) f_43_40).trans (m_congr fun v4 => e_rt f_43_41 rfl))))))) (fun h2 => (e_nx f_43_10 rfl).trans ((e_nx f_43_13 rfl).trans ((e_ia (L := [.int x0, .int x1]) (r := []) (μ := μ) f_43_14).trans (m_congr fun v5 => (e_nx f_43_15 rfl).trans ((e_lt f_43_16 rfl).trans (b_congr (fun h6 => (e_nx (q := (_, [.int x0, .int (x1 + 1)], _, _)) f_43_25 rfl).trans (e_nx f_43_28 rfl)) (fun h6 => (e_nx f_43_19 rfl).trans ((e_nx f_43_22 rfl).trans ((e_ia (L := [.int x0, .int x1]) (r := []) (μ := μ) f_43_23).trans (m_congr fun v7 => e_rt f_43_24 rfl))))))))))))))
theorem pg_44 (pc : Nat) : fe0 44 pc = lk prg_44 pc := rfl
theorem f_44_0 : fe0 44 0 = some (.aload_n 1, 1, 0, 0, 0, 0, 0) := (pg_44 0).trans rfl
theorem f_44_1 : fe0 44 1 = some (.iconst 1, 1, 0, 0, 0, 0, 0) := (pg_44 1).trans rfl
theorem f_44_2 : fe0 44 2 = some (.invokevirtual 46, 3, 16, 1, 0, 2, 2085) := (pg_44 2).trans rfl
theorem f_44_5 : fe0 44 5 = some (.astore_n 3, 1, 0, 0, 0, 0, 0) := (pg_44 5).trans rfl
theorem f_44_6 : fe0 44 6 = some (.aload_n 3, 1, 0, 0, 0, 0, 0) := (pg_44 6).trans rfl
theorem f_44_7 : fe0 44 7 = some (.ifnonnull 5, 3, 0, 0, 0, 0, 0) := (pg_44 7).trans rfl
theorem f_44_10 : fe0 44 10 = some (.iconst 0, 1, 0, 0, 0, 0, 0) := (pg_44 10).trans rfl
theorem f_44_11 : fe0 44 11 = some (.ireturn, 1, 0, 0, 0, 0, 0) := (pg_44 11).trans rfl
theorem f_44_12 : fe0 44 12 = some (.aload_n 0, 1, 0, 0, 0, 0, 0) := (pg_44 12).trans rfl
theorem f_44_13 : fe0 44 13 = some (.aload_n 3, 1, 0, 0, 0, 0, 0) := (pg_44 13).trans rfl
theorem f_44_14 : fe0 44 14 = some (.aload_n 2, 1, 0, 0, 0, 0, 0) := (pg_44 14).trans rfl
theorem f_44_15 : fe0 44 15 = some (.getfield 100, 3, 1, 4, 0, 0, 1083) := (pg_44 15).trans rfl
theorem f_44_18 : fe0 44 18 = some (.invokestatic 103, 3, 230, 1, 2, 0, 2120) := (pg_44 18).trans rfl
theorem f_44_21 : fe0 44 21 = some (.aload_n 2, 1, 0, 0, 0, 0, 0) := (pg_44 21).trans rfl
theorem f_44_22 : fe0 44 22 = some (.getfield 52, 3, 1, 1, 0, 0, 1070) := (pg_44 22).trans rfl
theorem f_44_25 : fe0 44 25 = some (.aload_n 2, 1, 0, 0, 0, 0, 0) := (pg_44 25).trans rfl
theorem f_44_26 : fe0 44 26 = some (.getfield 58, 3, 1, 2, 0, 0, 1074) := (pg_44 26).trans rfl
theorem f_44_29 : fe0 44 29 = some (.invokevirtual 71, 3, 39, 4, 0, 4, 2100) := (pg_44 29).trans rfl
theorem f_44_32 : fe0 44 32 = some (.iconst 0, 1, 0, 0, 0, 0, 0) := (pg_44 32).trans rfl
theorem f_44_33 : fe0 44 33 = some (.bipush 99, 2, 0, 0, 0, 0, 0) := (pg_44 33).trans rfl
theorem f_44_35 : fe0 44 35 = some (.invokestatic 75, 3, 123, 3, 4, 0, 2107) := (pg_44 35).trans rfl
theorem f_44_38 : fe0 44 38 = some (.ireturn, 1, 0, 0, 0, 0, 0) := (pg_44 38).trans rfl
theorem q_44_0 (d : Nat) (l0 : Nat) (l1 : Nat) (l2 : Nat) (μ : aMem) : Rn (d + 1) 44 (0, [.ref l0, .ref l1, .ref l2, un], [], μ) = if (mS μ l1).1 = 2 ∧ l1 < 999999 then ((cR d 16 [.ref l1, .int 1] μ).bind fun p1 => if p1.1 ≤ 999999 then (if p1.1 = 999999 then (some (some (.int 0), p1.2)) else (if (mS p1.2 l2).1 = 1 then ((cI d 230 [.int (mF p1.2 l2 4)] p1.2).bind fun p6 => if (mS p6.2 l2).1 = 1 then (if (mS p6.2 l0).1 = 4 ∧ l0 < 999999 then ((cI d 39 [.ref l0, .ref p1.1, .int p6.1, .int (mF p6.2 l2 1), .int (mF p6.2 l2 2)] p6.2).bind fun p8 => (cI d 123 [.int p8.1, .int 0, .int 99] p8.2).bind fun p10 => some (some (.int p10.1), p10.2)) else none) else none) else none)) else none) else none :=
  (e_nx f_44_0 rfl).trans ((e_nx (q := (_, _, .int 1 :: _, _)) f_44_1 rfl).trans ((e_gR (L := [.ref l0, .ref l1, .ref l2, un]) (st := [.int 1, .ref l1]) (μ := μ) (L' := [.ref l0, .ref l1, .ref l2, un]) (st' := []) f_44_2 rfl rfl).trans (g_congr (v_c2 rfl (Nat.le_of_ble_eq_true rfl)) (fun h2 => m_congr fun p1 => (e_nx (q := (_, [.ref l0, .ref l1, .ref l2, .ref p1.1], _, _)) f_44_5 rfl).trans ((e_nx f_44_6 rfl).trans ((e_gb f_44_7 rfl).trans (g_congr Iff.rfl (fun h4 => b_congr (fun h3 => (e_nx (q := (_, _, .int 0 :: _, _)) f_44_10 rfl).trans (e_rt f_44_11 rfl)) (fun h3 => (e_nx f_44_12 rfl).trans ((e_nx f_44_13 rfl).trans ((e_nx f_44_14 rfl).trans ((e_gd f_44_15 rfl).trans (g_congr (Iff.rfl) (fun h5 => (e_cI (L := [.ref l0, .ref l1, .ref l2, .ref p1.1]) (st := [.int (mF p1.2 l2 4), .ref p1.1, .ref l0]) (μ := p1.2) (L' := [.ref l0, .ref l1, .ref l2, .ref p1.1]) (st' := [.ref p1.1, .ref l0]) f_44_18 rfl rfl).trans (m_congr fun p6 => (e_nx f_44_21 rfl).trans ((e_gd f_44_22 rfl).trans (g_congr (Iff.rfl) (fun h7 => (e_nx f_44_25 rfl).trans ((e_gk f_44_26 (h7) rfl).trans ((e_gI (L := [.ref l0, .ref l1, .ref l2, .ref p1.1]) (st := [.int (mF p6.2 l2 2), .int (mF p6.2 l2 1), .int p6.1, .ref p1.1, .ref l0]) (μ := p6.2) (L' := [.ref l0, .ref l1, .ref l2, .ref p1.1]) (st' := []) f_44_29 rfl rfl).trans (g_congr (v_c2 rfl (Nat.le_of_ble_eq_true rfl)) (fun h9 => m_congr fun p8 => (e_nx (q := (_, _, .int 0 :: _, _)) f_44_32 rfl).trans ((e_nx (q := (_, _, .int 99 :: _, _)) f_44_33 rfl).trans ((e_cI (L := [.ref l0, .ref l1, .ref l2, .ref p1.1]) (st := [.int 99, .int 0, .int p8.1]) (μ := p8.2) (L' := [.ref l0, .ref l1, .ref l2, .ref p1.1]) (st' := []) f_44_35 rfl rfl).trans (m_congr fun p10 => e_rt f_44_38 rfl)))))))))))))))))))))))))
theorem pg_45 (pc : Nat) : fe0 45 pc = lk prg_45 pc := rfl
theorem f_45_0 : fe0 45 0 = some (.aload_n 1, 1, 0, 0, 0, 0, 0) := (pg_45 0).trans rfl
theorem f_45_1 : fe0 45 1 = some (.getfield 108, 3, 2, 0, 1, 0, 1099) := (pg_45 1).trans rfl
theorem f_45_4 : fe0 45 4 = some (.iload_n 2, 1, 0, 0, 0, 0, 0) := (pg_45 4).trans rfl
theorem f_45_5 : fe0 45 5 = some (.aaload, 1, 0, 0, 0, 0, 0) := (pg_45 5).trans rfl
theorem f_45_6 : fe0 45 6 = some (.getfield 100, 3, 1, 4, 0, 0, 1083) := (pg_45 6).trans rfl
theorem f_45_9 : fe0 45 9 = some (.istore_n 3, 1, 0, 0, 0, 0, 0) := (pg_45 9).trans rfl
theorem f_45_10 : fe0 45 10 = some (.iconst 0, 1, 0, 0, 0, 0, 0) := (pg_45 10).trans rfl
theorem f_45_11 : fe0 45 11 = some (.istore 4, 2, 0, 0, 0, 0, 0) := (pg_45 11).trans rfl
theorem f_45_13 : fe0 45 13 = some (.iconst 0, 1, 0, 0, 0, 0, 0) := (pg_45 13).trans rfl
theorem f_45_14 : fe0 45 14 = some (.istore 5, 2, 0, 0, 0, 0, 0) := (pg_45 14).trans rfl
theorem f_45_16 : fe0 45 16 = some (.iload 5, 2, 0, 0, 0, 0, 0) := (pg_45 16).trans rfl
theorem f_45_18 : fe0 45 18 = some (.iload_n 2, 1, 0, 0, 0, 0, 0) := (pg_45 18).trans rfl
theorem f_45_19 : fe0 45 19 = some (.if_icmp .ge 32, 3, 0, 0, 0, 0, 0) := (pg_45 19).trans rfl
theorem f_45_22 : fe0 45 22 = some (.iload_n 3, 1, 0, 0, 0, 0, 0) := (pg_45 22).trans rfl
theorem f_45_23 : fe0 45 23 = some (.iload 5, 2, 0, 0, 0, 0, 0) := (pg_45 23).trans rfl
theorem f_45_25 : fe0 45 25 = some (.ishr, 1, 0, 0, 0, 0, 0) := (pg_45 25).trans rfl
theorem f_45_26 : fe0 45 26 = some (.iconst 1, 1, 0, 0, 0, 0, 0) := (pg_45 26).trans rfl
theorem f_45_27 : fe0 45 27 = some (.iand, 1, 0, 0, 0, 0, 0) := (pg_45 27).trans rfl
theorem f_45_28 : fe0 45 28 = some (.ifCond .eq 17, 3, 0, 0, 0, 0, 0) := (pg_45 28).trans rfl
theorem f_45_31 : fe0 45 31 = some (.iload 4, 2, 0, 0, 0, 0, 0) := (pg_45 31).trans rfl
theorem f_45_33 : fe0 45 33 = some (.aload_n 0, 1, 0, 0, 0, 0, 0) := (pg_45 33).trans rfl
theorem f_45_34 : fe0 45 34 = some (.getfield 21, 3, 4, 3, 1, 0, 1138) := (pg_45 34).trans rfl
theorem f_45_37 : fe0 45 37 = some (.iload 5, 2, 0, 0, 0, 0, 0) := (pg_45 37).trans rfl
theorem f_45_39 : fe0 45 39 = some (.iaload, 1, 0, 0, 0, 0, 0) := (pg_45 39).trans rfl
theorem f_45_40 : fe0 45 40 = some (.invokestatic 112, 3, 0, 0, 7, 0, 2148) := (pg_45 40).trans rfl
theorem f_45_43 : fe0 45 43 = some (.istore 4, 2, 0, 0, 0, 0, 0) := (pg_45 43).trans rfl
theorem f_45_45 : fe0 45 45 = some (.iinc 5 1, 3, 0, 0, 0, 0, 0) := (pg_45 45).trans rfl
theorem f_45_48 : fe0 45 48 = some (.goto (-32), 3, 0, 0, 0, 0, 0) := (pg_45 48).trans rfl
theorem f_45_51 : fe0 45 51 = some (.iload 4, 2, 0, 0, 0, 0, 0) := (pg_45 51).trans rfl
theorem f_45_53 : fe0 45 53 = some (.aload_n 0, 1, 0, 0, 0, 0, 0) := (pg_45 53).trans rfl
theorem f_45_54 : fe0 45 54 = some (.getfield 15, 3, 4, 1, 1, 0, 1136) := (pg_45 54).trans rfl
theorem f_45_57 : fe0 45 57 = some (.iload_n 2, 1, 0, 0, 0, 0, 0) := (pg_45 57).trans rfl
theorem f_45_58 : fe0 45 58 = some (.iaload, 1, 0, 0, 0, 0, 0) := (pg_45 58).trans rfl
theorem f_45_59 : fe0 45 59 = some (.iadd, 1, 0, 0, 0, 0, 0) := (pg_45 59).trans rfl
theorem f_45_60 : fe0 45 60 = some (.ireturn, 1, 0, 0, 0, 0, 0) := (pg_45 60).trans rfl
theorem q_45_0 (d : Nat) (l0 : Nat) (l1 : Nat) (x2 : Int32) (μ : aMem) : Rn d 45 (0, [.ref l0, .ref l1, .int x2, un, un, un], [], μ) = if (mS μ l1).1 = 2 then (if 12 ≤ (mS μ (mR μ l1 0)).1 ∧ (mS μ (mR μ l1 0)).1 < 16 ∧ inb x2 (mS μ (mR μ l1 0)).2 then (if (mS μ (mR μ (mR μ l1 0) (ix x2))).1 = 1 then (Rn d 45 (16, [.ref l0, .ref l1, .int x2, .int (mF μ (mR μ (mR μ l1 0) (ix x2)) 4), .int 0, .int 0], [], μ)) else none) else none) else none :=
  (e_nx f_45_0 rfl).trans ((e_gd f_45_1 rfl).trans (g_congr (Iff.rfl) (fun h1 => (e_nx f_45_4 rfl).trans ((e_gd f_45_5 rfl).trans (g_congr (Iff.rfl) (fun h2 => (e_gd f_45_6 rfl).trans (g_congr (Iff.rfl) (fun h3 => (e_nx (q := (_, [.ref l0, .ref l1, .int x2, .int (mF μ (mR μ (mR μ l1 0) (ix x2)) 4), un, un], _, _)) f_45_9 rfl).trans ((e_nx (q := (_, _, .int 0 :: _, _)) f_45_10 rfl).trans ((e_nx (q := (_, [.ref l0, .ref l1, .int x2, .int (mF μ (mR μ (mR μ l1 0) (ix x2)) 4), .int 0, un], _, _)) f_45_11 rfl).trans ((e_nx (q := (_, _, .int 0 :: _, _)) f_45_13 rfl).trans (e_nx (q := (_, [.ref l0, .ref l1, .int x2, .int (mF μ (mR μ (mR μ l1 0) (ix x2)) 4), .int 0, .int 0], _, _)) f_45_14 rfl))))))))))))
theorem q_45_16 (d : Nat) (l0 : Nat) (l1 : Nat) (x2 : Int32) (x3 : Int32) (x4 : Int32) (x5 : Int32) (μ : aMem) : Rn d 45 (16, [.ref l0, .ref l1, .int x2, .int x3, .int x4, .int x5], [], μ) = if x2 ≤ x5 then (if (mS μ l0).1 = 4 then ((rdI μ (mR μ l0 1) x2).bind fun v3 => some (some (.int (x4 + v3)), μ)) else none) else (if ((x3 >>> (x5 &&& 31)) &&& 1) = 0 then (Rn d 45 (16, [.ref l0, .ref l1, .int x2, .int x3, .int x4, .int (x5 + 1)], [], μ)) else (if (mS μ l0).1 = 4 then ((rdI μ (mR μ l0 3) x5).bind fun v6 => Rn d 45 (16, [.ref l0, .ref l1, .int x2, .int x3, .int (if x4 < v6 then v6 else x4), .int (x5 + 1)], [], μ)) else none)) :=
  (e_nx f_45_16 rfl).trans ((e_nx f_45_18 rfl).trans ((e_ge f_45_19 rfl).trans (b_congr (fun h1 => (e_nx f_45_51 rfl).trans ((e_nx f_45_53 rfl).trans ((e_gd f_45_54 rfl).trans (g_congr (Iff.rfl) (fun h2 => (e_nx f_45_57 rfl).trans ((e_ia (L := [.ref l0, .ref l1, .int x2, .int x3, .int x4, .int x5]) (r := [.int x4]) (μ := μ) f_45_58).trans (m_congr fun v3 => (e_nx f_45_59 rfl).trans (e_rt f_45_60 rfl)))))))) (fun h1 => (e_nx f_45_22 rfl).trans ((e_nx f_45_23 rfl).trans ((e_nx f_45_25 rfl).trans ((e_nx (q := (_, _, .int 1 :: _, _)) f_45_26 rfl).trans ((e_nx f_45_27 rfl).trans ((e_eq f_45_28 rfl).trans (b_congr (fun h4 => (e_nx (q := (_, [.ref l0, .ref l1, .int x2, .int x3, .int x4, .int (x5 + 1)], _, _)) f_45_45 rfl).trans (e_nx f_45_48 rfl)) (fun h4 => (e_nx f_45_31 rfl).trans ((e_nx f_45_33 rfl).trans ((e_gd f_45_34 rfl).trans (g_congr (Iff.rfl) (fun h5 => (e_nx f_45_37 rfl).trans ((e_ia (L := [.ref l0, .ref l1, .int x2, .int x3, .int x4, .int x5]) (r := [.int x4]) (μ := μ) f_45_39).trans (m_congr fun v6 => (e_nx f_45_40 rfl).trans ((e_nx (q := (_, [.ref l0, .ref l1, .int x2, .int x3, .int (if x4 < v6 then v6 else x4), .int x5], _, _)) f_45_43 rfl).trans ((e_nx (q := (_, [.ref l0, .ref l1, .int x2, .int x3, .int (if x4 < v6 then v6 else x4), .int (x5 + 1)], _, _)) f_45_45 rfl).trans (e_nx f_45_48 rfl))))))))))))))))))))
theorem pg_46 (pc : Nat) : fe0 46 pc = lk prg_46 pc := rfl
theorem f_46_0 : fe0 46 0 = some (.iconst 0, 1, 0, 0, 0, 0, 0) := (pg_46 0).trans rfl
theorem f_46_1 : fe0 46 1 = some (.istore_n 2, 1, 0, 0, 0, 0, 0) := (pg_46 1).trans rfl
theorem f_46_2 : fe0 46 2 = some (.iconst 0, 1, 0, 0, 0, 0, 0) := (pg_46 2).trans rfl
theorem f_46_3 : fe0 46 3 = some (.istore_n 3, 1, 0, 0, 0, 0, 0) := (pg_46 3).trans rfl
theorem f_46_4 : fe0 46 4 = some (.iload_n 3, 1, 0, 0, 0, 0, 0) := (pg_46 4).trans rfl
theorem f_46_5 : fe0 46 5 = some (.aload_n 1, 1, 0, 0, 0, 0, 0) := (pg_46 5).trans rfl
theorem f_46_6 : fe0 46 6 = some (.getfield 115, 3, 2, 1, 0, 0, 1102) := (pg_46 6).trans rfl
theorem f_46_9 : fe0 46 9 = some (.if_icmp .ge 51, 3, 0, 0, 0, 0, 0) := (pg_46 9).trans rfl
theorem f_46_12 : fe0 46 12 = some (.aload_n 0, 1, 0, 0, 0, 0, 0) := (pg_46 12).trans rfl
theorem f_46_13 : fe0 46 13 = some (.getfield 18, 3, 4, 2, 1, 0, 1137) := (pg_46 13).trans rfl
theorem f_46_16 : fe0 46 16 = some (.iload_n 3, 1, 0, 0, 0, 0, 0) := (pg_46 16).trans rfl
theorem f_46_17 : fe0 46 17 = some (.aload_n 0, 1, 0, 0, 0, 0, 0) := (pg_46 17).trans rfl
theorem f_46_18 : fe0 46 18 = some (.aload_n 1, 1, 0, 0, 0, 0, 0) := (pg_46 18).trans rfl
theorem f_46_19 : fe0 46 19 = some (.iload_n 3, 1, 0, 0, 0, 0, 0) := (pg_46 19).trans rfl
theorem f_46_20 : fe0 46 20 = some (.invokevirtual 118, 3, 45, 2, 0, 4, 2144) := (pg_46 20).trans rfl
theorem f_46_23 : fe0 46 23 = some (.iastore, 1, 0, 0, 0, 0, 0) := (pg_46 23).trans rfl
theorem f_46_24 : fe0 46 24 = some (.aload_n 0, 1, 0, 0, 0, 0, 0) := (pg_46 24).trans rfl
theorem f_46_25 : fe0 46 25 = some (.getfield 21, 3, 4, 3, 1, 0, 1138) := (pg_46 25).trans rfl
theorem f_46_28 : fe0 46 28 = some (.iload_n 3, 1, 0, 0, 0, 0, 0) := (pg_46 28).trans rfl
theorem f_46_29 : fe0 46 29 = some (.aload_n 0, 1, 0, 0, 0, 0, 0) := (pg_46 29).trans rfl
theorem f_46_30 : fe0 46 30 = some (.getfield 18, 3, 4, 2, 1, 0, 1137) := (pg_46 30).trans rfl
theorem f_46_33 : fe0 46 33 = some (.iload_n 3, 1, 0, 0, 0, 0, 0) := (pg_46 33).trans rfl
theorem f_46_34 : fe0 46 34 = some (.iaload, 1, 0, 0, 0, 0, 0) := (pg_46 34).trans rfl
theorem f_46_35 : fe0 46 35 = some (.aload_n 0, 1, 0, 0, 0, 0, 0) := (pg_46 35).trans rfl
theorem f_46_36 : fe0 46 36 = some (.getfield 9, 3, 4, 0, 1, 0, 1135) := (pg_46 36).trans rfl
theorem f_46_39 : fe0 46 39 = some (.iload_n 3, 1, 0, 0, 0, 0, 0) := (pg_46 39).trans rfl
theorem f_46_40 : fe0 46 40 = some (.iaload, 1, 0, 0, 0, 0, 0) := (pg_46 40).trans rfl
theorem f_46_41 : fe0 46 41 = some (.iadd, 1, 0, 0, 0, 0, 0) := (pg_46 41).trans rfl
theorem f_46_42 : fe0 46 42 = some (.iastore, 1, 0, 0, 0, 0, 0) := (pg_46 42).trans rfl
theorem f_46_43 : fe0 46 43 = some (.iload_n 2, 1, 0, 0, 0, 0, 0) := (pg_46 43).trans rfl
theorem f_46_44 : fe0 46 44 = some (.aload_n 0, 1, 0, 0, 0, 0, 0) := (pg_46 44).trans rfl
theorem f_46_45 : fe0 46 45 = some (.getfield 21, 3, 4, 3, 1, 0, 1138) := (pg_46 45).trans rfl
theorem f_46_48 : fe0 46 48 = some (.iload_n 3, 1, 0, 0, 0, 0, 0) := (pg_46 48).trans rfl
theorem f_46_49 : fe0 46 49 = some (.iaload, 1, 0, 0, 0, 0, 0) := (pg_46 49).trans rfl
theorem f_46_50 : fe0 46 50 = some (.invokestatic 112, 3, 0, 0, 7, 0, 2148) := (pg_46 50).trans rfl
theorem f_46_53 : fe0 46 53 = some (.istore_n 2, 1, 0, 0, 0, 0, 0) := (pg_46 53).trans rfl
theorem f_46_54 : fe0 46 54 = some (.iinc 3 1, 3, 0, 0, 0, 0, 0) := (pg_46 54).trans rfl
theorem f_46_57 : fe0 46 57 = some (.goto (-53), 3, 0, 0, 0, 0, 0) := (pg_46 57).trans rfl
theorem f_46_60 : fe0 46 60 = some (.iload_n 2, 1, 0, 0, 0, 0, 0) := (pg_46 60).trans rfl
theorem f_46_61 : fe0 46 61 = some (.ireturn, 1, 0, 0, 0, 0, 0) := (pg_46 61).trans rfl
theorem q_46_0 (d : Nat) (l0 : Nat) (l1 : Nat) (μ : aMem) : Rn (d + 1) 46 (0, [.ref l0, .ref l1, un, un], [], μ) = Rn (d + 1) 46 (4, [.ref l0, .ref l1, .int 0, .int 0], [], μ) :=
  (e_nx (q := (_, _, .int 0 :: _, _)) f_46_0 rfl).trans ((e_nx (q := (_, [.ref l0, .ref l1, .int 0, un], _, _)) f_46_1 rfl).trans ((e_nx (q := (_, _, .int 0 :: _, _)) f_46_2 rfl).trans (e_nx (q := (_, [.ref l0, .ref l1, .int 0, .int 0], _, _)) f_46_3 rfl)))
theorem q_46_4 (d : Nat) (l0 : Nat) (l1 : Nat) (x2 : Int32) (x3 : Int32) (μ : aMem) : Rn (d + 1) 46 (4, [.ref l0, .ref l1, .int x2, .int x3], [], μ) = if (mS μ l1).1 = 2 then (if (mF μ l1 1) ≤ x3 then (some (some (.int x2), μ)) else (if (mS μ l0).1 = 4 then (if (mS μ l0).1 = 4 ∧ l0 < 999999 then ((cI d 45 [.ref l0, .ref l1, .int x3] μ).bind fun p4 => if (mS p4.2 (mR μ l0 2)).1 = 10 ∧ inb x3 (mS p4.2 (mR μ l0 2)).2 then (if (mS p4.2 l0).1 = 4 then ((rdI (setF p4.2 (mR μ l0 2) (ix x3) p4.1) (mR p4.2 l0 2) x3).bind fun v8 => (rdI (setF p4.2 (mR μ l0 2) (ix x3) p4.1) (mR p4.2 l0 0) x3).bind fun v9 => if (mS p4.2 (mR p4.2 l0 3)).1 = 10 ∧ inb x3 (mS p4.2 (mR p4.2 l0 3)).2 then ((rdI (setF (setF p4.2 (mR μ l0 2) (ix x3) p4.1) (mR p4.2 l0 3) (ix x3) (v8 + v9)) (mR p4.2 l0 3) x3).bind fun v11 => Rn (d + 1) 46 (4, [.ref l0, .ref l1, .int (if x2 < v11 then v11 else x2), .int (x3 + 1)], [], setF (setF p4.2 (mR μ l0 2) (ix x3) p4.1) (mR p4.2 l0 3) (ix x3) (v8 + v9))) else none) else none) else none) else none) else none)) else none :=
  (e_nx f_46_4 rfl).trans ((e_nx f_46_5 rfl).trans ((e_gd f_46_6 rfl).trans (g_congr (Iff.rfl) (fun h1 => (e_ge f_46_9 rfl).trans (b_congr (fun h2 => (e_nx f_46_60 rfl).trans (e_rt f_46_61 rfl)) (fun h2 => (e_nx f_46_12 rfl).trans ((e_gd f_46_13 rfl).trans (g_congr (Iff.rfl) (fun h3 => (e_nx f_46_16 rfl).trans ((e_nx f_46_17 rfl).trans ((e_nx f_46_18 rfl).trans ((e_nx f_46_19 rfl).trans ((e_gI (L := [.ref l0, .ref l1, .int x2, .int x3]) (st := [.int x3, .ref l1, .ref l0, .int x3, .ref (mR μ l0 2)]) (μ := μ) (L' := [.ref l0, .ref l1, .int x2, .int x3]) (st' := [.int x3, .ref (mR μ l0 2)]) f_46_20 rfl rfl).trans (g_congr (v_c2 rfl (Nat.le_of_ble_eq_true rfl)) (fun h5 => m_congr fun p4 => (e_gd f_46_23 rfl).trans (g_congr (Iff.rfl) (fun h6 => (e_nx f_46_24 rfl).trans ((e_gd f_46_25 rfl).trans (g_congr (Iff.rfl) (fun h7 => (e_nx f_46_28 rfl).trans ((e_nx f_46_29 rfl).trans ((e_gk f_46_30 (h7) rfl).trans ((e_nx f_46_33 rfl).trans ((e_ia (L := [.ref l0, .ref l1, .int x2, .int x3]) (r := [.int x3, .ref (mR p4.2 l0 3)]) (μ := setF p4.2 (mR μ l0 2) (ix x3) p4.1) f_46_34).trans (m_congr fun v8 => (e_nx f_46_35 rfl).trans ((e_gk f_46_36 (h7) rfl).trans ((e_nx f_46_39 rfl).trans ((e_ia (L := [.ref l0, .ref l1, .int x2, .int x3]) (r := [.int v8, .int x3, .ref (mR p4.2 l0 3)]) (μ := setF p4.2 (mR μ l0 2) (ix x3) p4.1) f_46_40).trans (m_congr fun v9 => (e_nx f_46_41 rfl).trans ((e_gd f_46_42 rfl).trans (g_congr (Iff.rfl) (fun h10 => (e_nx f_46_43 rfl).trans ((e_nx f_46_44 rfl).trans ((e_gk f_46_45 (h7) rfl).trans ((e_nx f_46_48 rfl).trans ((e_ia (L := [.ref l0, .ref l1, .int x2, .int x3]) (r := [.int x2]) (μ := setF (setF p4.2 (mR μ l0 2) (ix x3) p4.1) (mR p4.2 l0 3) (ix x3) (v8 + v9)) f_46_49).trans (m_congr fun v11 => (e_nx f_46_50 rfl).trans ((e_nx (q := (_, [.ref l0, .ref l1, .int (if x2 < v11 then v11 else x2), .int x3], _, _)) f_46_53 rfl).trans ((e_nx (q := (_, [.ref l0, .ref l1, .int (if x2 < v11 then v11 else x2), .int (x3 + 1)], _, _)) f_46_54 rfl).trans (e_nx f_46_57 rfl))))))))))))))))))))))))))))))))))))))))
theorem pg_47 (pc : Nat) : fe0 47 pc = lk prg_47 pc := rfl
theorem f_47_0 : fe0 47 0 = some (.iconst 0, 1, 0, 0, 0, 0, 0) := (pg_47 0).trans rfl
theorem f_47_1 : fe0 47 1 = some (.istore_n 2, 1, 0, 0, 0, 0, 0) := (pg_47 1).trans rfl
theorem f_47_2 : fe0 47 2 = some (.iload_n 2, 1, 0, 0, 0, 0, 0) := (pg_47 2).trans rfl
theorem f_47_3 : fe0 47 3 = some (.aload_n 1, 1, 0, 0, 0, 0, 0) := (pg_47 3).trans rfl
theorem f_47_4 : fe0 47 4 = some (.getfield 115, 3, 2, 1, 0, 0, 1102) := (pg_47 4).trans rfl
theorem f_47_7 : fe0 47 7 = some (.if_icmp .ge 43, 3, 0, 0, 0, 0, 0) := (pg_47 7).trans rfl
theorem f_47_10 : fe0 47 10 = some (.aload_n 0, 1, 0, 0, 0, 0, 0) := (pg_47 10).trans rfl
theorem f_47_11 : fe0 47 11 = some (.getfield 9, 3, 4, 0, 1, 0, 1135) := (pg_47 11).trans rfl
theorem f_47_14 : fe0 47 14 = some (.iload_n 2, 1, 0, 0, 0, 0, 0) := (pg_47 14).trans rfl
theorem f_47_15 : fe0 47 15 = some (.aload_n 0, 1, 0, 0, 0, 0, 0) := (pg_47 15).trans rfl
theorem f_47_16 : fe0 47 16 = some (.aload_n 1, 1, 0, 0, 0, 0, 0) := (pg_47 16).trans rfl
theorem f_47_17 : fe0 47 17 = some (.aload_n 1, 1, 0, 0, 0, 0, 0) := (pg_47 17).trans rfl
theorem f_47_18 : fe0 47 18 = some (.getfield 108, 3, 2, 0, 1, 0, 1099) := (pg_47 18).trans rfl
theorem f_47_21 : fe0 47 21 = some (.iload_n 2, 1, 0, 0, 0, 0, 0) := (pg_47 21).trans rfl
theorem f_47_22 : fe0 47 22 = some (.aaload, 1, 0, 0, 0, 0, 0) := (pg_47 22).trans rfl
theorem f_47_23 : fe0 47 23 = some (.invokevirtual 122, 3, 42, 2, 0, 4, 2138) := (pg_47 23).trans rfl
theorem f_47_26 : fe0 47 26 = some (.iastore, 1, 0, 0, 0, 0, 0) := (pg_47 26).trans rfl
theorem f_47_27 : fe0 47 27 = some (.aload_n 0, 1, 0, 0, 0, 0, 0) := (pg_47 27).trans rfl
theorem f_47_28 : fe0 47 28 = some (.getfield 15, 3, 4, 1, 1, 0, 1136) := (pg_47 28).trans rfl
theorem f_47_31 : fe0 47 31 = some (.iload_n 2, 1, 0, 0, 0, 0, 0) := (pg_47 31).trans rfl
theorem f_47_32 : fe0 47 32 = some (.aload_n 0, 1, 0, 0, 0, 0, 0) := (pg_47 32).trans rfl
theorem f_47_33 : fe0 47 33 = some (.aload_n 1, 1, 0, 0, 0, 0, 0) := (pg_47 33).trans rfl
theorem f_47_34 : fe0 47 34 = some (.aload_n 1, 1, 0, 0, 0, 0, 0) := (pg_47 34).trans rfl
theorem f_47_35 : fe0 47 35 = some (.getfield 108, 3, 2, 0, 1, 0, 1099) := (pg_47 35).trans rfl
theorem f_47_38 : fe0 47 38 = some (.iload_n 2, 1, 0, 0, 0, 0, 0) := (pg_47 38).trans rfl
theorem f_47_39 : fe0 47 39 = some (.aaload, 1, 0, 0, 0, 0, 0) := (pg_47 39).trans rfl
theorem f_47_40 : fe0 47 40 = some (.invokevirtual 125, 3, 44, 2, 0, 4, 2139) := (pg_47 40).trans rfl
theorem f_47_43 : fe0 47 43 = some (.iastore, 1, 0, 0, 0, 0, 0) := (pg_47 43).trans rfl
theorem f_47_44 : fe0 47 44 = some (.iinc 2 1, 3, 0, 0, 0, 0, 0) := (pg_47 44).trans rfl
theorem f_47_47 : fe0 47 47 = some (.goto (-45), 3, 0, 0, 0, 0, 0) := (pg_47 47).trans rfl
theorem f_47_50 : fe0 47 50 = some (.aload_n 0, 1, 0, 0, 0, 0, 0) := (pg_47 50).trans rfl
theorem f_47_51 : fe0 47 51 = some (.aload_n 1, 1, 0, 0, 0, 0, 0) := (pg_47 51).trans rfl
theorem f_47_52 : fe0 47 52 = some (.invokevirtual 128, 3, 46, 1, 0, 4, 2140) := (pg_47 52).trans rfl
theorem f_47_55 : fe0 47 55 = some (.ireturn, 1, 0, 0, 0, 0, 0) := (pg_47 55).trans rfl
theorem q_47_0 (d : Nat) (l0 : Nat) (l1 : Nat) (μ : aMem) : Rn (d + 1) 47 (0, [.ref l0, .ref l1, un], [], μ) = Rn (d + 1) 47 (2, [.ref l0, .ref l1, .int 0], [], μ) :=
  (e_nx (q := (_, _, .int 0 :: _, _)) f_47_0 rfl).trans (e_nx (q := (_, [.ref l0, .ref l1, .int 0], _, _)) f_47_1 rfl)
theorem q_47_2 (d : Nat) (l0 : Nat) (l1 : Nat) (x2 : Int32) (μ : aMem) : Rn (d + 1) 47 (2, [.ref l0, .ref l1, .int x2], [], μ) = if (mS μ l1).1 = 2 then (if (mF μ l1 1) ≤ x2 then (if (mS μ l0).1 = 4 ∧ l0 < 999999 then ((cI d 46 [.ref l0, .ref l1] μ).bind fun p3 => some (some (.int p3.1), p3.2)) else none) else (if (mS μ l0).1 = 4 then (if 12 ≤ (mS μ (mR μ l1 0)).1 ∧ (mS μ (mR μ l1 0)).1 < 16 ∧ inb x2 (mS μ (mR μ l1 0)).2 then (if (mS μ l0).1 = 4 ∧ l0 < 999999 then ((cI d 42 [.ref l0, .ref l1, .ref (mR μ (mR μ l1 0) (ix x2))] μ).bind fun p7 => if (mS p7.2 (mR μ l0 0)).1 = 10 ∧ inb x2 (mS p7.2 (mR μ l0 0)).2 then (if (mS p7.2 l0).1 = 4 then (if (mS p7.2 l1).1 = 2 then (if 12 ≤ (mS p7.2 (mR p7.2 l1 0)).1 ∧ (mS p7.2 (mR p7.2 l1 0)).1 < 16 ∧ inb x2 (mS p7.2 (mR p7.2 l1 0)).2 then (if (mS p7.2 l0).1 = 4 ∧ l0 < 999999 then ((cI d 44 [.ref l0, .ref l1, .ref (mR p7.2 (mR p7.2 l1 0) (ix x2))] (setF p7.2 (mR μ l0 0) (ix x2) p7.1)).bind fun p13 => if (mS p13.2 (mR p7.2 l0 1)).1 = 10 ∧ inb x2 (mS p13.2 (mR p7.2 l0 1)).2 then (Rn (d + 1) 47 (2, [.ref l0, .ref l1, .int (x2 + 1)], [], setF p13.2 (mR p7.2 l0 1) (ix x2) p13.1)) else none) else none) else none) else none) else none) else none) else none) else none) else none)) else none :=
  (e_nx f_47_2 rfl).trans ((e_nx f_47_3 rfl).trans ((e_gd f_47_4 rfl).trans (g_congr (Iff.rfl) (fun h1 => (e_ge f_47_7 rfl).trans (b_congr (fun h2 => (e_nx f_47_50 rfl).trans ((e_nx f_47_51 rfl).trans ((e_gI (L := [.ref l0, .ref l1, .int x2]) (st := [.ref l1, .ref l0]) (μ := μ) (L' := [.ref l0, .ref l1, .int x2]) (st' := []) f_47_52 rfl rfl).trans (g_congr (v_c2 rfl (Nat.le_of_ble_eq_true rfl)) (fun h4 => m_congr fun p3 => e_rt f_47_55 rfl))))) (fun h2 => (e_nx f_47_10 rfl).trans ((e_gd f_47_11 rfl).trans (g_congr (Iff.rfl) (fun h5 => (e_nx f_47_14 rfl).trans ((e_nx f_47_15 rfl).trans ((e_nx f_47_16 rfl).trans ((e_nx f_47_17 rfl).trans ((e_gk f_47_18 (h1) rfl).trans ((e_nx f_47_21 rfl).trans ((e_gd f_47_22 rfl).trans (g_congr (Iff.rfl) (fun h6 => (e_gI (L := [.ref l0, .ref l1, .int x2]) (st := [.ref (mR μ (mR μ l1 0) (ix x2)), .ref l1, .ref l0, .int x2, .ref (mR μ l0 0)]) (μ := μ) (L' := [.ref l0, .ref l1, .int x2]) (st' := [.int x2, .ref (mR μ l0 0)]) f_47_23 rfl rfl).trans (g_congr (v_c2 rfl (Nat.le_of_ble_eq_true rfl)) (fun h8 => m_congr fun p7 => (e_gd f_47_26 rfl).trans (g_congr (Iff.rfl) (fun h9 => (e_nx f_47_27 rfl).trans ((e_gd f_47_28 rfl).trans (g_congr (Iff.rfl) (fun h10 => (e_nx f_47_31 rfl).trans ((e_nx f_47_32 rfl).trans ((e_nx f_47_33 rfl).trans ((e_nx f_47_34 rfl).trans ((e_gd f_47_35 rfl).trans (g_congr (Iff.rfl) (fun h11 => (e_nx f_47_38 rfl).trans ((e_gd f_47_39 rfl).trans (g_congr (Iff.rfl) (fun h12 => (e_gI (L := [.ref l0, .ref l1, .int x2]) (st := [.ref (mR p7.2 (mR p7.2 l1 0) (ix x2)), .ref l1, .ref l0, .int x2, .ref (mR p7.2 l0 1)]) (μ := setF p7.2 (mR μ l0 0) (ix x2) p7.1) (L' := [.ref l0, .ref l1, .int x2]) (st' := [.int x2, .ref (mR p7.2 l0 1)]) f_47_40 rfl rfl).trans (g_congr (v_c2 rfl (Nat.le_of_ble_eq_true rfl)) (fun h14 => m_congr fun p13 => (e_gd f_47_43 rfl).trans (g_congr (Iff.rfl) (fun h15 => (e_nx (q := (_, [.ref l0, .ref l1, .int (x2 + 1)], _, _)) f_47_44 rfl).trans (e_nx f_47_47 rfl))))))))))))))))))))))))))))))))))))))
theorem pg_48 (pc : Nat) : fe0 48 pc = lk prg_48 pc := rfl
theorem f_48_0 : fe0 48 0 = some (.aload_n 0, 1, 0, 0, 0, 0, 0) := (pg_48 0).trans rfl
theorem f_48_1 : fe0 48 1 = some (.aload_n 1, 1, 0, 0, 0, 0, 0) := (pg_48 1).trans rfl
theorem f_48_2 : fe0 48 2 = some (.invokevirtual 132, 3, 47, 1, 0, 4, 2134) := (pg_48 2).trans rfl
theorem f_48_5 : fe0 48 5 = some (.pop, 1, 0, 0, 0, 0, 0) := (pg_48 5).trans rfl
theorem f_48_6 : fe0 48 6 = some (.aload_n 0, 1, 0, 0, 0, 0, 0) := (pg_48 6).trans rfl
theorem f_48_7 : fe0 48 7 = some (.getfield 18, 3, 4, 2, 1, 0, 1137) := (pg_48 7).trans rfl
theorem f_48_10 : fe0 48 10 = some (.iload_n 2, 1, 0, 0, 0, 0, 0) := (pg_48 10).trans rfl
theorem f_48_11 : fe0 48 11 = some (.iaload, 1, 0, 0, 0, 0, 0) := (pg_48 11).trans rfl
theorem f_48_12 : fe0 48 12 = some (.ireturn, 1, 0, 0, 0, 0, 0) := (pg_48 12).trans rfl
theorem q_48_0 (d : Nat) (l0 : Nat) (l1 : Nat) (x2 : Int32) (μ : aMem) : Rn (d + 1) 48 (0, [.ref l0, .ref l1, .int x2], [], μ) = if (mS μ l0).1 = 4 ∧ l0 < 999999 then ((cI d 47 [.ref l0, .ref l1] μ).bind fun p1 => if (mS p1.2 l0).1 = 4 then ((rdI p1.2 (mR p1.2 l0 2) x2).bind fun v4 => some (some (.int v4), p1.2)) else none) else none :=
  (e_nx f_48_0 rfl).trans ((e_nx f_48_1 rfl).trans ((e_gI (L := [.ref l0, .ref l1, .int x2]) (st := [.ref l1, .ref l0]) (μ := μ) (L' := [.ref l0, .ref l1, .int x2]) (st' := []) f_48_2 rfl rfl).trans (g_congr (v_c2 rfl (Nat.le_of_ble_eq_true rfl)) (fun h2 => m_congr fun p1 => (e_nx f_48_5 rfl).trans ((e_nx f_48_6 rfl).trans ((e_gd f_48_7 rfl).trans (g_congr (Iff.rfl) (fun h3 => (e_nx f_48_10 rfl).trans ((e_ia (L := [.ref l0, .ref l1, .int x2]) (r := []) (μ := p1.2) f_48_11).trans (m_congr fun v4 => e_rt f_48_12 rfl))))))))))
theorem pg_49 (pc : Nat) : fe0 49 pc = lk prg_49 pc := rfl
theorem f_49_0 : fe0 49 0 = some (.aload_n 0, 1, 0, 0, 0, 0, 0) := (pg_49 0).trans rfl
theorem f_49_1 : fe0 49 1 = some (.aload_n 1, 1, 0, 0, 0, 0, 0) := (pg_49 1).trans rfl
theorem f_49_2 : fe0 49 2 = some (.invokevirtual 132, 3, 47, 1, 0, 4, 2134) := (pg_49 2).trans rfl
theorem f_49_5 : fe0 49 5 = some (.pop, 1, 0, 0, 0, 0, 0) := (pg_49 5).trans rfl
theorem f_49_6 : fe0 49 6 = some (.aload_n 0, 1, 0, 0, 0, 0, 0) := (pg_49 6).trans rfl
theorem f_49_7 : fe0 49 7 = some (.getfield 21, 3, 4, 3, 1, 0, 1138) := (pg_49 7).trans rfl
theorem f_49_10 : fe0 49 10 = some (.iload_n 2, 1, 0, 0, 0, 0, 0) := (pg_49 10).trans rfl
theorem f_49_11 : fe0 49 11 = some (.iaload, 1, 0, 0, 0, 0, 0) := (pg_49 11).trans rfl
theorem f_49_12 : fe0 49 12 = some (.ireturn, 1, 0, 0, 0, 0, 0) := (pg_49 12).trans rfl
theorem q_49_0 (d : Nat) (l0 : Nat) (l1 : Nat) (x2 : Int32) (μ : aMem) : Rn (d + 1) 49 (0, [.ref l0, .ref l1, .int x2], [], μ) = if (mS μ l0).1 = 4 ∧ l0 < 999999 then ((cI d 47 [.ref l0, .ref l1] μ).bind fun p1 => if (mS p1.2 l0).1 = 4 then ((rdI p1.2 (mR p1.2 l0 3) x2).bind fun v4 => some (some (.int v4), p1.2)) else none) else none :=
  (e_nx f_49_0 rfl).trans ((e_nx f_49_1 rfl).trans ((e_gI (L := [.ref l0, .ref l1, .int x2]) (st := [.ref l1, .ref l0]) (μ := μ) (L' := [.ref l0, .ref l1, .int x2]) (st' := []) f_49_2 rfl rfl).trans (g_congr (v_c2 rfl (Nat.le_of_ble_eq_true rfl)) (fun h2 => m_congr fun p1 => (e_nx f_49_5 rfl).trans ((e_nx f_49_6 rfl).trans ((e_gd f_49_7 rfl).trans (g_congr (Iff.rfl) (fun h3 => (e_nx f_49_10 rfl).trans ((e_ia (L := [.ref l0, .ref l1, .int x2]) (r := []) (μ := p1.2) f_49_11).trans (m_congr fun v4 => e_rt f_49_12 rfl))))))))))
theorem pg_50 (pc : Nat) : fe0 50 pc = lk prg_50 pc := rfl
theorem f_50_0 : fe0 50 0 = some (.aload_n 1, 1, 0, 0, 0, 0, 0) := (pg_50 0).trans rfl
theorem f_50_1 : fe0 50 1 = some (.getfield 115, 3, 2, 1, 0, 0, 1102) := (pg_50 1).trans rfl
theorem f_50_4 : fe0 50 4 = some (.iconst 1, 1, 0, 0, 0, 0, 0) := (pg_50 4).trans rfl
theorem f_50_5 : fe0 50 5 = some (.isub, 1, 0, 0, 0, 0, 0) := (pg_50 5).trans rfl
theorem f_50_6 : fe0 50 6 = some (.istore_n 2, 1, 0, 0, 0, 0, 0) := (pg_50 6).trans rfl
theorem f_50_7 : fe0 50 7 = some (.iload_n 2, 1, 0, 0, 0, 0, 0) := (pg_50 7).trans rfl
theorem f_50_8 : fe0 50 8 = some (.ifCond .lt 85, 3, 0, 0, 0, 0, 0) := (pg_50 8).trans rfl
theorem f_50_11 : fe0 50 11 = some (.aload_n 0, 1, 0, 0, 0, 0, 0) := (pg_50 11).trans rfl
theorem f_50_12 : fe0 50 12 = some (.getfield 24, 3, 4, 4, 1, 0, 1139) := (pg_50 12).trans rfl
theorem f_50_15 : fe0 50 15 = some (.iload_n 2, 1, 0, 0, 0, 0, 0) := (pg_50 15).trans rfl
theorem f_50_16 : fe0 50 16 = some (.iconst 0, 1, 0, 0, 0, 0, 0) := (pg_50 16).trans rfl
theorem f_50_17 : fe0 50 17 = some (.iastore, 1, 0, 0, 0, 0, 0) := (pg_50 17).trans rfl
theorem f_50_18 : fe0 50 18 = some (.iload_n 2, 1, 0, 0, 0, 0, 0) := (pg_50 18).trans rfl
theorem f_50_19 : fe0 50 19 = some (.iconst 1, 1, 0, 0, 0, 0, 0) := (pg_50 19).trans rfl
theorem f_50_20 : fe0 50 20 = some (.iadd, 1, 0, 0, 0, 0, 0) := (pg_50 20).trans rfl
theorem f_50_21 : fe0 50 21 = some (.istore_n 3, 1, 0, 0, 0, 0, 0) := (pg_50 21).trans rfl
theorem f_50_22 : fe0 50 22 = some (.iload_n 3, 1, 0, 0, 0, 0, 0) := (pg_50 22).trans rfl
theorem f_50_23 : fe0 50 23 = some (.aload_n 1, 1, 0, 0, 0, 0, 0) := (pg_50 23).trans rfl
theorem f_50_24 : fe0 50 24 = some (.getfield 115, 3, 2, 1, 0, 0, 1102) := (pg_50 24).trans rfl
theorem f_50_27 : fe0 50 27 = some (.if_icmp .ge 60, 3, 0, 0, 0, 0, 0) := (pg_50 27).trans rfl
theorem f_50_30 : fe0 50 30 = some (.aload_n 1, 1, 0, 0, 0, 0, 0) := (pg_50 30).trans rfl
theorem f_50_31 : fe0 50 31 = some (.getfield 108, 3, 2, 0, 1, 0, 1099) := (pg_50 31).trans rfl
theorem f_50_34 : fe0 50 34 = some (.iload_n 3, 1, 0, 0, 0, 0, 0) := (pg_50 34).trans rfl
theorem f_50_35 : fe0 50 35 = some (.aaload, 1, 0, 0, 0, 0, 0) := (pg_50 35).trans rfl
theorem f_50_36 : fe0 50 36 = some (.getfield 100, 3, 1, 4, 0, 0, 1083) := (pg_50 36).trans rfl
theorem f_50_39 : fe0 50 39 = some (.iload_n 2, 1, 0, 0, 0, 0, 0) := (pg_50 39).trans rfl
theorem f_50_40 : fe0 50 40 = some (.ishr, 1, 0, 0, 0, 0, 0) := (pg_50 40).trans rfl
theorem f_50_41 : fe0 50 41 = some (.iconst 1, 1, 0, 0, 0, 0, 0) := (pg_50 41).trans rfl
theorem f_50_42 : fe0 50 42 = some (.iand, 1, 0, 0, 0, 0, 0) := (pg_50 42).trans rfl
theorem f_50_43 : fe0 50 43 = some (.ifCond .eq 38, 3, 0, 0, 0, 0, 0) := (pg_50 43).trans rfl
theorem f_50_46 : fe0 50 46 = some (.aload_n 0, 1, 0, 0, 0, 0, 0) := (pg_50 46).trans rfl
theorem f_50_47 : fe0 50 47 = some (.getfield 24, 3, 4, 4, 1, 0, 1139) := (pg_50 47).trans rfl
theorem f_50_50 : fe0 50 50 = some (.iload_n 2, 1, 0, 0, 0, 0, 0) := (pg_50 50).trans rfl
theorem f_50_51 : fe0 50 51 = some (.aload_n 0, 1, 0, 0, 0, 0, 0) := (pg_50 51).trans rfl
theorem f_50_52 : fe0 50 52 = some (.getfield 24, 3, 4, 4, 1, 0, 1139) := (pg_50 52).trans rfl
theorem f_50_55 : fe0 50 55 = some (.iload_n 2, 1, 0, 0, 0, 0, 0) := (pg_50 55).trans rfl
theorem f_50_56 : fe0 50 56 = some (.iaload, 1, 0, 0, 0, 0, 0) := (pg_50 56).trans rfl
theorem f_50_57 : fe0 50 57 = some (.aload_n 0, 1, 0, 0, 0, 0, 0) := (pg_50 57).trans rfl
theorem f_50_58 : fe0 50 58 = some (.getfield 15, 3, 4, 1, 1, 0, 1136) := (pg_50 58).trans rfl
theorem f_50_61 : fe0 50 61 = some (.iload_n 3, 1, 0, 0, 0, 0, 0) := (pg_50 61).trans rfl
theorem f_50_62 : fe0 50 62 = some (.iaload, 1, 0, 0, 0, 0, 0) := (pg_50 62).trans rfl
theorem f_50_63 : fe0 50 63 = some (.aload_n 0, 1, 0, 0, 0, 0, 0) := (pg_50 63).trans rfl
theorem f_50_64 : fe0 50 64 = some (.getfield 9, 3, 4, 0, 1, 0, 1135) := (pg_50 64).trans rfl
theorem f_50_67 : fe0 50 67 = some (.iload_n 3, 1, 0, 0, 0, 0, 0) := (pg_50 67).trans rfl
theorem f_50_68 : fe0 50 68 = some (.iaload, 1, 0, 0, 0, 0, 0) := (pg_50 68).trans rfl
theorem f_50_69 : fe0 50 69 = some (.iadd, 1, 0, 0, 0, 0, 0) := (pg_50 69).trans rfl
theorem f_50_70 : fe0 50 70 = some (.aload_n 0, 1, 0, 0, 0, 0, 0) := (pg_50 70).trans rfl
theorem f_50_71 : fe0 50 71 = some (.getfield 24, 3, 4, 4, 1, 0, 1139) := (pg_50 71).trans rfl
theorem f_50_74 : fe0 50 74 = some (.iload_n 3, 1, 0, 0, 0, 0, 0) := (pg_50 74).trans rfl
theorem f_50_75 : fe0 50 75 = some (.iaload, 1, 0, 0, 0, 0, 0) := (pg_50 75).trans rfl
theorem f_50_76 : fe0 50 76 = some (.iadd, 1, 0, 0, 0, 0, 0) := (pg_50 76).trans rfl
theorem f_50_77 : fe0 50 77 = some (.invokestatic 112, 3, 0, 0, 7, 0, 2148) := (pg_50 77).trans rfl
theorem f_50_80 : fe0 50 80 = some (.iastore, 1, 0, 0, 0, 0, 0) := (pg_50 80).trans rfl
theorem f_50_81 : fe0 50 81 = some (.iinc 3 1, 3, 0, 0, 0, 0, 0) := (pg_50 81).trans rfl
theorem f_50_84 : fe0 50 84 = some (.goto (-62), 3, 0, 0, 0, 0, 0) := (pg_50 84).trans rfl
theorem f_50_87 : fe0 50 87 = some (.iinc 2 (-1), 3, 0, 0, 0, 0, 0) := (pg_50 87).trans rfl
theorem f_50_90 : fe0 50 90 = some (.goto (-83), 3, 0, 0, 0, 0, 0) := (pg_50 90).trans rfl
theorem f_50_93 : fe0 50 93 = some (.return_, 1, 0, 0, 0, 0, 0) := (pg_50 93).trans rfl
theorem q_50_0 (d : Nat) (l0 : Nat) (l1 : Nat) (μ : aMem) : Rn d 50 (0, [.ref l0, .ref l1, un, un], [], μ) = if (mS μ l1).1 = 2 then (Rn d 50 (7, [.ref l0, .ref l1, .int ((mF μ l1 1) - 1), un], [], μ)) else none :=
  (e_nx f_50_0 rfl).trans ((e_gd f_50_1 rfl).trans (g_congr (Iff.rfl) (fun h1 => (e_nx (q := (_, _, .int 1 :: _, _)) f_50_4 rfl).trans ((e_nx f_50_5 rfl).trans (e_nx (q := (_, [.ref l0, .ref l1, .int ((mF μ l1 1) - 1), un], _, _)) f_50_6 rfl)))))
theorem q_50_7 (d : Nat) (l0 : Nat) (l1 : Nat) (x2 : Int32) (w3 : Value) (μ : aMem) : Rn d 50 (7, [.ref l0, .ref l1, .int x2, w3], [], μ) = if x2 < 0 then (some (none, μ)) else (if (mS μ l0).1 = 4 then (if (mS μ (mR μ l0 4)).1 = 10 ∧ inb x2 (mS μ (mR μ l0 4)).2 then (Rn d 50 (22, [.ref l0, .ref l1, .int x2, .int (x2 + 1)], [], setF μ (mR μ l0 4) (ix x2) 0)) else none) else none) :=
  (e_nx f_50_7 rfl).trans ((e_lt f_50_8 rfl).trans (b_congr (fun h1 => e_rt f_50_93 rfl) (fun h1 => (e_nx f_50_11 rfl).trans ((e_gd f_50_12 rfl).trans (g_congr (Iff.rfl) (fun h2 => (e_nx f_50_15 rfl).trans ((e_nx (q := (_, _, .int 0 :: _, _)) f_50_16 rfl).trans ((e_gd f_50_17 rfl).trans (g_congr (Iff.rfl) (fun h3 => (e_nx f_50_18 rfl).trans ((e_nx (q := (_, _, .int 1 :: _, _)) f_50_19 rfl).trans ((e_nx f_50_20 rfl).trans (e_nx (q := (_, [.ref l0, .ref l1, .int x2, .int (x2 + 1)], _, _)) f_50_21 rfl)))))))))))))
theorem q_50_22 (d : Nat) (l0 : Nat) (l1 : Nat) (x2 : Int32) (x3 : Int32) (μ : aMem) : Rn d 50 (22, [.ref l0, .ref l1, .int x2, .int x3], [], μ) = if (mS μ l1).1 = 2 then (if (mF μ l1 1) ≤ x3 then (Rn d 50 (7, [.ref l0, .ref l1, .int (x2 + (-1)), .int x3], [], μ)) else (if 12 ≤ (mS μ (mR μ l1 0)).1 ∧ (mS μ (mR μ l1 0)).1 < 16 ∧ inb x3 (mS μ (mR μ l1 0)).2 then (if (mS μ (mR μ (mR μ l1 0) (ix x3))).1 = 1 then (if (((mF μ (mR μ (mR μ l1 0) (ix x3)) 4) >>> (x2 &&& 31)) &&& 1) = 0 then (Rn d 50 (22, [.ref l0, .ref l1, .int x2, .int (x3 + 1)], [], μ)) else (if (mS μ l0).1 = 4 then ((rdI μ (mR μ l0 4) x2).bind fun v7 => (rdI μ (mR μ l0 1) x3).bind fun v8 => (rdI μ (mR μ l0 0) x3).bind fun v9 => (rdI μ (mR μ l0 4) x3).bind fun v10 => if (mS μ (mR μ l0 4)).1 = 10 ∧ inb x2 (mS μ (mR μ l0 4)).2 then (Rn d 50 (22, [.ref l0, .ref l1, .int x2, .int (x3 + 1)], [], setF μ (mR μ l0 4) (ix x2) (if v7 < ((v8 + v9) + v10) then ((v8 + v9) + v10) else v7))) else none) else none)) else none) else none)) else none :=
  (e_nx f_50_22 rfl).trans ((e_nx f_50_23 rfl).trans ((e_gd f_50_24 rfl).trans (g_congr (Iff.rfl) (fun h1 => (e_ge f_50_27 rfl).trans (b_congr (fun h2 => (e_nx (q := (_, [.ref l0, .ref l1, .int (x2 + (-1)), .int x3], _, _)) f_50_87 rfl).trans (e_nx f_50_90 rfl)) (fun h2 => (e_nx f_50_30 rfl).trans ((e_gk f_50_31 (h1) rfl).trans ((e_nx f_50_34 rfl).trans ((e_gd f_50_35 rfl).trans (g_congr (Iff.rfl) (fun h3 => (e_gd f_50_36 rfl).trans (g_congr (Iff.rfl) (fun h4 => (e_nx f_50_39 rfl).trans ((e_nx f_50_40 rfl).trans ((e_nx (q := (_, _, .int 1 :: _, _)) f_50_41 rfl).trans ((e_nx f_50_42 rfl).trans ((e_eq f_50_43 rfl).trans (b_congr (fun h5 => (e_nx (q := (_, [.ref l0, .ref l1, .int x2, .int (x3 + 1)], _, _)) f_50_81 rfl).trans (e_nx f_50_84 rfl)) (fun h5 => (e_nx f_50_46 rfl).trans ((e_gd f_50_47 rfl).trans (g_congr (Iff.rfl) (fun h6 => (e_nx f_50_50 rfl).trans ((e_nx f_50_51 rfl).trans ((e_gk f_50_52 (h6) rfl).trans ((e_nx f_50_55 rfl).trans ((e_ia (L := [.ref l0, .ref l1, .int x2, .int x3]) (r := [.int x2, .ref (mR μ l0 4)]) (μ := μ) f_50_56).trans (m_congr fun v7 => (e_nx f_50_57 rfl).trans ((e_gk f_50_58 (h6) rfl).trans ((e_nx f_50_61 rfl).trans ((e_ia (L := [.ref l0, .ref l1, .int x2, .int x3]) (r := [.int v7, .int x2, .ref (mR μ l0 4)]) (μ := μ) f_50_62).trans (m_congr fun v8 => (e_nx f_50_63 rfl).trans ((e_gk f_50_64 (h6) rfl).trans ((e_nx f_50_67 rfl).trans ((e_ia (L := [.ref l0, .ref l1, .int x2, .int x3]) (r := [.int v8, .int v7, .int x2, .ref (mR μ l0 4)]) (μ := μ) f_50_68).trans (m_congr fun v9 => (e_nx f_50_69 rfl).trans ((e_nx f_50_70 rfl).trans ((e_gk f_50_71 (h6) rfl).trans ((e_nx f_50_74 rfl).trans ((e_ia (L := [.ref l0, .ref l1, .int x2, .int x3]) (r := [.int (v8 + v9), .int v7, .int x2, .ref (mR μ l0 4)]) (μ := μ) f_50_75).trans (m_congr fun v10 => (e_nx f_50_76 rfl).trans ((e_nx f_50_77 rfl).trans ((e_gd f_50_80 rfl).trans (g_congr (Iff.rfl) (fun h11 => (e_nx (q := (_, [.ref l0, .ref l1, .int x2, .int (x3 + 1)], _, _)) f_50_81 rfl).trans (e_nx f_50_84 rfl)))))))))))))))))))))))))))))))))))))))))))))
theorem pg_51 (pc : Nat) : fe0 51 pc = lk prg_51 pc := rfl
theorem f_51_0 : fe0 51 0 = some (.aload_n 0, 1, 0, 0, 0, 0, 0) := (pg_51 0).trans rfl
theorem f_51_1 : fe0 51 1 = some (.aload_n 1, 1, 0, 0, 0, 0, 0) := (pg_51 1).trans rfl
theorem f_51_2 : fe0 51 2 = some (.invokevirtual 132, 3, 47, 1, 0, 4, 2134) := (pg_51 2).trans rfl
theorem f_51_5 : fe0 51 5 = some (.istore_n 3, 1, 0, 0, 0, 0, 0) := (pg_51 5).trans rfl
theorem f_51_6 : fe0 51 6 = some (.aload_n 0, 1, 0, 0, 0, 0, 0) := (pg_51 6).trans rfl
theorem f_51_7 : fe0 51 7 = some (.aload_n 1, 1, 0, 0, 0, 0, 0) := (pg_51 7).trans rfl
theorem f_51_8 : fe0 51 8 = some (.invokevirtual 135, 3, 50, 1, 0, 4, 2159) := (pg_51 8).trans rfl
theorem f_51_11 : fe0 51 11 = some (.iload_n 3, 1, 0, 0, 0, 0, 0) := (pg_51 11).trans rfl
theorem f_51_12 : fe0 51 12 = some (.aload_n 0, 1, 0, 0, 0, 0, 0) := (pg_51 12).trans rfl
theorem f_51_13 : fe0 51 13 = some (.getfield 21, 3, 4, 3, 1, 0, 1138) := (pg_51 13).trans rfl
theorem f_51_16 : fe0 51 16 = some (.iload_n 2, 1, 0, 0, 0, 0, 0) := (pg_51 16).trans rfl
theorem f_51_17 : fe0 51 17 = some (.iaload, 1, 0, 0, 0, 0, 0) := (pg_51 17).trans rfl
theorem f_51_18 : fe0 51 18 = some (.isub, 1, 0, 0, 0, 0, 0) := (pg_51 18).trans rfl
theorem f_51_19 : fe0 51 19 = some (.aload_n 0, 1, 0, 0, 0, 0, 0) := (pg_51 19).trans rfl
theorem f_51_20 : fe0 51 20 = some (.getfield 24, 3, 4, 4, 1, 0, 1139) := (pg_51 20).trans rfl
theorem f_51_23 : fe0 51 23 = some (.iload_n 2, 1, 0, 0, 0, 0, 0) := (pg_51 23).trans rfl
theorem f_51_24 : fe0 51 24 = some (.iaload, 1, 0, 0, 0, 0, 0) := (pg_51 24).trans rfl
theorem f_51_25 : fe0 51 25 = some (.isub, 1, 0, 0, 0, 0, 0) := (pg_51 25).trans rfl
theorem f_51_26 : fe0 51 26 = some (.ireturn, 1, 0, 0, 0, 0, 0) := (pg_51 26).trans rfl
theorem q_51_0 (d : Nat) (l0 : Nat) (l1 : Nat) (x2 : Int32) (μ : aMem) : Rn (d + 1) 51 (0, [.ref l0, .ref l1, .int x2, un], [], μ) = if (mS μ l0).1 = 4 ∧ l0 < 999999 then ((cI d 47 [.ref l0, .ref l1] μ).bind fun p1 => if (mS p1.2 l0).1 = 4 ∧ l0 < 999999 then ((cV d 50 [.ref l0, .ref l1] p1.2).bind fun p3 => if (mS p3 l0).1 = 4 then ((rdI p3 (mR p3 l0 3) x2).bind fun v6 => (rdI p3 (mR p3 l0 4) x2).bind fun v7 => some (some (.int ((p1.1 - v6) - v7)), p3)) else none) else none) else none :=
  (e_nx f_51_0 rfl).trans ((e_nx f_51_1 rfl).trans ((e_gI (L := [.ref l0, .ref l1, .int x2, un]) (st := [.ref l1, .ref l0]) (μ := μ) (L' := [.ref l0, .ref l1, .int x2, un]) (st' := []) f_51_2 rfl rfl).trans (g_congr (v_c2 rfl (Nat.le_of_ble_eq_true rfl)) (fun h2 => m_congr fun p1 => (e_nx (q := (_, [.ref l0, .ref l1, .int x2, .int p1.1], _, _)) f_51_5 rfl).trans ((e_nx f_51_6 rfl).trans ((e_nx f_51_7 rfl).trans ((e_gV (L := [.ref l0, .ref l1, .int x2, .int p1.1]) (st := [.ref l1, .ref l0]) (μ := p1.2) (L' := [.ref l0, .ref l1, .int x2, .int p1.1]) (st' := []) f_51_8 rfl rfl).trans (g_congr (v_c2 rfl (Nat.le_of_ble_eq_true rfl)) (fun h4 => m_congr fun p3 => (e_nx f_51_11 rfl).trans ((e_nx f_51_12 rfl).trans ((e_gd f_51_13 rfl).trans (g_congr (Iff.rfl) (fun h5 => (e_nx f_51_16 rfl).trans ((e_ia (L := [.ref l0, .ref l1, .int x2, .int p1.1]) (r := [.int p1.1]) (μ := p3) f_51_17).trans (m_congr fun v6 => (e_nx f_51_18 rfl).trans ((e_nx f_51_19 rfl).trans ((e_gk f_51_20 (h5) rfl).trans ((e_nx f_51_23 rfl).trans ((e_ia (L := [.ref l0, .ref l1, .int x2, .int p1.1]) (r := [.int (p1.1 - v6)]) (μ := p3) f_51_24).trans (m_congr fun v7 => (e_nx f_51_25 rfl).trans (e_rt f_51_26 rfl)))))))))))))))))))))
theorem pg_52 (pc : Nat) : fe0 52 pc = lk prg_52 pc := rfl
theorem f_52_0 : fe0 52 0 = some (.aload_n 0, 1, 0, 0, 0, 0, 0) := (pg_52 0).trans rfl
theorem f_52_1 : fe0 52 1 = some (.aload_n 1, 1, 0, 0, 0, 0, 0) := (pg_52 1).trans rfl
theorem f_52_2 : fe0 52 2 = some (.invokevirtual 132, 3, 47, 1, 0, 4, 2134) := (pg_52 2).trans rfl
theorem f_52_5 : fe0 52 5 = some (.istore_n 2, 1, 0, 0, 0, 0, 0) := (pg_52 5).trans rfl
theorem f_52_6 : fe0 52 6 = some (.aload_n 0, 1, 0, 0, 0, 0, 0) := (pg_52 6).trans rfl
theorem f_52_7 : fe0 52 7 = some (.aload_n 1, 1, 0, 0, 0, 0, 0) := (pg_52 7).trans rfl
theorem f_52_8 : fe0 52 8 = some (.invokevirtual 135, 3, 50, 1, 0, 4, 2159) := (pg_52 8).trans rfl
theorem f_52_11 : fe0 52 11 = some (.iconst 0, 1, 0, 0, 0, 0, 0) := (pg_52 11).trans rfl
theorem f_52_12 : fe0 52 12 = some (.istore_n 3, 1, 0, 0, 0, 0, 0) := (pg_52 12).trans rfl
theorem f_52_13 : fe0 52 13 = some (.iconst 0, 1, 0, 0, 0, 0, 0) := (pg_52 13).trans rfl
theorem f_52_14 : fe0 52 14 = some (.istore 4, 2, 0, 0, 0, 0, 0) := (pg_52 14).trans rfl
theorem f_52_16 : fe0 52 16 = some (.iload 4, 2, 0, 0, 0, 0, 0) := (pg_52 16).trans rfl
theorem f_52_18 : fe0 52 18 = some (.aload_n 1, 1, 0, 0, 0, 0, 0) := (pg_52 18).trans rfl
theorem f_52_19 : fe0 52 19 = some (.getfield 115, 3, 2, 1, 0, 0, 1102) := (pg_52 19).trans rfl
theorem f_52_22 : fe0 52 22 = some (.if_icmp .ge 35, 3, 0, 0, 0, 0, 0) := (pg_52 22).trans rfl
theorem f_52_25 : fe0 52 25 = some (.aload_n 0, 1, 0, 0, 0, 0, 0) := (pg_52 25).trans rfl
theorem f_52_26 : fe0 52 26 = some (.getfield 21, 3, 4, 3, 1, 0, 1138) := (pg_52 26).trans rfl
theorem f_52_29 : fe0 52 29 = some (.iload 4, 2, 0, 0, 0, 0, 0) := (pg_52 29).trans rfl
theorem f_52_31 : fe0 52 31 = some (.iaload, 1, 0, 0, 0, 0, 0) := (pg_52 31).trans rfl
theorem f_52_32 : fe0 52 32 = some (.aload_n 0, 1, 0, 0, 0, 0, 0) := (pg_52 32).trans rfl
theorem f_52_33 : fe0 52 33 = some (.getfield 24, 3, 4, 4, 1, 0, 1139) := (pg_52 33).trans rfl
theorem f_52_36 : fe0 52 36 = some (.iload 4, 2, 0, 0, 0, 0, 0) := (pg_52 36).trans rfl
theorem f_52_38 : fe0 52 38 = some (.iaload, 1, 0, 0, 0, 0, 0) := (pg_52 38).trans rfl
theorem f_52_39 : fe0 52 39 = some (.iadd, 1, 0, 0, 0, 0, 0) := (pg_52 39).trans rfl
theorem f_52_40 : fe0 52 40 = some (.iload_n 2, 1, 0, 0, 0, 0, 0) := (pg_52 40).trans rfl
theorem f_52_41 : fe0 52 41 = some (.if_icmp .ne 10, 3, 0, 0, 0, 0, 0) := (pg_52 41).trans rfl
theorem f_52_44 : fe0 52 44 = some (.iload_n 3, 1, 0, 0, 0, 0, 0) := (pg_52 44).trans rfl
theorem f_52_45 : fe0 52 45 = some (.iconst 1, 1, 0, 0, 0, 0, 0) := (pg_52 45).trans rfl
theorem f_52_46 : fe0 52 46 = some (.iload 4, 2, 0, 0, 0, 0, 0) := (pg_52 46).trans rfl
theorem f_52_48 : fe0 52 48 = some (.ishl, 1, 0, 0, 0, 0, 0) := (pg_52 48).trans rfl
theorem f_52_49 : fe0 52 49 = some (.ior, 1, 0, 0, 0, 0, 0) := (pg_52 49).trans rfl
theorem f_52_50 : fe0 52 50 = some (.istore_n 3, 1, 0, 0, 0, 0, 0) := (pg_52 50).trans rfl
theorem f_52_51 : fe0 52 51 = some (.iinc 4 1, 3, 0, 0, 0, 0, 0) := (pg_52 51).trans rfl
theorem f_52_54 : fe0 52 54 = some (.goto (-38), 3, 0, 0, 0, 0, 0) := (pg_52 54).trans rfl
theorem f_52_57 : fe0 52 57 = some (.iload_n 3, 1, 0, 0, 0, 0, 0) := (pg_52 57).trans rfl
theorem f_52_58 : fe0 52 58 = some (.ireturn, 1, 0, 0, 0, 0, 0) := (pg_52 58).trans rfl
theorem q_52_0 (d : Nat) (l0 : Nat) (l1 : Nat) (μ : aMem) : Rn (d + 1) 52 (0, [.ref l0, .ref l1, un, un, un], [], μ) = if (mS μ l0).1 = 4 ∧ l0 < 999999 then ((cI d 47 [.ref l0, .ref l1] μ).bind fun p1 => if (mS p1.2 l0).1 = 4 ∧ l0 < 999999 then ((cV d 50 [.ref l0, .ref l1] p1.2).bind fun p3 => Rn (d + 1) 52 (16, [.ref l0, .ref l1, .int p1.1, .int 0, .int 0], [], p3)) else none) else none :=
  (e_nx f_52_0 rfl).trans ((e_nx f_52_1 rfl).trans ((e_gI (L := [.ref l0, .ref l1, un, un, un]) (st := [.ref l1, .ref l0]) (μ := μ) (L' := [.ref l0, .ref l1, un, un, un]) (st' := []) f_52_2 rfl rfl).trans (g_congr (v_c2 rfl (Nat.le_of_ble_eq_true rfl)) (fun h2 => m_congr fun p1 => (e_nx (q := (_, [.ref l0, .ref l1, .int p1.1, un, un], _, _)) f_52_5 rfl).trans ((e_nx f_52_6 rfl).trans ((e_nx f_52_7 rfl).trans ((e_gV (L := [.ref l0, .ref l1, .int p1.1, un, un]) (st := [.ref l1, .ref l0]) (μ := p1.2) (L' := [.ref l0, .ref l1, .int p1.1, un, un]) (st' := []) f_52_8 rfl rfl).trans (g_congr (v_c2 rfl (Nat.le_of_ble_eq_true rfl)) (fun h4 => m_congr fun p3 => (e_nx (q := (_, _, .int 0 :: _, _)) f_52_11 rfl).trans ((e_nx (q := (_, [.ref l0, .ref l1, .int p1.1, .int 0, un], _, _)) f_52_12 rfl).trans ((e_nx (q := (_, _, .int 0 :: _, _)) f_52_13 rfl).trans (e_nx (q := (_, [.ref l0, .ref l1, .int p1.1, .int 0, .int 0], _, _)) f_52_14 rfl))))))))))))
theorem q_52_16 (d : Nat) (l0 : Nat) (l1 : Nat) (x2 : Int32) (x3 : Int32) (x4 : Int32) (μ : aMem) : Rn (d + 1) 52 (16, [.ref l0, .ref l1, .int x2, .int x3, .int x4], [], μ) = if (mS μ l1).1 = 2 then (if (mF μ l1 1) ≤ x4 then (some (some (.int x3), μ)) else (if (mS μ l0).1 = 4 then ((rdI μ (mR μ l0 3) x4).bind fun v4 => (rdI μ (mR μ l0 4) x4).bind fun v5 => if (v4 + v5) = x2 then (Rn (d + 1) 52 (16, [.ref l0, .ref l1, .int x2, .int (x3 ||| (1 <<< (x4 &&& 31))), .int (x4 + 1)], [], μ)) else (Rn (d + 1) 52 (16, [.ref l0, .ref l1, .int x2, .int x3, .int (x4 + 1)], [], μ))) else none)) else none :=
  (e_nx f_52_16 rfl).trans ((e_nx f_52_18 rfl).trans ((e_gd f_52_19 rfl).trans (g_congr (Iff.rfl) (fun h1 => (e_ge f_52_22 rfl).trans (b_congr (fun h2 => (e_nx f_52_57 rfl).trans (e_rt f_52_58 rfl)) (fun h2 => (e_nx f_52_25 rfl).trans ((e_gd f_52_26 rfl).trans (g_congr (Iff.rfl) (fun h3 => (e_nx f_52_29 rfl).trans ((e_ia (L := [.ref l0, .ref l1, .int x2, .int x3, .int x4]) (r := []) (μ := μ) f_52_31).trans (m_congr fun v4 => (e_nx f_52_32 rfl).trans ((e_gk f_52_33 (h3) rfl).trans ((e_nx f_52_36 rfl).trans ((e_ia (L := [.ref l0, .ref l1, .int x2, .int x3, .int x4]) (r := [.int v4]) (μ := μ) f_52_38).trans (m_congr fun v5 => (e_nx f_52_39 rfl).trans ((e_nx f_52_40 rfl).trans ((e_ne f_52_41 rfl).trans (b_congr (fun h6 => (e_nx f_52_44 rfl).trans ((e_nx (q := (_, _, .int 1 :: _, _)) f_52_45 rfl).trans ((e_nx f_52_46 rfl).trans ((e_nx f_52_48 rfl).trans ((e_nx f_52_49 rfl).trans ((e_nx (q := (_, [.ref l0, .ref l1, .int x2, .int (x3 ||| (1 <<< (x4 &&& 31))), .int x4], _, _)) f_52_50 rfl).trans ((e_nx (q := (_, [.ref l0, .ref l1, .int x2, .int (x3 ||| (1 <<< (x4 &&& 31))), .int (x4 + 1)], _, _)) f_52_51 rfl).trans (e_nx f_52_54 rfl)))))))) (fun h6 => (e_nx (q := (_, [.ref l0, .ref l1, .int x2, .int x3, .int (x4 + 1)], _, _)) f_52_51 rfl).trans (e_nx f_52_54 rfl))))))))))))))))))))
theorem pg_53 (pc : Nat) : fe0 53 pc = lk prg_53 pc := rfl
theorem f_53_0 : fe0 53 0 = some (.iconst 0, 1, 0, 0, 0, 0, 0) := (pg_53 0).trans rfl
theorem f_53_1 : fe0 53 1 = some (.istore_n 2, 1, 0, 0, 0, 0, 0) := (pg_53 1).trans rfl
theorem f_53_2 : fe0 53 2 = some (.iconst 0, 1, 0, 0, 0, 0, 0) := (pg_53 2).trans rfl
theorem f_53_3 : fe0 53 3 = some (.istore_n 3, 1, 0, 0, 0, 0, 0) := (pg_53 3).trans rfl
theorem f_53_4 : fe0 53 4 = some (.iload_n 3, 1, 0, 0, 0, 0, 0) := (pg_53 4).trans rfl
theorem f_53_5 : fe0 53 5 = some (.aload_n 1, 1, 0, 0, 0, 0, 0) := (pg_53 5).trans rfl
theorem f_53_6 : fe0 53 6 = some (.getfield 115, 3, 2, 1, 0, 0, 1102) := (pg_53 6).trans rfl
theorem f_53_9 : fe0 53 9 = some (.if_icmp .ge 23, 3, 0, 0, 0, 0, 0) := (pg_53 9).trans rfl
theorem f_53_12 : fe0 53 12 = some (.iload_n 2, 1, 0, 0, 0, 0, 0) := (pg_53 12).trans rfl
theorem f_53_13 : fe0 53 13 = some (.aload_n 0, 1, 0, 0, 0, 0, 0) := (pg_53 13).trans rfl
theorem f_53_14 : fe0 53 14 = some (.aload_n 1, 1, 0, 0, 0, 0, 0) := (pg_53 14).trans rfl
theorem f_53_15 : fe0 53 15 = some (.aload_n 1, 1, 0, 0, 0, 0, 0) := (pg_53 15).trans rfl
theorem f_53_16 : fe0 53 16 = some (.getfield 108, 3, 2, 0, 1, 0, 1099) := (pg_53 16).trans rfl
theorem f_53_19 : fe0 53 19 = some (.iload_n 3, 1, 0, 0, 0, 0, 0) := (pg_53 19).trans rfl
theorem f_53_20 : fe0 53 20 = some (.aaload, 1, 0, 0, 0, 0, 0) := (pg_53 20).trans rfl
theorem f_53_21 : fe0 53 21 = some (.invokevirtual 122, 3, 42, 2, 0, 4, 2138) := (pg_53 21).trans rfl
theorem f_53_24 : fe0 53 24 = some (.iadd, 1, 0, 0, 0, 0, 0) := (pg_53 24).trans rfl
theorem f_53_25 : fe0 53 25 = some (.istore_n 2, 1, 0, 0, 0, 0, 0) := (pg_53 25).trans rfl
theorem f_53_26 : fe0 53 26 = some (.iinc 3 1, 3, 0, 0, 0, 0, 0) := (pg_53 26).trans rfl
theorem f_53_29 : fe0 53 29 = some (.goto (-25), 3, 0, 0, 0, 0, 0) := (pg_53 29).trans rfl
theorem f_53_32 : fe0 53 32 = some (.iload_n 2, 1, 0, 0, 0, 0, 0) := (pg_53 32).trans rfl
theorem f_53_33 : fe0 53 33 = some (.ireturn, 1, 0, 0, 0, 0, 0) := (pg_53 33).trans rfl
theorem q_53_0 (d : Nat) (l0 : Nat) (l1 : Nat) (μ : aMem) : Rn (d + 1) 53 (0, [.ref l0, .ref l1, un, un], [], μ) = Rn (d + 1) 53 (4, [.ref l0, .ref l1, .int 0, .int 0], [], μ) :=
  (e_nx (q := (_, _, .int 0 :: _, _)) f_53_0 rfl).trans ((e_nx (q := (_, [.ref l0, .ref l1, .int 0, un], _, _)) f_53_1 rfl).trans ((e_nx (q := (_, _, .int 0 :: _, _)) f_53_2 rfl).trans (e_nx (q := (_, [.ref l0, .ref l1, .int 0, .int 0], _, _)) f_53_3 rfl)))
theorem q_53_4 (d : Nat) (l0 : Nat) (l1 : Nat) (x2 : Int32) (x3 : Int32) (μ : aMem) : Rn (d + 1) 53 (4, [.ref l0, .ref l1, .int x2, .int x3], [], μ) = if (mS μ l1).1 = 2 then (if (mF μ l1 1) ≤ x3 then (some (some (.int x2), μ)) else (if 12 ≤ (mS μ (mR μ l1 0)).1 ∧ (mS μ (mR μ l1 0)).1 < 16 ∧ inb x3 (mS μ (mR μ l1 0)).2 then (if (mS μ l0).1 = 4 ∧ l0 < 999999 then ((cI d 42 [.ref l0, .ref l1, .ref (mR μ (mR μ l1 0) (ix x3))] μ).bind fun p4 => Rn (d + 1) 53 (4, [.ref l0, .ref l1, .int (x2 + p4.1), .int (x3 + 1)], [], p4.2)) else none) else none)) else none :=
  (e_nx f_53_4 rfl).trans ((e_nx f_53_5 rfl).trans ((e_gd f_53_6 rfl).trans (g_congr (Iff.rfl) (fun h1 => (e_ge f_53_9 rfl).trans (b_congr (fun h2 => (e_nx f_53_32 rfl).trans (e_rt f_53_33 rfl)) (fun h2 => (e_nx f_53_12 rfl).trans ((e_nx f_53_13 rfl).trans ((e_nx f_53_14 rfl).trans ((e_nx f_53_15 rfl).trans ((e_gk f_53_16 (h1) rfl).trans ((e_nx f_53_19 rfl).trans ((e_gd f_53_20 rfl).trans (g_congr (Iff.rfl) (fun h3 => (e_gI (L := [.ref l0, .ref l1, .int x2, .int x3]) (st := [.ref (mR μ (mR μ l1 0) (ix x3)), .ref l1, .ref l0, .int x2]) (μ := μ) (L' := [.ref l0, .ref l1, .int x2, .int x3]) (st' := [.int x2]) f_53_21 rfl rfl).trans (g_congr (v_c2 rfl (Nat.le_of_ble_eq_true rfl)) (fun h5 => m_congr fun p4 => (e_nx f_53_24 rfl).trans ((e_nx (q := (_, [.ref l0, .ref l1, .int (x2 + p4.1), .int x3], _, _)) f_53_25 rfl).trans ((e_nx (q := (_, [.ref l0, .ref l1, .int (x2 + p4.1), .int (x3 + 1)], _, _)) f_53_26 rfl).trans (e_nx f_53_29 rfl)))))))))))))))))))
theorem pg_54 (pc : Nat) : fe0 54 pc = lk prg_54 pc := rfl
theorem f_54_0 : fe0 54 0 = some (.aload_n 0, 1, 0, 0, 0, 0, 0) := (pg_54 0).trans rfl
theorem f_54_1 : fe0 54 1 = some (.aload_n 1, 1, 0, 0, 0, 0, 0) := (pg_54 1).trans rfl
theorem f_54_2 : fe0 54 2 = some (.invokevirtual 132, 3, 47, 1, 0, 4, 2134) := (pg_54 2).trans rfl
theorem f_54_5 : fe0 54 5 = some (.istore_n 3, 1, 0, 0, 0, 0, 0) := (pg_54 5).trans rfl
theorem f_54_6 : fe0 54 6 = some (.aload_n 1, 1, 0, 0, 0, 0, 0) := (pg_54 6).trans rfl
theorem f_54_7 : fe0 54 7 = some (.iconst 2, 1, 0, 0, 0, 0, 0) := (pg_54 7).trans rfl
theorem f_54_8 : fe0 54 8 = some (.invokevirtual 46, 3, 16, 1, 0, 2, 2085) := (pg_54 8).trans rfl
theorem f_54_11 : fe0 54 11 = some (.astore 4, 2, 0, 0, 0, 0, 0) := (pg_54 11).trans rfl
theorem f_54_13 : fe0 54 13 = some (.aload 4, 2, 0, 0, 0, 0, 0) := (pg_54 13).trans rfl
theorem f_54_15 : fe0 54 15 = some (.ifnonnull 13, 3, 0, 0, 0, 0, 0) := (pg_54 15).trans rfl
theorem f_54_18 : fe0 54 18 = some (.iconst 0, 1, 0, 0, 0, 0, 0) := (pg_54 18).trans rfl
theorem f_54_19 : fe0 54 19 = some (.iload_n 3, 1, 0, 0, 0, 0, 0) := (pg_54 19).trans rfl
theorem f_54_20 : fe0 54 20 = some (.iload_n 2, 1, 0, 0, 0, 0, 0) := (pg_54 20).trans rfl
theorem f_54_21 : fe0 54 21 = some (.isub, 1, 0, 0, 0, 0, 0) := (pg_54 21).trans rfl
theorem f_54_22 : fe0 54 22 = some (.invokestatic 112, 3, 0, 0, 7, 0, 2148) := (pg_54 22).trans rfl
theorem f_54_25 : fe0 54 25 = some (.goto 12, 3, 0, 0, 0, 0, 0) := (pg_54 25).trans rfl
theorem f_54_28 : fe0 54 28 = some (.aload_n 0, 1, 0, 0, 0, 0, 0) := (pg_54 28).trans rfl
theorem f_54_29 : fe0 54 29 = some (.aload 4, 2, 0, 0, 0, 0, 0) := (pg_54 29).trans rfl
theorem f_54_31 : fe0 54 31 = some (.iload_n 3, 1, 0, 0, 0, 0, 0) := (pg_54 31).trans rfl
theorem f_54_32 : fe0 54 32 = some (.iload_n 2, 1, 0, 0, 0, 0, 0) := (pg_54 32).trans rfl
theorem f_54_33 : fe0 54 33 = some (.iconst 0, 1, 0, 0, 0, 0, 0) := (pg_54 33).trans rfl
theorem f_54_34 : fe0 54 34 = some (.invokevirtual 71, 3, 39, 4, 0, 4, 2100) := (pg_54 34).trans rfl
theorem f_54_37 : fe0 54 37 = some (.ireturn, 1, 0, 0, 0, 0, 0) := (pg_54 37).trans rfl
theorem q_54_0 (d : Nat) (l0 : Nat) (l1 : Nat) (x2 : Int32) (μ : aMem) : Rn (d + 1) 54 (0, [.ref l0, .ref l1, .int x2, un, un], [], μ) = if (mS μ l0).1 = 4 ∧ l0 < 999999 then ((cI d 47 [.ref l0, .ref l1] μ).bind fun p1 => if (mS p1.2 l1).1 = 2 ∧ l1 < 999999 then ((cR d 16 [.ref l1, .int 2] p1.2).bind fun p3 => if p3.1 ≤ 999999 then (if p3.1 = 999999 then (some (some (.int (if 0 < (p1.1 - x2) then (p1.1 - x2) else 0)), p3.2)) else (if (mS p3.2 l0).1 = 4 ∧ l0 < 999999 then ((cI d 39 [.ref l0, .ref p3.1, .int p1.1, .int x2, .int 0] p3.2).bind fun p7 => some (some (.int p7.1), p7.2)) else none)) else none) else none) else none :=
  (e_nx f_54_0 rfl).trans ((e_nx f_54_1 rfl).trans ((e_gI (L := [.ref l0, .ref l1, .int x2, un, un]) (st := [.ref l1, .ref l0]) (μ := μ) (L' := [.ref l0, .ref l1, .int x2, un, un]) (st' := []) f_54_2 rfl rfl).trans (g_congr (v_c2 rfl (Nat.le_of_ble_eq_true rfl)) (fun h2 => m_congr fun p1 => (e_nx (q := (_, [.ref l0, .ref l1, .int x2, .int p1.1, un], _, _)) f_54_5 rfl).trans ((e_nx f_54_6 rfl).trans ((e_nx (q := (_, _, .int 2 :: _, _)) f_54_7 rfl).trans ((e_gR (L := [.ref l0, .ref l1, .int x2, .int p1.1, un]) (st := [.int 2, .ref l1]) (μ := p1.2) (L' := [.ref l0, .ref l1, .int x2, .int p1.1, un]) (st' := []) f_54_8 rfl rfl).trans (g_congr (v_c2 rfl (Nat.le_of_ble_eq_true rfl)) (fun h4 => m_congr fun p3 => (e_nx (q := (_, [.ref l0, .ref l1, .int x2, .int p1.1, .ref p3.1], _, _)) f_54_11 rfl).trans ((e_nx f_54_13 rfl).trans ((e_gb f_54_15 rfl).trans (g_congr Iff.rfl (fun h6 => b_congr (fun h5 => (e_nx (q := (_, _, .int 0 :: _, _)) f_54_18 rfl).trans ((e_nx f_54_19 rfl).trans ((e_nx f_54_20 rfl).trans ((e_nx f_54_21 rfl).trans ((e_nx f_54_22 rfl).trans ((e_nx f_54_25 rfl).trans (e_rt f_54_37 rfl))))))) (fun h5 => (e_nx f_54_28 rfl).trans ((e_nx f_54_29 rfl).trans ((e_nx f_54_31 rfl).trans ((e_nx f_54_32 rfl).trans ((e_nx (q := (_, _, .int 0 :: _, _)) f_54_33 rfl).trans ((e_gI (L := [.ref l0, .ref l1, .int x2, .int p1.1, .ref p3.1]) (st := [.int 0, .int x2, .int p1.1, .ref p3.1, .ref l0]) (μ := p3.2) (L' := [.ref l0, .ref l1, .int x2, .int p1.1, .ref p3.1]) (st' := []) f_54_34 rfl rfl).trans (g_congr (v_c2 rfl (Nat.le_of_ble_eq_true rfl)) (fun h8 => m_congr fun p7 => e_rt f_54_37 rfl)))))))))))))))))))))
theorem pg_55 (pc : Nat) : fe0 55 pc = lk prg_55 pc := rfl
theorem f_55_0 : fe0 55 0 = some (.iconst 0, 1, 0, 0, 0, 0, 0) := (pg_55 0).trans rfl
theorem f_55_1 : fe0 55 1 = some (.istore 5, 2, 0, 0, 0, 0, 0) := (pg_55 1).trans rfl
theorem f_55_3 : fe0 55 3 = some (.iload 5, 2, 0, 0, 0, 0, 0) := (pg_55 3).trans rfl
theorem f_55_5 : fe0 55 5 = some (.aload_n 1, 1, 0, 0, 0, 0, 0) := (pg_55 5).trans rfl
theorem f_55_6 : fe0 55 6 = some (.getfield 115, 3, 2, 1, 0, 0, 1102) := (pg_55 6).trans rfl
theorem f_55_9 : fe0 55 9 = some (.if_icmp .ge 28, 3, 0, 0, 0, 0, 0) := (pg_55 9).trans rfl
theorem f_55_12 : fe0 55 12 = some (.aload_n 0, 1, 0, 0, 0, 0, 0) := (pg_55 12).trans rfl
theorem f_55_13 : fe0 55 13 = some (.getfield 9, 3, 4, 0, 1, 0, 1135) := (pg_55 13).trans rfl
theorem f_55_16 : fe0 55 16 = some (.iload 5, 2, 0, 0, 0, 0, 0) := (pg_55 16).trans rfl
theorem f_55_18 : fe0 55 18 = some (.aload_n 0, 1, 0, 0, 0, 0, 0) := (pg_55 18).trans rfl
theorem f_55_19 : fe0 55 19 = some (.aload_n 1, 1, 0, 0, 0, 0, 0) := (pg_55 19).trans rfl
theorem f_55_20 : fe0 55 20 = some (.aload_n 1, 1, 0, 0, 0, 0, 0) := (pg_55 20).trans rfl
theorem f_55_21 : fe0 55 21 = some (.getfield 108, 3, 2, 0, 1, 0, 1099) := (pg_55 21).trans rfl
theorem f_55_24 : fe0 55 24 = some (.iload 5, 2, 0, 0, 0, 0, 0) := (pg_55 24).trans rfl
theorem f_55_26 : fe0 55 26 = some (.aaload, 1, 0, 0, 0, 0, 0) := (pg_55 26).trans rfl
theorem f_55_27 : fe0 55 27 = some (.invokevirtual 122, 3, 42, 2, 0, 4, 2138) := (pg_55 27).trans rfl
theorem f_55_30 : fe0 55 30 = some (.iastore, 1, 0, 0, 0, 0, 0) := (pg_55 30).trans rfl
theorem f_55_31 : fe0 55 31 = some (.iinc 5 1, 3, 0, 0, 0, 0, 0) := (pg_55 31).trans rfl
theorem f_55_34 : fe0 55 34 = some (.goto (-31), 3, 0, 0, 0, 0, 0) := (pg_55 34).trans rfl
theorem f_55_37 : fe0 55 37 = some (.iconst 1, 1, 0, 0, 0, 0, 0) := (pg_55 37).trans rfl
theorem f_55_38 : fe0 55 38 = some (.aload_n 1, 1, 0, 0, 0, 0, 0) := (pg_55 38).trans rfl
theorem f_55_39 : fe0 55 39 = some (.getfield 115, 3, 2, 1, 0, 0, 1102) := (pg_55 39).trans rfl
theorem f_55_42 : fe0 55 42 = some (.ishl, 1, 0, 0, 0, 0, 0) := (pg_55 42).trans rfl
theorem f_55_43 : fe0 55 43 = some (.iconst 1, 1, 0, 0, 0, 0, 0) := (pg_55 43).trans rfl
theorem f_55_44 : fe0 55 44 = some (.isub, 1, 0, 0, 0, 0, 0) := (pg_55 44).trans rfl
theorem f_55_45 : fe0 55 45 = some (.istore 5, 2, 0, 0, 0, 0, 0) := (pg_55 45).trans rfl
theorem f_55_47 : fe0 55 47 = some (.iconst 0, 1, 0, 0, 0, 0, 0) := (pg_55 47).trans rfl
theorem f_55_48 : fe0 55 48 = some (.istore 6, 2, 0, 0, 0, 0, 0) := (pg_55 48).trans rfl
theorem f_55_50 : fe0 55 50 = some (.iconst 0, 1, 0, 0, 0, 0, 0) := (pg_55 50).trans rfl
theorem f_55_51 : fe0 55 51 = some (.istore 7, 2, 0, 0, 0, 0, 0) := (pg_55 51).trans rfl
theorem f_55_53 : fe0 55 53 = some (.iconst 0, 1, 0, 0, 0, 0, 0) := (pg_55 53).trans rfl
theorem f_55_54 : fe0 55 54 = some (.istore 8, 2, 0, 0, 0, 0, 0) := (pg_55 54).trans rfl
theorem f_55_56 : fe0 55 56 = some (.iload 4, 2, 0, 0, 0, 0, 0) := (pg_55 56).trans rfl
theorem f_55_58 : fe0 55 58 = some (.iconst 3, 1, 0, 0, 0, 0, 0) := (pg_55 58).trans rfl
theorem f_55_59 : fe0 55 59 = some (.iadd, 1, 0, 0, 0, 0, 0) := (pg_55 59).trans rfl
theorem f_55_60 : fe0 55 60 = some (.istore 9, 2, 0, 0, 0, 0, 0) := (pg_55 60).trans rfl
theorem f_55_62 : fe0 55 62 = some (.iconst 0, 1, 0, 0, 0, 0, 0) := (pg_55 62).trans rfl
theorem f_55_63 : fe0 55 63 = some (.istore 10, 2, 0, 0, 0, 0, 0) := (pg_55 63).trans rfl
theorem f_55_65 : fe0 55 65 = some (.iload 10, 2, 0, 0, 0, 0, 0) := (pg_55 65).trans rfl
theorem f_55_67 : fe0 55 67 = some (.bipush 40, 2, 0, 0, 0, 0, 0) := (pg_55 67).trans rfl
theorem f_55_69 : fe0 55 69 = some (.if_icmp .ge 97, 3, 0, 0, 0, 0, 0) := (pg_55 69).trans rfl
theorem f_55_72 : fe0 55 72 = some (.aload_n 0, 1, 0, 0, 0, 0, 0) := (pg_55 72).trans rfl
theorem f_55_73 : fe0 55 73 = some (.aload_n 1, 1, 0, 0, 0, 0, 0) := (pg_55 73).trans rfl
theorem f_55_74 : fe0 55 74 = some (.iload 8, 2, 0, 0, 0, 0, 0) := (pg_55 74).trans rfl
theorem f_55_76 : fe0 55 76 = some (.iload 6, 2, 0, 0, 0, 0, 0) := (pg_55 76).trans rfl
theorem f_55_78 : fe0 55 78 = some (.iload 7, 2, 0, 0, 0, 0, 0) := (pg_55 78).trans rfl
theorem f_55_80 : fe0 55 80 = some (.invokevirtual 139, 3, 56, 4, 0, 4, 3020) := (pg_55 80).trans rfl
theorem f_55_83 : fe0 55 83 = some (.istore 7, 2, 0, 0, 0, 0, 0) := (pg_55 83).trans rfl
theorem f_55_85 : fe0 55 85 = some (.iload 7, 2, 0, 0, 0, 0, 0) := (pg_55 85).trans rfl
theorem f_55_87 : fe0 55 87 = some (.iload 5, 2, 0, 0, 0, 0, 0) := (pg_55 87).trans rfl
theorem f_55_89 : fe0 55 89 = some (.if_icmp .ne 6, 3, 0, 0, 0, 0, 0) := (pg_55 89).trans rfl
theorem f_55_92 : fe0 55 92 = some (.iload 8, 2, 0, 0, 0, 0, 0) := (pg_55 92).trans rfl
theorem f_55_94 : fe0 55 94 = some (.ireturn, 1, 0, 0, 0, 0, 0) := (pg_55 94).trans rfl
theorem f_55_95 : fe0 55 95 = some (.iload 8, 2, 0, 0, 0, 0, 0) := (pg_55 95).trans rfl
theorem f_55_97 : fe0 55 97 = some (.iload 4, 2, 0, 0, 0, 0, 0) := (pg_55 97).trans rfl
theorem f_55_99 : fe0 55 99 = some (.if_icmp .ge 20, 3, 0, 0, 0, 0, 0) := (pg_55 99).trans rfl
theorem f_55_102 : fe0 55 102 = some (.aload_n 0, 1, 0, 0, 0, 0, 0) := (pg_55 102).trans rfl
theorem f_55_103 : fe0 55 103 = some (.aload_n 1, 1, 0, 0, 0, 0, 0) := (pg_55 103).trans rfl
theorem f_55_104 : fe0 55 104 = some (.iload 8, 2, 0, 0, 0, 0, 0) := (pg_55 104).trans rfl
theorem f_55_106 : fe0 55 106 = some (.iload 6, 2, 0, 0, 0, 0, 0) := (pg_55 106).trans rfl
theorem f_55_108 : fe0 55 108 = some (.iload 7, 2, 0, 0, 0, 0, 0) := (pg_55 108).trans rfl
theorem f_55_110 : fe0 55 110 = some (.iload_n 2, 1, 0, 0, 0, 0, 0) := (pg_55 110).trans rfl
theorem f_55_111 : fe0 55 111 = some (.invokevirtual 143, 3, 57, 5, 0, 4, 3024) := (pg_55 111).trans rfl
theorem f_55_114 : fe0 55 114 = some (.istore 6, 2, 0, 0, 0, 0, 0) := (pg_55 114).trans rfl
theorem f_55_116 : fe0 55 116 = some (.goto 26, 3, 0, 0, 0, 0, 0) := (pg_55 116).trans rfl
theorem f_55_119 : fe0 55 119 = some (.iload 8, 2, 0, 0, 0, 0, 0) := (pg_55 119).trans rfl
theorem f_55_121 : fe0 55 121 = some (.iload 9, 2, 0, 0, 0, 0, 0) := (pg_55 121).trans rfl
theorem f_55_123 : fe0 55 123 = some (.if_icmp .lt 19, 3, 0, 0, 0, 0, 0) := (pg_55 123).trans rfl
theorem f_55_126 : fe0 55 126 = some (.aload_n 0, 1, 0, 0, 0, 0, 0) := (pg_55 126).trans rfl
theorem f_55_127 : fe0 55 127 = some (.aload_n 1, 1, 0, 0, 0, 0, 0) := (pg_55 127).trans rfl
theorem f_55_128 : fe0 55 128 = some (.iload 8, 2, 0, 0, 0, 0, 0) := (pg_55 128).trans rfl
theorem f_55_130 : fe0 55 130 = some (.iload 6, 2, 0, 0, 0, 0, 0) := (pg_55 130).trans rfl
theorem f_55_132 : fe0 55 132 = some (.iload 7, 2, 0, 0, 0, 0, 0) := (pg_55 132).trans rfl
theorem f_55_134 : fe0 55 134 = some (.iload_n 2, 1, 0, 0, 0, 0, 0) := (pg_55 134).trans rfl
theorem f_55_135 : fe0 55 135 = some (.iload_n 3, 1, 0, 0, 0, 0, 0) := (pg_55 135).trans rfl
theorem f_55_136 : fe0 55 136 = some (.iadd, 1, 0, 0, 0, 0, 0) := (pg_55 136).trans rfl
theorem f_55_137 : fe0 55 137 = some (.invokevirtual 143, 3, 57, 5, 0, 4, 3024) := (pg_55 137).trans rfl
theorem f_55_140 : fe0 55 140 = some (.istore 6, 2, 0, 0, 0, 0, 0) := (pg_55 140).trans rfl
theorem f_55_142 : fe0 55 142 = some (.aload_n 0, 1, 0, 0, 0, 0, 0) := (pg_55 142).trans rfl
theorem f_55_143 : fe0 55 143 = some (.aload_n 1, 1, 0, 0, 0, 0, 0) := (pg_55 143).trans rfl
theorem f_55_144 : fe0 55 144 = some (.iload 8, 2, 0, 0, 0, 0, 0) := (pg_55 144).trans rfl
theorem f_55_146 : fe0 55 146 = some (.iload 6, 2, 0, 0, 0, 0, 0) := (pg_55 146).trans rfl
theorem f_55_148 : fe0 55 148 = some (.iload 7, 2, 0, 0, 0, 0, 0) := (pg_55 148).trans rfl
theorem f_55_150 : fe0 55 150 = some (.iconst (-1), 1, 0, 0, 0, 0, 0) := (pg_55 150).trans rfl
theorem f_55_151 : fe0 55 151 = some (.ixor, 1, 0, 0, 0, 0, 0) := (pg_55 151).trans rfl
theorem f_55_152 : fe0 55 152 = some (.iand, 1, 0, 0, 0, 0, 0) := (pg_55 152).trans rfl
theorem f_55_153 : fe0 55 153 = some (.iload 9, 2, 0, 0, 0, 0, 0) := (pg_55 153).trans rfl
theorem f_55_155 : fe0 55 155 = some (.invokevirtual 147, 3, 58, 4, 0, 4, 3028) := (pg_55 155).trans rfl
theorem f_55_158 : fe0 55 158 = some (.istore 8, 2, 0, 0, 0, 0, 0) := (pg_55 158).trans rfl
theorem f_55_160 : fe0 55 160 = some (.iinc 10 1, 3, 0, 0, 0, 0, 0) := (pg_55 160).trans rfl
theorem f_55_163 : fe0 55 163 = some (.goto (-98), 3, 0, 0, 0, 0, 0) := (pg_55 163).trans rfl
theorem f_55_166 : fe0 55 166 = some (.iload 8, 2, 0, 0, 0, 0, 0) := (pg_55 166).trans rfl
theorem f_55_168 : fe0 55 168 = some (.ireturn, 1, 0, 0, 0, 0, 0) := (pg_55 168).trans rfl
theorem q_55_0 (d : Nat) (l0 : Nat) (l1 : Nat) (x2 : Int32) (x3 : Int32) (x4 : Int32) (μ : aMem) : Rn (d + 1) 55 (0, [.ref l0, .ref l1, .int x2, .int x3, .int x4, un, un, un, un, un, un], [], μ) = Rn (d + 1) 55 (3, [.ref l0, .ref l1, .int x2, .int x3, .int x4, .int 0, un, un, un, un, un], [], μ) :=
  (e_nx (q := (_, _, .int 0 :: _, _)) f_55_0 rfl).trans (e_nx (q := (_, [.ref l0, .ref l1, .int x2, .int x3, .int x4, .int 0, un, un, un, un, un], _, _)) f_55_1 rfl)
theorem q_55_3 (d : Nat) (l0 : Nat) (l1 : Nat) (x2 : Int32) (x3 : Int32) (x4 : Int32) (x5 : Int32) (w6 : Value) (w7 : Value) (w8 : Value) (w9 : Value) (w10 : Value) (μ : aMem) : Rn (d + 1) 55 (3, [.ref l0, .ref l1, .int x2, .int x3, .int x4, .int x5, w6, w7, w8, w9, w10], [], μ) = if (mS μ l1).1 = 2 then (if (mF μ l1 1) ≤ x5 then (Rn (d + 1) 55 (65, [.ref l0, .ref l1, .int x2, .int x3, .int x4, .int ((1 <<< ((mF μ l1 1) &&& 31)) - 1), .int 0, .int 0, .int 0, .int (x4 + 3), .int 0], [], μ)) else (if (mS μ l0).1 = 4 then (if 12 ≤ (mS μ (mR μ l1 0)).1 ∧ (mS μ (mR μ l1 0)).1 < 16 ∧ inb x5 (mS μ (mR μ l1 0)).2 then (if (mS μ l0).1 = 4 ∧ l0 < 999999 then ((cI d 42 [.ref l0, .ref l1, .ref (mR μ (mR μ l1 0) (ix x5))] μ).bind fun p5 => if (mS p5.2 (mR μ l0 0)).1 = 10 ∧ inb x5 (mS p5.2 (mR μ l0 0)).2 then (Rn (d + 1) 55 (3, [.ref l0, .ref l1, .int x2, .int x3, .int x4, .int (x5 + 1), w6, w7, w8, w9, w10], [], setF p5.2 (mR μ l0 0) (ix x5) p5.1)) else none) else none) else none) else none)) else none :=
  (e_nx f_55_3 rfl).trans ((e_nx f_55_5 rfl).trans ((e_gd f_55_6 rfl).trans (g_congr (Iff.rfl) (fun h1 => (e_ge f_55_9 rfl).trans (b_congr (fun h2 => (e_nx (q := (_, _, .int 1 :: _, _)) f_55_37 rfl).trans ((e_nx f_55_38 rfl).trans ((e_gk f_55_39 (h1) rfl).trans ((e_nx f_55_42 rfl).trans ((e_nx (q := (_, _, .int 1 :: _, _)) f_55_43 rfl).trans ((e_nx f_55_44 rfl).trans ((e_nx (q := (_, [.ref l0, .ref l1, .int x2, .int x3, .int x4, .int ((1 <<< ((mF μ l1 1) &&& 31)) - 1), w6, w7, w8, w9, w10], _, _)) f_55_45 rfl).trans ((e_nx (q := (_, _, .int 0 :: _, _)) f_55_47 rfl).trans ((e_nx (q := (_, [.ref l0, .ref l1, .int x2, .int x3, .int x4, .int ((1 <<< ((mF μ l1 1) &&& 31)) - 1), .int 0, w7, w8, w9, w10], _, _)) f_55_48 rfl).trans ((e_nx (q := (_, _, .int 0 :: _, _)) f_55_50 rfl).trans ((e_nx (q := (_, [.ref l0, .ref l1, .int x2, .int x3, .int x4, .int ((1 <<< ((mF μ l1 1) &&& 31)) - 1), .int 0, .int 0, w8, w9, w10], _, _)) f_55_51 rfl).trans ((e_nx (q := (_, _, .int 0 :: _, _)) f_55_53 rfl).trans ((e_nx (q := (_, [.ref l0, .ref l1, .int x2, .int x3, .int x4, .int ((1 <<< ((mF μ l1 1) &&& 31)) - 1), .int 0, .int 0, .int 0, w9, w10], _, _)) f_55_54 rfl).trans ((e_nx f_55_56 rfl).trans ((e_nx (q := (_, _, .int 3 :: _, _)) f_55_58 rfl).trans ((e_nx f_55_59 rfl).trans ((e_nx (q := (_, [.ref l0, .ref l1, .int x2, .int x3, .int x4, .int ((1 <<< ((mF μ l1 1) &&& 31)) - 1), .int 0, .int 0, .int 0, .int (x4 + 3), w10], _, _)) f_55_60 rfl).trans ((e_nx (q := (_, _, .int 0 :: _, _)) f_55_62 rfl).trans (e_nx (q := (_, [.ref l0, .ref l1, .int x2, .int x3, .int x4, .int ((1 <<< ((mF μ l1 1) &&& 31)) - 1), .int 0, .int 0, .int 0, .int (x4 + 3), .int 0], _, _)) f_55_63 rfl))))))))))))))))))) (fun h2 => (e_nx f_55_12 rfl).trans ((e_gd f_55_13 rfl).trans (g_congr (Iff.rfl) (fun h3 => (e_nx f_55_16 rfl).trans ((e_nx f_55_18 rfl).trans ((e_nx f_55_19 rfl).trans ((e_nx f_55_20 rfl).trans ((e_gk f_55_21 (h1) rfl).trans ((e_nx f_55_24 rfl).trans ((e_gd f_55_26 rfl).trans (g_congr (Iff.rfl) (fun h4 => (e_gI (L := [.ref l0, .ref l1, .int x2, .int x3, .int x4, .int x5, w6, w7, w8, w9, w10]) (st := [.ref (mR μ (mR μ l1 0) (ix x5)), .ref l1, .ref l0, .int x5, .ref (mR μ l0 0)]) (μ := μ) (L' := [.ref l0, .ref l1, .int x2, .int x3, .int x4, .int x5, w6, w7, w8, w9, w10]) (st' := [.int x5, .ref (mR μ l0 0)]) f_55_27 rfl rfl).trans (g_congr (v_c2 rfl (Nat.le_of_ble_eq_true rfl)) (fun h6 => m_congr fun p5 => (e_gd f_55_30 rfl).trans (g_congr (Iff.rfl) (fun h7 => (e_nx (q := (_, [.ref l0, .ref l1, .int x2, .int x3, .int x4, .int (x5 + 1), w6, w7, w8, w9, w10], _, _)) f_55_31 rfl).trans (e_nx f_55_34 rfl))))))))))))))))))))))
theorem q_55_65 (d : Nat) (l0 : Nat) (l1 : Nat) (x2 : Int32) (x3 : Int32) (x4 : Int32) (x5 : Int32) (x6 : Int32) (x7 : Int32) (x8 : Int32) (x9 : Int32) (x10 : Int32) (μ : aMem) : Rn (d + 1) 55 (65, [.ref l0, .ref l1, .int x2, .int x3, .int x4, .int x5, .int x6, .int x7, .int x8, .int x9, .int x10], [], μ) = if 40 ≤ x10 then (some (some (.int x8), μ)) else (if (mS μ l0).1 = 4 ∧ l0 < 999999 then ((cI d 56 [.ref l0, .ref l1, .int x8, .int x6, .int x7] μ).bind fun p2 => if p2.1 = x5 then (some (some (.int x8), p2.2)) else (if x4 ≤ x8 then (if x8 < x9 then (if (mS p2.2 l0).1 = 4 ∧ l0 < 999999 then ((cI d 58 [.ref l0, .ref l1, .int x8, .int (x6 &&& (p2.1 ^^^ (-1))), .int x9] p2.2).bind fun p7 => Rn (d + 1) 55 (65, [.ref l0, .ref l1, .int x2, .int x3, .int x4, .int x5, .int x6, .int p2.1, .int p7.1, .int x9, .int (x10 + 1)], [], p7.2)) else none) else (if (mS p2.2 l0).1 = 4 ∧ l0 < 999999 then ((cI d 57 [.ref l0, .ref l1, .int x8, .int x6, .int p2.1, .int (x2 + x3)] p2.2).bind fun p9 => if (mS p9.2 l0).1 = 4 ∧ l0 < 999999 then ((cI d 58 [.ref l0, .ref l1, .int x8, .int (p9.1 &&& (p2.1 ^^^ (-1))), .int x9] p9.2).bind fun p11 => Rn (d + 1) 55 (65, [.ref l0, .ref l1, .int x2, .int x3, .int x4, .int x5, .int p9.1, .int p2.1, .int p11.1, .int x9, .int (x10 + 1)], [], p11.2)) else none) else none)) else (if (mS p2.2 l0).1 = 4 ∧ l0 < 999999 then ((cI d 57 [.ref l0, .ref l1, .int x8, .int x6, .int p2.1, .int x2] p2.2).bind fun p13 => if (mS p13.2 l0).1 = 4 ∧ l0 < 999999 then ((cI d 58 [.ref l0, .ref l1, .int x8, .int (p13.1 &&& (p2.1 ^^^ (-1))), .int x9] p13.2).bind fun p15 => Rn (d + 1) 55 (65, [.ref l0, .ref l1, .int x2, .int x3, .int x4, .int x5, .int p13.1, .int p2.1, .int p15.1, .int x9, .int (x10 + 1)], [], p15.2)) else none) else none))) else none) :=
  (e_nx f_55_65 rfl).trans ((e_nx (q := (_, _, .int 40 :: _, _)) f_55_67 rfl).trans ((e_ge f_55_69 rfl).trans (b_congr (fun h1 => (e_nx f_55_166 rfl).trans (e_rt f_55_168 rfl)) (fun h1 => (e_nx f_55_72 rfl).trans ((e_nx f_55_73 rfl).trans ((e_nx f_55_74 rfl).trans ((e_nx f_55_76 rfl).trans ((e_nx f_55_78 rfl).trans ((e_gI (L := [.ref l0, .ref l1, .int x2, .int x3, .int x4, .int x5, .int x6, .int x7, .int x8, .int x9, .int x10]) (st := [.int x7, .int x6, .int x8, .ref l1, .ref l0]) (μ := μ) (L' := [.ref l0, .ref l1, .int x2, .int x3, .int x4, .int x5, .int x6, .int x7, .int x8, .int x9, .int x10]) (st' := []) f_55_80 rfl rfl).trans (g_congr (v_c2 rfl (Nat.le_of_ble_eq_true rfl)) (fun h3 => m_congr fun p2 => (e_nx (q := (_, [.ref l0, .ref l1, .int x2, .int x3, .int x4, .int x5, .int x6, .int p2.1, .int x8, .int x9, .int x10], _, _)) f_55_83 rfl).trans ((e_nx f_55_85 rfl).trans ((e_nx f_55_87 rfl).trans ((e_ne f_55_89 rfl).trans (b_congr (fun h4 => (e_nx f_55_92 rfl).trans (e_rt f_55_94 rfl)) (fun h4 => (e_nx f_55_95 rfl).trans ((e_nx f_55_97 rfl).trans ((e_ge f_55_99 rfl).trans (b_congr (fun h5 => (e_nx f_55_119 rfl).trans ((e_nx f_55_121 rfl).trans ((e_lt f_55_123 rfl).trans (b_congr (fun h6 => (e_nx f_55_142 rfl).trans ((e_nx f_55_143 rfl).trans ((e_nx f_55_144 rfl).trans ((e_nx f_55_146 rfl).trans ((e_nx f_55_148 rfl).trans ((e_nx (q := (_, _, .int (-1) :: _, _)) f_55_150 rfl).trans ((e_nx f_55_151 rfl).trans ((e_nx f_55_152 rfl).trans ((e_nx f_55_153 rfl).trans ((e_gI (L := [.ref l0, .ref l1, .int x2, .int x3, .int x4, .int x5, .int x6, .int p2.1, .int x8, .int x9, .int x10]) (st := [.int x9, .int (x6 &&& (p2.1 ^^^ (-1))), .int x8, .ref l1, .ref l0]) (μ := p2.2) (L' := [.ref l0, .ref l1, .int x2, .int x3, .int x4, .int x5, .int x6, .int p2.1, .int x8, .int x9, .int x10]) (st' := []) f_55_155 rfl rfl).trans (g_congr (v_c2 rfl (Nat.le_of_ble_eq_true rfl)) (fun h8 => m_congr fun p7 => (e_nx (q := (_, [.ref l0, .ref l1, .int x2, .int x3, .int x4, .int x5, .int x6, .int p2.1, .int p7.1, .int x9, .int x10], _, _)) f_55_158 rfl).trans ((e_nx (q := (_, [.ref l0, .ref l1, .int x2, .int x3, .int x4, .int x5, .int x6, .int p2.1, .int p7.1, .int x9, .int (x10 + 1)], _, _)) f_55_160 rfl).trans (e_nx f_55_163 rfl)))))))))))))) (fun h6 => (e_nx f_55_126 rfl).trans ((e_nx f_55_127 rfl).trans ((e_nx f_55_128 rfl).trans ((e_nx f_55_130 rfl).trans ((e_nx f_55_132 rfl).trans ((e_nx f_55_134 rfl).trans ((e_nx f_55_135 rfl).trans ((e_nx f_55_136 rfl).trans ((e_gI (L := [.ref l0, .ref l1, .int x2, .int x3, .int x4, .int x5, .int x6, .int p2.1, .int x8, .int x9, .int x10]) (st := [.int (x2 + x3), .int p2.1, .int x6, .int x8, .ref l1, .ref l0]) (μ := p2.2) (L' := [.ref l0, .ref l1, .int x2, .int x3, .int x4, .int x5, .int x6, .int p2.1, .int x8, .int x9, .int x10]) (st' := []) f_55_137 rfl rfl).trans (g_congr (v_c2 rfl (Nat.le_of_ble_eq_true rfl)) (fun h10 => m_congr fun p9 => (e_nx (q := (_, [.ref l0, .ref l1, .int x2, .int x3, .int x4, .int x5, .int p9.1, .int p2.1, .int x8, .int x9, .int x10], _, _)) f_55_140 rfl).trans ((e_nx f_55_142 rfl).trans ((e_nx f_55_143 rfl).trans ((e_nx f_55_144 rfl).trans ((e_nx f_55_146 rfl).trans ((e_nx f_55_148 rfl).trans ((e_nx (q := (_, _, .int (-1) :: _, _)) f_55_150 rfl).trans ((e_nx f_55_151 rfl).trans ((e_nx f_55_152 rfl).trans ((e_nx f_55_153 rfl).trans ((e_gI (L := [.ref l0, .ref l1, .int x2, .int x3, .int x4, .int x5, .int p9.1, .int p2.1, .int x8, .int x9, .int x10]) (st := [.int x9, .int (p9.1 &&& (p2.1 ^^^ (-1))), .int x8, .ref l1, .ref l0]) (μ := p9.2) (L' := [.ref l0, .ref l1, .int x2, .int x3, .int x4, .int x5, .int p9.1, .int p2.1, .int x8, .int x9, .int x10]) (st' := []) f_55_155 rfl rfl).trans (g_congr (v_c2 rfl (Nat.le_of_ble_eq_true rfl)) (fun h12 => m_congr fun p11 => (e_nx (q := (_, [.ref l0, .ref l1, .int x2, .int x3, .int x4, .int x5, .int p9.1, .int p2.1, .int p11.1, .int x9, .int x10], _, _)) f_55_158 rfl).trans ((e_nx (q := (_, [.ref l0, .ref l1, .int x2, .int x3, .int x4, .int x5, .int p9.1, .int p2.1, .int p11.1, .int x9, .int (x10 + 1)], _, _)) f_55_160 rfl).trans (e_nx f_55_163 rfl))))))))))))))))))))))))))))) (fun h5 => (e_nx f_55_102 rfl).trans ((e_nx f_55_103 rfl).trans ((e_nx f_55_104 rfl).trans ((e_nx f_55_106 rfl).trans ((e_nx f_55_108 rfl).trans ((e_nx f_55_110 rfl).trans ((e_gI (L := [.ref l0, .ref l1, .int x2, .int x3, .int x4, .int x5, .int x6, .int p2.1, .int x8, .int x9, .int x10]) (st := [.int x2, .int p2.1, .int x6, .int x8, .ref l1, .ref l0]) (μ := p2.2) (L' := [.ref l0, .ref l1, .int x2, .int x3, .int x4, .int x5, .int x6, .int p2.1, .int x8, .int x9, .int x10]) (st' := []) f_55_111 rfl rfl).trans (g_congr (v_c2 rfl (Nat.le_of_ble_eq_true rfl)) (fun h14 => m_congr fun p13 => (e_nx (q := (_, [.ref l0, .ref l1, .int x2, .int x3, .int x4, .int x5, .int p13.1, .int p2.1, .int x8, .int x9, .int x10], _, _)) f_55_114 rfl).trans ((e_nx f_55_116 rfl).trans ((e_nx f_55_142 rfl).trans ((e_nx f_55_143 rfl).trans ((e_nx f_55_144 rfl).trans ((e_nx f_55_146 rfl).trans ((e_nx f_55_148 rfl).trans ((e_nx (q := (_, _, .int (-1) :: _, _)) f_55_150 rfl).trans ((e_nx f_55_151 rfl).trans ((e_nx f_55_152 rfl).trans ((e_nx f_55_153 rfl).trans ((e_gI (L := [.ref l0, .ref l1, .int x2, .int x3, .int x4, .int x5, .int p13.1, .int p2.1, .int x8, .int x9, .int x10]) (st := [.int x9, .int (p13.1 &&& (p2.1 ^^^ (-1))), .int x8, .ref l1, .ref l0]) (μ := p13.2) (L' := [.ref l0, .ref l1, .int x2, .int x3, .int x4, .int x5, .int p13.1, .int p2.1, .int x8, .int x9, .int x10]) (st' := []) f_55_155 rfl rfl).trans (g_congr (v_c2 rfl (Nat.le_of_ble_eq_true rfl)) (fun h16 => m_congr fun p15 => (e_nx (q := (_, [.ref l0, .ref l1, .int x2, .int x3, .int x4, .int x5, .int p13.1, .int p2.1, .int p15.1, .int x9, .int x10], _, _)) f_55_158 rfl).trans ((e_nx (q := (_, [.ref l0, .ref l1, .int x2, .int x3, .int x4, .int x5, .int p13.1, .int p2.1, .int p15.1, .int x9, .int (x10 + 1)], _, _)) f_55_160 rfl).trans (e_nx f_55_163 rfl)))))))))))))))))))))))))))))))))))))))))))
theorem pg_56 (pc : Nat) : fe0 56 pc = lk prg_56 pc := rfl
theorem f_56_0 : fe0 56 0 = some (.iload 4, 2, 0, 0, 0, 0, 0) := (pg_56 0).trans rfl
theorem f_56_2 : fe0 56 2 = some (.istore 5, 2, 0, 0, 0, 0, 0) := (pg_56 2).trans rfl
theorem f_56_4 : fe0 56 4 = some (.iconst 0, 1, 0, 0, 0, 0, 0) := (pg_56 4).trans rfl
theorem f_56_5 : fe0 56 5 = some (.istore 6, 2, 0, 0, 0, 0, 0) := (pg_56 5).trans rfl
theorem f_56_7 : fe0 56 7 = some (.iload 6, 2, 0, 0, 0, 0, 0) := (pg_56 7).trans rfl
theorem f_56_9 : fe0 56 9 = some (.aload_n 1, 1, 0, 0, 0, 0, 0) := (pg_56 9).trans rfl
theorem f_56_10 : fe0 56 10 = some (.getfield 115, 3, 2, 1, 0, 0, 1102) := (pg_56 10).trans rfl
theorem f_56_13 : fe0 56 13 = some (.if_icmp .ge 90, 3, 0, 0, 0, 0, 0) := (pg_56 13).trans rfl
theorem f_56_16 : fe0 56 16 = some (.iload_n 3, 1, 0, 0, 0, 0, 0) := (pg_56 16).trans rfl
theorem f_56_17 : fe0 56 17 = some (.iload 6, 2, 0, 0, 0, 0, 0) := (pg_56 17).trans rfl
theorem f_56_19 : fe0 56 19 = some (.ishr, 1, 0, 0, 0, 0, 0) := (pg_56 19).trans rfl
theorem f_56_20 : fe0 56 20 = some (.iconst 1, 1, 0, 0, 0, 0, 0) := (pg_56 20).trans rfl
theorem f_56_21 : fe0 56 21 = some (.iand, 1, 0, 0, 0, 0, 0) := (pg_56 21).trans rfl
theorem f_56_22 : fe0 56 22 = some (.ifCond .eq 18, 3, 0, 0, 0, 0, 0) := (pg_56 22).trans rfl
theorem f_56_25 : fe0 56 25 = some (.aload_n 0, 1, 0, 0, 0, 0, 0) := (pg_56 25).trans rfl
theorem f_56_26 : fe0 56 26 = some (.getfield 27, 3, 4, 5, 1, 0, 1140) := (pg_56 26).trans rfl
theorem f_56_29 : fe0 56 29 = some (.iload 6, 2, 0, 0, 0, 0, 0) := (pg_56 29).trans rfl
theorem f_56_31 : fe0 56 31 = some (.iaload, 1, 0, 0, 0, 0, 0) := (pg_56 31).trans rfl
theorem f_56_32 : fe0 56 32 = some (.iload_n 2, 1, 0, 0, 0, 0, 0) := (pg_56 32).trans rfl
theorem f_56_33 : fe0 56 33 = some (.if_icmp .gt 7, 3, 0, 0, 0, 0, 0) := (pg_56 33).trans rfl
theorem f_56_36 : fe0 56 36 = some (.iconst 1, 1, 0, 0, 0, 0, 0) := (pg_56 36).trans rfl
theorem f_56_37 : fe0 56 37 = some (.goto 4, 3, 0, 0, 0, 0, 0) := (pg_56 37).trans rfl
theorem f_56_40 : fe0 56 40 = some (.iconst 0, 1, 0, 0, 0, 0, 0) := (pg_56 40).trans rfl
theorem f_56_41 : fe0 56 41 = some (.istore 7, 2, 0, 0, 0, 0, 0) := (pg_56 41).trans rfl
theorem f_56_43 : fe0 56 43 = some (.aload_n 0, 1, 0, 0, 0, 0, 0) := (pg_56 43).trans rfl
theorem f_56_44 : fe0 56 44 = some (.getfield 9, 3, 4, 0, 1, 0, 1135) := (pg_56 44).trans rfl
theorem f_56_47 : fe0 56 47 = some (.iload 6, 2, 0, 0, 0, 0, 0) := (pg_56 47).trans rfl
theorem f_56_49 : fe0 56 49 = some (.iaload, 1, 0, 0, 0, 0, 0) := (pg_56 49).trans rfl
theorem f_56_50 : fe0 56 50 = some (.ifCond .ne 25, 3, 0, 0, 0, 0, 0) := (pg_56 50).trans rfl
theorem f_56_53 : fe0 56 53 = some (.aload_n 1, 1, 0, 0, 0, 0, 0) := (pg_56 53).trans rfl
theorem f_56_54 : fe0 56 54 = some (.getfield 108, 3, 2, 0, 1, 0, 1099) := (pg_56 54).trans rfl
theorem f_56_57 : fe0 56 57 = some (.iload 6, 2, 0, 0, 0, 0, 0) := (pg_56 57).trans rfl
theorem f_56_59 : fe0 56 59 = some (.aaload, 1, 0, 0, 0, 0, 0) := (pg_56 59).trans rfl
theorem f_56_60 : fe0 56 60 = some (.getfield 100, 3, 1, 4, 0, 0, 1083) := (pg_56 60).trans rfl
theorem f_56_63 : fe0 56 63 = some (.iload 5, 2, 0, 0, 0, 0, 0) := (pg_56 63).trans rfl
theorem f_56_65 : fe0 56 65 = some (.iconst (-1), 1, 0, 0, 0, 0, 0) := (pg_56 65).trans rfl
theorem f_56_66 : fe0 56 66 = some (.ixor, 1, 0, 0, 0, 0, 0) := (pg_56 66).trans rfl
theorem f_56_67 : fe0 56 67 = some (.iand, 1, 0, 0, 0, 0, 0) := (pg_56 67).trans rfl
theorem f_56_68 : fe0 56 68 = some (.ifCond .ne 7, 3, 0, 0, 0, 0, 0) := (pg_56 68).trans rfl
theorem f_56_71 : fe0 56 71 = some (.iconst 1, 1, 0, 0, 0, 0, 0) := (pg_56 71).trans rfl
theorem f_56_72 : fe0 56 72 = some (.goto 4, 3, 0, 0, 0, 0, 0) := (pg_56 72).trans rfl
theorem f_56_75 : fe0 56 75 = some (.iconst 0, 1, 0, 0, 0, 0, 0) := (pg_56 75).trans rfl
theorem f_56_76 : fe0 56 76 = some (.istore 8, 2, 0, 0, 0, 0, 0) := (pg_56 76).trans rfl
theorem f_56_78 : fe0 56 78 = some (.iload 7, 2, 0, 0, 0, 0, 0) := (pg_56 78).trans rfl
theorem f_56_80 : fe0 56 80 = some (.ifCond .ne 8, 3, 0, 0, 0, 0, 0) := (pg_56 80).trans rfl
theorem f_56_83 : fe0 56 83 = some (.iload 8, 2, 0, 0, 0, 0, 0) := (pg_56 83).trans rfl
theorem f_56_85 : fe0 56 85 = some (.ifCond .eq 12, 3, 0, 0, 0, 0, 0) := (pg_56 85).trans rfl
theorem f_56_88 : fe0 56 88 = some (.iload 5, 2, 0, 0, 0, 0, 0) := (pg_56 88).trans rfl
theorem f_56_90 : fe0 56 90 = some (.iconst 1, 1, 0, 0, 0, 0, 0) := (pg_56 90).trans rfl
theorem f_56_91 : fe0 56 91 = some (.iload 6, 2, 0, 0, 0, 0, 0) := (pg_56 91).trans rfl
theorem f_56_93 : fe0 56 93 = some (.ishl, 1, 0, 0, 0, 0, 0) := (pg_56 93).trans rfl
theorem f_56_94 : fe0 56 94 = some (.ior, 1, 0, 0, 0, 0, 0) := (pg_56 94).trans rfl
theorem f_56_95 : fe0 56 95 = some (.istore 5, 2, 0, 0, 0, 0, 0) := (pg_56 95).trans rfl
theorem f_56_97 : fe0 56 97 = some (.iinc 6 1, 3, 0, 0, 0, 0, 0) := (pg_56 97).trans rfl
theorem f_56_100 : fe0 56 100 = some (.goto (-93), 3, 0, 0, 0, 0, 0) := (pg_56 100).trans rfl
theorem f_56_103 : fe0 56 103 = some (.iload 5, 2, 0, 0, 0, 0, 0) := (pg_56 103).trans rfl
theorem f_56_105 : fe0 56 105 = some (.ireturn, 1, 0, 0, 0, 0, 0) := (pg_56 105).trans rfl
theorem q_56_0 (d : Nat) (l0 : Nat) (l1 : Nat) (x2 : Int32) (x3 : Int32) (x4 : Int32) (μ : aMem) : Rn d 56 (0, [.ref l0, .ref l1, .int x2, .int x3, .int x4, un, un, un, un], [], μ) = Rn d 56 (7, [.ref l0, .ref l1, .int x2, .int x3, .int x4, .int x4, .int 0, un, un], [], μ) :=
  (e_nx f_56_0 rfl).trans ((e_nx (q := (_, [.ref l0, .ref l1, .int x2, .int x3, .int x4, .int x4, un, un, un], _, _)) f_56_2 rfl).trans ((e_nx (q := (_, _, .int 0 :: _, _)) f_56_4 rfl).trans (e_nx (q := (_, [.ref l0, .ref l1, .int x2, .int x3, .int x4, .int x4, .int 0, un, un], _, _)) f_56_5 rfl)))
theorem q_56_7 (d : Nat) (l0 : Nat) (l1 : Nat) (x2 : Int32) (x3 : Int32) (x4 : Int32) (x5 : Int32) (x6 : Int32) (w7 : Value) (w8 : Value) (μ : aMem) : Rn d 56 (7, [.ref l0, .ref l1, .int x2, .int x3, .int x4, .int x5, .int x6, w7, w8], [], μ) = if (mS μ l1).1 = 2 then (if (mF μ l1 1) ≤ x6 then (some (some (.int x5), μ)) else (if ((x3 >>> (x6 &&& 31)) &&& 1) = 0 then (if (mS μ l0).1 = 4 then ((rdI μ (mR μ l0 0) x6).bind fun v5 => if v5 = 0 then (if 12 ≤ (mS μ (mR μ l1 0)).1 ∧ (mS μ (mR μ l1 0)).1 < 16 ∧ inb x6 (mS μ (mR μ l1 0)).2 then (if (mS μ (mR μ (mR μ l1 0) (ix x6))).1 = 1 then (if ((mF μ (mR μ (mR μ l1 0) (ix x6)) 4) &&& (x5 ^^^ (-1))) = 0 then (if (0 : Int32) = 0 then (if (1 : Int32) = 0 then (Rn d 56 (7, [.ref l0, .ref l1, .int x2, .int x3, .int x4, .int x5, .int (x6 + 1), .int 0, .int 1], [], μ)) else (Rn d 56 (7, [.ref l0, .ref l1, .int x2, .int x3, .int x4, .int (x5 ||| (1 <<< (x6 &&& 31))), .int (x6 + 1), .int 0, .int 1], [], μ))) else (Rn d 56 (7, [.ref l0, .ref l1, .int x2, .int x3, .int x4, .int (x5 ||| (1 <<< (x6 &&& 31))), .int (x6 + 1), .int 0, .int 1], [], μ))) else (if (0 : Int32) = 0 then (Rn d 56 (7, [.ref l0, .ref l1, .int x2, .int x3, .int x4, .int x5, .int (x6 + 1), .int 0, .int 0], [], μ)) else (Rn d 56 (7, [.ref l0, .ref l1, .int x2, .int x3, .int x4, .int (x5 ||| (1 <<< (x6 &&& 31))), .int (x6 + 1), .int 0, .int 0], [], μ)))) else none) else none) else (if (0 : Int32) = 0 then (Rn d 56 (7, [.ref l0, .ref l1, .int x2, .int x3, .int x4, .int x5, .int (x6 + 1), .int 0, .int 0], [], μ)) else (Rn d 56 (7, [.ref l0, .ref l1, .int x2, .int x3, .int x4, .int (x5 ||| (1 <<< (x6 &&& 31))), .int (x6 + 1), .int 0, .int 0], [], μ)))) else none) else (if (mS μ l0).1 = 4 then ((rdI μ (mR μ l0 5) x6).bind fun v17 => if x2 < v17 then ((rdI μ (mR μ l0 0) x6).bind fun v19 => if v19 = 0 then (if 12 ≤ (mS μ (mR μ l1 0)).1 ∧ (mS μ (mR μ l1 0)).1 < 16 ∧ inb x6 (mS μ (mR μ l1 0)).2 then (if (mS μ (mR μ (mR μ l1 0) (ix x6))).1 = 1 then (if ((mF μ (mR μ (mR μ l1 0) (ix x6)) 4) &&& (x5 ^^^ (-1))) = 0 then (if (0 : Int32) = 0 then (if (1 : Int32) = 0 then (Rn d 56 (7, [.ref l0, .ref l1, .int x2, .int x3, .int x4, .int x5, .int (x6 + 1), .int 0, .int 1], [], μ)) else (Rn d 56 (7, [.ref l0, .ref l1, .int x2, .int x3, .int x4, .int (x5 ||| (1 <<< (x6 &&& 31))), .int (x6 + 1), .int 0, .int 1], [], μ))) else (Rn d 56 (7, [.ref l0, .ref l1, .int x2, .int x3, .int x4, .int (x5 ||| (1 <<< (x6 &&& 31))), .int (x6 + 1), .int 0, .int 1], [], μ))) else (if (0 : Int32) = 0 then (Rn d 56 (7, [.ref l0, .ref l1, .int x2, .int x3, .int x4, .int x5, .int (x6 + 1), .int 0, .int 0], [], μ)) else (Rn d 56 (7, [.ref l0, .ref l1, .int x2, .int x3, .int x4, .int (x5 ||| (1 <<< (x6 &&& 31))), .int (x6 + 1), .int 0, .int 0], [], μ)))) else none) else none) else (if (0 : Int32) = 0 then (Rn d 56 (7, [.ref l0, .ref l1, .int x2, .int x3, .int x4, .int x5, .int (x6 + 1), .int 0, .int 0], [], μ)) else (Rn d 56 (7, [.ref l0, .ref l1, .int x2, .int x3, .int x4, .int (x5 ||| (1 <<< (x6 &&& 31))), .int (x6 + 1), .int 0, .int 0], [], μ)))) else ((rdI μ (mR μ l0 0) x6).bind fun v30 => if v30 = 0 then (if 12 ≤ (mS μ (mR μ l1 0)).1 ∧ (mS μ (mR μ l1 0)).1 < 16 ∧ inb x6 (mS μ (mR μ l1 0)).2 then (if (mS μ (mR μ (mR μ l1 0) (ix x6))).1 = 1 then (if ((mF μ (mR μ (mR μ l1 0) (ix x6)) 4) &&& (x5 ^^^ (-1))) = 0 then (if (1 : Int32) = 0 then (Rn d 56 (7, [.ref l0, .ref l1, .int x2, .int x3, .int x4, .int x5, .int (x6 + 1), .int 1, .int 1], [], μ)) else (Rn d 56 (7, [.ref l0, .ref l1, .int x2, .int x3, .int x4, .int (x5 ||| (1 <<< (x6 &&& 31))), .int (x6 + 1), .int 1, .int 1], [], μ))) else (if (1 : Int32) = 0 then (if (0 : Int32) = 0 then (Rn d 56 (7, [.ref l0, .ref l1, .int x2, .int x3, .int x4, .int x5, .int (x6 + 1), .int 1, .int 0], [], μ)) else (Rn d 56 (7, [.ref l0, .ref l1, .int x2, .int x3, .int x4, .int (x5 ||| (1 <<< (x6 &&& 31))), .int (x6 + 1), .int 1, .int 0], [], μ))) else (Rn d 56 (7, [.ref l0, .ref l1, .int x2, .int x3, .int x4, .int (x5 ||| (1 <<< (x6 &&& 31))), .int (x6 + 1), .int 1, .int 0], [], μ)))) else none) else none) else (if (1 : Int32) = 0 then (if (0 : Int32) = 0 then (Rn d 56 (7, [.ref l0, .ref l1, .int x2, .int x3, .int x4, .int x5, .int (x6 + 1), .int 1, .int 0], [], μ)) else (Rn d 56 (7, [.ref l0, .ref l1, .int x2, .int x3, .int x4, .int (x5 ||| (1 <<< (x6 &&& 31))), .int (x6 + 1), .int 1, .int 0], [], μ))) else (Rn d 56 (7, [.ref l0, .ref l1, .int x2, .int x3, .int x4, .int (x5 ||| (1 <<< (x6 &&& 31))), .int (x6 + 1), .int 1, .int 0], [], μ))))) else none))) else none :=
  (e_nx f_56_7 rfl).trans ((e_nx f_56_9 rfl).trans ((e_gd f_56_10 rfl).trans (g_congr (Iff.rfl) (fun h1 => (e_ge f_56_13 rfl).trans (b_congr (fun h2 => (e_nx f_56_103 rfl).trans (e_rt f_56_105 rfl)) (fun h2 => (e_nx f_56_16 rfl).trans ((e_nx f_56_17 rfl).trans ((e_nx f_56_19 rfl).trans ((e_nx (q := (_, _, .int 1 :: _, _)) f_56_20 rfl).trans ((e_nx f_56_21 rfl).trans ((e_eq f_56_22 rfl).trans (b_congr (fun h3 => (e_nx (q := (_, _, .int 0 :: _, _)) f_56_40 rfl).trans ((e_nx (q := (_, [.ref l0, .ref l1, .int x2, .int x3, .int x4, .int x5, .int x6, .int 0, w8], _, _)) f_56_41 rfl).trans ((e_nx f_56_43 rfl).trans ((e_gd f_56_44 rfl).trans (g_congr (Iff.rfl) (fun h4 => (e_nx f_56_47 rfl).trans ((e_ia (L := [.ref l0, .ref l1, .int x2, .int x3, .int x4, .int x5, .int x6, .int 0, w8]) (r := []) (μ := μ) f_56_49).trans (m_congr fun v5 => (e_ne f_56_50 rfl).trans (b_congr (fun h6 => (e_nx f_56_53 rfl).trans ((e_gk f_56_54 (h1) rfl).trans ((e_nx f_56_57 rfl).trans ((e_gd f_56_59 rfl).trans (g_congr (Iff.rfl) (fun h7 => (e_gd f_56_60 rfl).trans (g_congr (Iff.rfl) (fun h8 => (e_nx f_56_63 rfl).trans ((e_nx (q := (_, _, .int (-1) :: _, _)) f_56_65 rfl).trans ((e_nx f_56_66 rfl).trans ((e_nx f_56_67 rfl).trans ((e_ne f_56_68 rfl).trans (b_congr (fun h9 => (e_nx (q := (_, _, .int 1 :: _, _)) f_56_71 rfl).trans ((e_nx f_56_72 rfl).trans ((e_nx (q := (_, [.ref l0, .ref l1, .int x2, .int x3, .int x4, .int x5, .int x6, .int 0, .int 1], _, _)) f_56_76 rfl).trans ((e_nx f_56_78 rfl).trans ((e_ne f_56_80 rfl).trans (b_congr (fun h10 => (e_nx f_56_83 rfl).trans ((e_eq f_56_85 rfl).trans (b_congr (fun h11 => (e_nx (q := (_, [.ref l0, .ref l1, .int x2, .int x3, .int x4, .int x5, .int (x6 + 1), .int 0, .int 1], _, _)) f_56_97 rfl).trans (e_nx f_56_100 rfl)) (fun h11 => (e_nx f_56_88 rfl).trans ((e_nx (q := (_, _, .int 1 :: _, _)) f_56_90 rfl).trans ((e_nx f_56_91 rfl).trans ((e_nx f_56_93 rfl).trans ((e_nx f_56_94 rfl).trans ((e_nx (q := (_, [.ref l0, .ref l1, .int x2, .int x3, .int x4, .int (x5 ||| (1 <<< (x6 &&& 31))), .int x6, .int 0, .int 1], _, _)) f_56_95 rfl).trans ((e_nx (q := (_, [.ref l0, .ref l1, .int x2, .int x3, .int x4, .int (x5 ||| (1 <<< (x6 &&& 31))), .int (x6 + 1), .int 0, .int 1], _, _)) f_56_97 rfl).trans (e_nx f_56_100 rfl))))))))))) (fun h10 => (e_nx f_56_88 rfl).trans ((e_nx (q := (_, _, .int 1 :: _, _)) f_56_90 rfl).trans ((e_nx f_56_91 rfl).trans ((e_nx f_56_93 rfl).trans ((e_nx f_56_94 rfl).trans ((e_nx (q := (_, [.ref l0, .ref l1, .int x2, .int x3, .int x4, .int (x5 ||| (1 <<< (x6 &&& 31))), .int x6, .int 0, .int 1], _, _)) f_56_95 rfl).trans ((e_nx (q := (_, [.ref l0, .ref l1, .int x2, .int x3, .int x4, .int (x5 ||| (1 <<< (x6 &&& 31))), .int (x6 + 1), .int 0, .int 1], _, _)) f_56_97 rfl).trans (e_nx f_56_100 rfl)))))))))))))) (fun h9 => (e_nx (q := (_, _, .int 0 :: _, _)) f_56_75 rfl).trans ((e_nx (q := (_, [.ref l0, .ref l1, .int x2, .int x3, .int x4, .int x5, .int x6, .int 0, .int 0], _, _)) f_56_76 rfl).trans ((e_nx f_56_78 rfl).trans ((e_ne f_56_80 rfl).trans (b_congr (fun h12 => (e_nx f_56_83 rfl).trans (((e_eq f_56_85 rfl).trans (if_pos h12)).trans ((e_nx (q := (_, [.ref l0, .ref l1, .int x2, .int x3, .int x4, .int x5, .int (x6 + 1), .int 0, .int 0], _, _)) f_56_97 rfl).trans (e_nx f_56_100 rfl)))) (fun h12 => (e_nx f_56_88 rfl).trans ((e_nx (q := (_, _, .int 1 :: _, _)) f_56_90 rfl).trans ((e_nx f_56_91 rfl).trans ((e_nx f_56_93 rfl).trans ((e_nx f_56_94 rfl).trans ((e_nx (q := (_, [.ref l0, .ref l1, .int x2, .int x3, .int x4, .int (x5 ||| (1 <<< (x6 &&& 31))), .int x6, .int 0, .int 0], _, _)) f_56_95 rfl).trans ((e_nx (q := (_, [.ref l0, .ref l1, .int x2, .int x3, .int x4, .int (x5 ||| (1 <<< (x6 &&& 31))), .int (x6 + 1), .int 0, .int 0], _, _)) f_56_97 rfl).trans (e_nx f_56_100 rfl)))))))))))))))))))))))))) (fun h6 => (e_nx (q := (_, _, .int 0 :: _, _)) f_56_75 rfl).trans ((e_nx (q := (_, [.ref l0, .ref l1, .int x2, .int x3, .int x4, .int x5, .int x6, .int 0, .int 0], _, _)) f_56_76 rfl).trans ((e_nx f_56_78 rfl).trans ((e_ne f_56_80 rfl).trans (b_congr (fun h14 => (e_nx f_56_83 rfl).trans (((e_eq f_56_85 rfl).trans (if_pos h14)).trans ((e_nx (q := (_, [.ref l0, .ref l1, .int x2, .int x3, .int x4, .int x5, .int (x6 + 1), .int 0, .int 0], _, _)) f_56_97 rfl).trans (e_nx f_56_100 rfl)))) (fun h14 => (e_nx f_56_88 rfl).trans ((e_nx (q := (_, _, .int 1 :: _, _)) f_56_90 rfl).trans ((e_nx f_56_91 rfl).trans ((e_nx f_56_93 rfl).trans ((e_nx f_56_94 rfl).trans ((e_nx (q := (_, [.ref l0, .ref l1, .int x2, .int x3, .int x4, .int (x5 ||| (1 <<< (x6 &&& 31))), .int x6, .int 0, .int 0], _, _)) f_56_95 rfl).trans ((e_nx (q := (_, [.ref l0, .ref l1, .int x2, .int x3, .int x4, .int (x5 ||| (1 <<< (x6 &&& 31))), .int (x6 + 1), .int 0, .int 0], _, _)) f_56_97 rfl).trans (e_nx f_56_100 rfl)))))))))))))))))))))) (fun h3 => (e_nx f_56_25 rfl).trans ((e_gd f_56_26 rfl).trans (g_congr (Iff.rfl) (fun h16 => (e_nx f_56_29 rfl).trans ((e_ia (L := [.ref l0, .ref l1, .int x2, .int x3, .int x4, .int x5, .int x6, w7, w8]) (r := []) (μ := μ) f_56_31).trans (m_congr fun v17 => (e_nx f_56_32 rfl).trans ((e_gt f_56_33 rfl).trans (b_congr (fun h18 => (e_nx (q := (_, _, .int 0 :: _, _)) f_56_40 rfl).trans ((e_nx (q := (_, [.ref l0, .ref l1, .int x2, .int x3, .int x4, .int x5, .int x6, .int 0, w8], _, _)) f_56_41 rfl).trans ((e_nx f_56_43 rfl).trans ((e_gk f_56_44 (h16) rfl).trans ((e_nx f_56_47 rfl).trans ((e_ia (L := [.ref l0, .ref l1, .int x2, .int x3, .int x4, .int x5, .int x6, .int 0, w8]) (r := []) (μ := μ) f_56_49).trans (m_congr fun v19 => (e_ne f_56_50 rfl).trans (b_congr (fun h20 => (e_nx f_56_53 rfl).trans ((e_gk f_56_54 (h1) rfl).trans ((e_nx f_56_57 rfl).trans ((e_gd f_56_59 rfl).trans (g_congr (Iff.rfl) (fun h21 => (e_gd f_56_60 rfl).trans (g_congr (Iff.rfl) (fun h22 => (e_nx f_56_63 rfl).trans ((e_nx (q := (_, _, .int (-1) :: _, _)) f_56_65 rfl).trans ((e_nx f_56_66 rfl).trans ((e_nx f_56_67 rfl).trans ((e_ne f_56_68 rfl).trans (b_congr (fun h23 => (e_nx (q := (_, _, .int 1 :: _, _)) f_56_71 rfl).trans ((e_nx f_56_72 rfl).trans ((e_nx (q := (_, [.ref l0, .ref l1, .int x2, .int x3, .int x4, .int x5, .int x6, .int 0, .int 1], _, _)) f_56_76 rfl).trans ((e_nx f_56_78 rfl).trans ((e_ne f_56_80 rfl).trans (b_congr (fun h24 => (e_nx f_56_83 rfl).trans ((e_eq f_56_85 rfl).trans (b_congr (fun h25 => (e_nx (q := (_, [.ref l0, .ref l1, .int x2, .int x3, .int x4, .int x5, .int (x6 + 1), .int 0, .int 1], _, _)) f_56_97 rfl).trans (e_nx f_56_100 rfl)) (fun h25 => (e_nx f_56_88 rfl).trans ((e_nx (q := (_, _, .int 1 :: _, _)) f_56_90 rfl).trans ((e_nx f_56_91 rfl).trans ((e_nx f_56_93 rfl).trans ((e_nx f_56_94 rfl).trans ((e_nx (q := (_, [.ref l0, .ref l1, .int x2, .int x3, .int x4, .int (x5 ||| (1 <<< (x6 &&& 31))), .int x6, .int 0, .int 1], _, _)) f_56_95 rfl).trans ((e_nx (q := (_, [.ref l0, .ref l1, .int x2, .int x3, .int x4, .int (x5 ||| (1 <<< (x6 &&& 31))), .int (x6 + 1), .int 0, .int 1], _, _)) f_56_97 rfl).trans (e_nx f_56_100 rfl))))))))))) (fun h24 => (e_nx f_56_88 rfl).trans ((e_nx (q := (_, _, .int 1 :: _, _)) f_56_90 rfl).trans ((e_nx f_56_91 rfl).trans ((e_nx f_56_93 rfl).trans ((e_nx f_56_94 rfl).trans ((e_nx (q := (_, [.ref l0, .ref l1, .int x2, .int x3, .int x4, .int (x5 ||| (1 <<< (x6 &&& 31))), .int x6, .int 0, .int 1], _, _)) f_56_95 rfl).trans ((e_nx (q := (_, [.ref l0, .ref l1, .int x2, .int x3, .int x4, .int (x5 ||| (1 <<< (x6 &&& 31))), .int (x6 + 1), .int 0, .int 1], _, _)) f_56_97 rfl).trans (e_nx f_56_100 rfl)))))))))))))) (fun h23 => (e_nx (q := (_, _, .int 0 :: _, _)) f_56_75 rfl).trans ((e_nx (q := (_, [.ref l0, .ref l1, .int x2, .int x3, .int x4, .int x5, .int x6, .int 0, .int 0], _, _)) f_56_76 rfl).trans ((e_nx f_56_78 rfl).trans ((e_ne f_56_80 rfl).trans (b_congr (fun h26 => (e_nx f_56_83 rfl).trans (((e_eq f_56_85 rfl).trans (if_pos h26)).trans ((e_nx (q := (_, [.ref l0, .ref l1, .int x2, .int x3, .int x4, .int x5, .int (x6 + 1), .int 0, .int 0], _, _)) f_56_97 rfl).trans (e_nx f_56_100 rfl)))) (fun h26 => (e_nx f_56_88 rfl).trans ((e_nx (q := (_, _, .int 1 :: _, _)) f_56_90 rfl).trans ((e_nx f_56_91 rfl).trans ((e_nx f_56_93 rfl).trans ((e_nx f_56_94 rfl).trans ((e_nx (q := (_, [.ref l0, .ref l1, .int x2, .int x3, .int x4, .int (x5 ||| (1 <<< (x6 &&& 31))), .int x6, .int 0, .int 0], _, _)) f_56_95 rfl).trans ((e_nx (q := (_, [.ref l0, .ref l1, .int x2, .int x3, .int x4, .int (x5 ||| (1 <<< (x6 &&& 31))), .int (x6 + 1), .int 0, .int 0], _, _)) f_56_97 rfl).trans (e_nx f_56_100 rfl)))))))))))))))))))))))))) (fun h20 => (e_nx (q := (_, _, .int 0 :: _, _)) f_56_75 rfl).trans ((e_nx (q := (_, [.ref l0, .ref l1, .int x2, .int x3, .int x4, .int x5, .int x6, .int 0, .int 0], _, _)) f_56_76 rfl).trans ((e_nx f_56_78 rfl).trans ((e_ne f_56_80 rfl).trans (b_congr (fun h28 => (e_nx f_56_83 rfl).trans (((e_eq f_56_85 rfl).trans (if_pos h28)).trans ((e_nx (q := (_, [.ref l0, .ref l1, .int x2, .int x3, .int x4, .int x5, .int (x6 + 1), .int 0, .int 0], _, _)) f_56_97 rfl).trans (e_nx f_56_100 rfl)))) (fun h28 => (e_nx f_56_88 rfl).trans ((e_nx (q := (_, _, .int 1 :: _, _)) f_56_90 rfl).trans ((e_nx f_56_91 rfl).trans ((e_nx f_56_93 rfl).trans ((e_nx f_56_94 rfl).trans ((e_nx (q := (_, [.ref l0, .ref l1, .int x2, .int x3, .int x4, .int (x5 ||| (1 <<< (x6 &&& 31))), .int x6, .int 0, .int 0], _, _)) f_56_95 rfl).trans ((e_nx (q := (_, [.ref l0, .ref l1, .int x2, .int x3, .int x4, .int (x5 ||| (1 <<< (x6 &&& 31))), .int (x6 + 1), .int 0, .int 0], _, _)) f_56_97 rfl).trans (e_nx f_56_100 rfl))))))))))))))))))))) (fun h18 => (e_nx (q := (_, _, .int 1 :: _, _)) f_56_36 rfl).trans ((e_nx f_56_37 rfl).trans ((e_nx (q := (_, [.ref l0, .ref l1, .int x2, .int x3, .int x4, .int x5, .int x6, .int 1, w8], _, _)) f_56_41 rfl).trans ((e_nx f_56_43 rfl).trans ((e_gk f_56_44 (h16) rfl).trans ((e_nx f_56_47 rfl).trans ((e_ia (L := [.ref l0, .ref l1, .int x2, .int x3, .int x4, .int x5, .int x6, .int 1, w8]) (r := []) (μ := μ) f_56_49).trans (m_congr fun v30 => (e_ne f_56_50 rfl).trans (b_congr (fun h31 => (e_nx f_56_53 rfl).trans ((e_gk f_56_54 (h1) rfl).trans ((e_nx f_56_57 rfl).trans ((e_gd f_56_59 rfl).trans (g_congr (Iff.rfl) (fun h32 => (e_gd f_56_60 rfl).trans (g_congr (Iff.rfl) (fun h33 => (e_nx f_56_63 rfl).trans ((e_nx (q := (_, _, .int (-1) :: _, _)) f_56_65 rfl).trans ((e_nx f_56_66 rfl).trans ((e_nx f_56_67 rfl).trans ((e_ne f_56_68 rfl).trans (b_congr (fun h34 => (e_nx (q := (_, _, .int 1 :: _, _)) f_56_71 rfl).trans ((e_nx f_56_72 rfl).trans ((e_nx (q := (_, [.ref l0, .ref l1, .int x2, .int x3, .int x4, .int x5, .int x6, .int 1, .int 1], _, _)) f_56_76 rfl).trans ((e_nx f_56_78 rfl).trans ((e_ne f_56_80 rfl).trans (b_congr (fun h35 => (e_nx f_56_83 rfl).trans (((e_eq f_56_85 rfl).trans (if_pos h35)).trans ((e_nx (q := (_, [.ref l0, .ref l1, .int x2, .int x3, .int x4, .int x5, .int (x6 + 1), .int 1, .int 1], _, _)) f_56_97 rfl).trans (e_nx f_56_100 rfl)))) (fun h35 => (e_nx f_56_88 rfl).trans ((e_nx (q := (_, _, .int 1 :: _, _)) f_56_90 rfl).trans ((e_nx f_56_91 rfl).trans ((e_nx f_56_93 rfl).trans ((e_nx f_56_94 rfl).trans ((e_nx (q := (_, [.ref l0, .ref l1, .int x2, .int x3, .int x4, .int (x5 ||| (1 <<< (x6 &&& 31))), .int x6, .int 1, .int 1], _, _)) f_56_95 rfl).trans ((e_nx (q := (_, [.ref l0, .ref l1, .int x2, .int x3, .int x4, .int (x5 ||| (1 <<< (x6 &&& 31))), .int (x6 + 1), .int 1, .int 1], _, _)) f_56_97 rfl).trans (e_nx f_56_100 rfl)))))))))))))) (fun h34 => (e_nx (q := (_, _, .int 0 :: _, _)) f_56_75 rfl).trans ((e_nx (q := (_, [.ref l0, .ref l1, .int x2, .int x3, .int x4, .int x5, .int x6, .int 1, .int 0], _, _)) f_56_76 rfl).trans ((e_nx f_56_78 rfl).trans ((e_ne f_56_80 rfl).trans (b_congr (fun h37 => (e_nx f_56_83 rfl).trans ((e_eq f_56_85 rfl).trans (b_congr (fun h38 => (e_nx (q := (_, [.ref l0, .ref l1, .int x2, .int x3, .int x4, .int x5, .int (x6 + 1), .int 1, .int 0], _, _)) f_56_97 rfl).trans (e_nx f_56_100 rfl)) (fun h38 => (e_nx f_56_88 rfl).trans ((e_nx (q := (_, _, .int 1 :: _, _)) f_56_90 rfl).trans ((e_nx f_56_91 rfl).trans ((e_nx f_56_93 rfl).trans ((e_nx f_56_94 rfl).trans ((e_nx (q := (_, [.ref l0, .ref l1, .int x2, .int x3, .int x4, .int (x5 ||| (1 <<< (x6 &&& 31))), .int x6, .int 1, .int 0], _, _)) f_56_95 rfl).trans ((e_nx (q := (_, [.ref l0, .ref l1, .int x2, .int x3, .int x4, .int (x5 ||| (1 <<< (x6 &&& 31))), .int (x6 + 1), .int 1, .int 0], _, _)) f_56_97 rfl).trans (e_nx f_56_100 rfl))))))))))) (fun h37 => (e_nx f_56_88 rfl).trans ((e_nx (q := (_, _, .int 1 :: _, _)) f_56_90 rfl).trans ((e_nx f_56_91 rfl).trans ((e_nx f_56_93 rfl).trans ((e_nx f_56_94 rfl).trans ((e_nx (q := (_, [.ref l0, .ref l1, .int x2, .int x3, .int x4, .int (x5 ||| (1 <<< (x6 &&& 31))), .int x6, .int 1, .int 0], _, _)) f_56_95 rfl).trans ((e_nx (q := (_, [.ref l0, .ref l1, .int x2, .int x3, .int x4, .int (x5 ||| (1 <<< (x6 &&& 31))), .int (x6 + 1), .int 1, .int 0], _, _)) f_56_97 rfl).trans (e_nx f_56_100 rfl)))))))))))))))))))))))))) (fun h31 => (e_nx (q := (_, _, .int 0 :: _, _)) f_56_75 rfl).trans ((e_nx (q := (_, [.ref l0, .ref l1, .int x2, .int x3, .int x4, .int x5, .int x6, .int 1, .int 0], _, _)) f_56_76 rfl).trans ((e_nx f_56_78 rfl).trans ((e_ne f_56_80 rfl).trans (b_congr (fun h39 => (e_nx f_56_83 rfl).trans ((e_eq f_56_85 rfl).trans (b_congr (fun h40 => (e_nx (q := (_, [.ref l0, .ref l1, .int x2, .int x3, .int x4, .int x5, .int (x6 + 1), .int 1, .int 0], _, _)) f_56_97 rfl).trans (e_nx f_56_100 rfl)) (fun h40 => (e_nx f_56_88 rfl).trans ((e_nx (q := (_, _, .int 1 :: _, _)) f_56_90 rfl).trans ((e_nx f_56_91 rfl).trans ((e_nx f_56_93 rfl).trans ((e_nx f_56_94 rfl).trans ((e_nx (q := (_, [.ref l0, .ref l1, .int x2, .int x3, .int x4, .int (x5 ||| (1 <<< (x6 &&& 31))), .int x6, .int 1, .int 0], _, _)) f_56_95 rfl).trans ((e_nx (q := (_, [.ref l0, .ref l1, .int x2, .int x3, .int x4, .int (x5 ||| (1 <<< (x6 &&& 31))), .int (x6 + 1), .int 1, .int 0], _, _)) f_56_97 rfl).trans (e_nx f_56_100 rfl))))))))))) (fun h39 => (e_nx f_56_88 rfl).trans ((e_nx (q := (_, _, .int 1 :: _, _)) f_56_90 rfl).trans ((e_nx f_56_91 rfl).trans ((e_nx f_56_93 rfl).trans ((e_nx f_56_94 rfl).trans ((e_nx (q := (_, [.ref l0, .ref l1, .int x2, .int x3, .int x4, .int (x5 ||| (1 <<< (x6 &&& 31))), .int x6, .int 1, .int 0], _, _)) f_56_95 rfl).trans ((e_nx (q := (_, [.ref l0, .ref l1, .int x2, .int x3, .int x4, .int (x5 ||| (1 <<< (x6 &&& 31))), .int (x6 + 1), .int 1, .int 0], _, _)) f_56_97 rfl).trans (e_nx f_56_100 rfl))))))))))))))))))))))))))))))))))))))))))
theorem pg_57 (pc : Nat) : fe0 57 pc = lk prg_57 pc := rfl
theorem f_57_0 : fe0 57 0 = some (.iload_n 3, 1, 0, 0, 0, 0, 0) := (pg_57 0).trans rfl
theorem f_57_1 : fe0 57 1 = some (.istore 6, 2, 0, 0, 0, 0, 0) := (pg_57 1).trans rfl
theorem f_57_3 : fe0 57 3 = some (.iload 5, 2, 0, 0, 0, 0, 0) := (pg_57 3).trans rfl
theorem f_57_5 : fe0 57 5 = some (.iload 6, 2, 0, 0, 0, 0, 0) := (pg_57 5).trans rfl
theorem f_57_7 : fe0 57 7 = some (.iload 4, 2, 0, 0, 0, 0, 0) := (pg_57 7).trans rfl
theorem f_57_9 : fe0 57 9 = some (.iconst (-1), 1, 0, 0, 0, 0, 0) := (pg_57 9).trans rfl
theorem f_57_10 : fe0 57 10 = some (.ixor, 1, 0, 0, 0, 0, 0) := (pg_57 10).trans rfl
theorem f_57_11 : fe0 57 11 = some (.iand, 1, 0, 0, 0, 0, 0) := (pg_57 11).trans rfl
theorem f_57_12 : fe0 57 12 = some (.invokestatic 103, 3, 230, 1, 2, 0, 2120) := (pg_57 12).trans rfl
theorem f_57_15 : fe0 57 15 = some (.isub, 1, 0, 0, 0, 0, 0) := (pg_57 15).trans rfl
theorem f_57_16 : fe0 57 16 = some (.istore 7, 2, 0, 0, 0, 0, 0) := (pg_57 16).trans rfl
theorem f_57_18 : fe0 57 18 = some (.iconst 0, 1, 0, 0, 0, 0, 0) := (pg_57 18).trans rfl
theorem f_57_19 : fe0 57 19 = some (.istore 8, 2, 0, 0, 0, 0, 0) := (pg_57 19).trans rfl
theorem f_57_21 : fe0 57 21 = some (.iload 8, 2, 0, 0, 0, 0, 0) := (pg_57 21).trans rfl
theorem f_57_23 : fe0 57 23 = some (.aload_n 1, 1, 0, 0, 0, 0, 0) := (pg_57 23).trans rfl
theorem f_57_24 : fe0 57 24 = some (.getfield 115, 3, 2, 1, 0, 0, 1102) := (pg_57 24).trans rfl
theorem f_57_27 : fe0 57 27 = some (.if_icmp .ge 85, 3, 0, 0, 0, 0, 0) := (pg_57 27).trans rfl
theorem f_57_30 : fe0 57 30 = some (.iload 7, 2, 0, 0, 0, 0, 0) := (pg_57 30).trans rfl
theorem f_57_32 : fe0 57 32 = some (.ifCond .le 80, 3, 0, 0, 0, 0, 0) := (pg_57 32).trans rfl
theorem f_57_35 : fe0 57 35 = some (.iload 6, 2, 0, 0, 0, 0, 0) := (pg_57 35).trans rfl
theorem f_57_37 : fe0 57 37 = some (.iload 4, 2, 0, 0, 0, 0, 0) := (pg_57 37).trans rfl
theorem f_57_39 : fe0 57 39 = some (.ior, 1, 0, 0, 0, 0, 0) := (pg_57 39).trans rfl
theorem f_57_40 : fe0 57 40 = some (.iload 8, 2, 0, 0, 0, 0, 0) := (pg_57 40).trans rfl
theorem f_57_42 : fe0 57 42 = some (.ishr, 1, 0, 0, 0, 0, 0) := (pg_57 42).trans rfl
theorem f_57_43 : fe0 57 43 = some (.iconst 1, 1, 0, 0, 0, 0, 0) := (pg_57 43).trans rfl
theorem f_57_44 : fe0 57 44 = some (.iand, 1, 0, 0, 0, 0, 0) := (pg_57 44).trans rfl
theorem f_57_45 : fe0 57 45 = some (.ifCond .ne 7, 3, 0, 0, 0, 0, 0) := (pg_57 45).trans rfl
theorem f_57_48 : fe0 57 48 = some (.iconst 1, 1, 0, 0, 0, 0, 0) := (pg_57 48).trans rfl
theorem f_57_49 : fe0 57 49 = some (.goto 4, 3, 0, 0, 0, 0, 0) := (pg_57 49).trans rfl
theorem f_57_52 : fe0 57 52 = some (.iconst 0, 1, 0, 0, 0, 0, 0) := (pg_57 52).trans rfl
theorem f_57_53 : fe0 57 53 = some (.istore 9, 2, 0, 0, 0, 0, 0) := (pg_57 53).trans rfl
theorem f_57_55 : fe0 57 55 = some (.iload 9, 2, 0, 0, 0, 0, 0) := (pg_57 55).trans rfl
theorem f_57_57 : fe0 57 57 = some (.ifCond .eq 49, 3, 0, 0, 0, 0, 0) := (pg_57 57).trans rfl
theorem f_57_60 : fe0 57 60 = some (.aload_n 1, 1, 0, 0, 0, 0, 0) := (pg_57 60).trans rfl
theorem f_57_61 : fe0 57 61 = some (.getfield 108, 3, 2, 0, 1, 0, 1099) := (pg_57 61).trans rfl
theorem f_57_64 : fe0 57 64 = some (.iload 8, 2, 0, 0, 0, 0, 0) := (pg_57 64).trans rfl
theorem f_57_66 : fe0 57 66 = some (.aaload, 1, 0, 0, 0, 0, 0) := (pg_57 66).trans rfl
theorem f_57_67 : fe0 57 67 = some (.getfield 100, 3, 1, 4, 0, 0, 1083) := (pg_57 67).trans rfl
theorem f_57_70 : fe0 57 70 = some (.iload 4, 2, 0, 0, 0, 0, 0) := (pg_57 70).trans rfl
theorem f_57_72 : fe0 57 72 = some (.iconst (-1), 1, 0, 0, 0, 0, 0) := (pg_57 72).trans rfl
theorem f_57_73 : fe0 57 73 = some (.ixor, 1, 0, 0, 0, 0, 0) := (pg_57 73).trans rfl
theorem f_57_74 : fe0 57 74 = some (.iand, 1, 0, 0, 0, 0, 0) := (pg_57 74).trans rfl
theorem f_57_75 : fe0 57 75 = some (.ifCond .ne 31, 3, 0, 0, 0, 0, 0) := (pg_57 75).trans rfl
theorem f_57_78 : fe0 57 78 = some (.aload_n 0, 1, 0, 0, 0, 0, 0) := (pg_57 78).trans rfl
theorem f_57_79 : fe0 57 79 = some (.getfield 27, 3, 4, 5, 1, 0, 1140) := (pg_57 79).trans rfl
theorem f_57_82 : fe0 57 82 = some (.iload 8, 2, 0, 0, 0, 0, 0) := (pg_57 82).trans rfl
theorem f_57_84 : fe0 57 84 = some (.iload_n 2, 1, 0, 0, 0, 0, 0) := (pg_57 84).trans rfl
theorem f_57_85 : fe0 57 85 = some (.aload_n 0, 1, 0, 0, 0, 0, 0) := (pg_57 85).trans rfl
theorem f_57_86 : fe0 57 86 = some (.getfield 9, 3, 4, 0, 1, 0, 1135) := (pg_57 86).trans rfl
theorem f_57_89 : fe0 57 89 = some (.iload 8, 2, 0, 0, 0, 0, 0) := (pg_57 89).trans rfl
theorem f_57_91 : fe0 57 91 = some (.iaload, 1, 0, 0, 0, 0, 0) := (pg_57 91).trans rfl
theorem f_57_92 : fe0 57 92 = some (.iadd, 1, 0, 0, 0, 0, 0) := (pg_57 92).trans rfl
theorem f_57_93 : fe0 57 93 = some (.iastore, 1, 0, 0, 0, 0, 0) := (pg_57 93).trans rfl
theorem f_57_94 : fe0 57 94 = some (.iload 6, 2, 0, 0, 0, 0, 0) := (pg_57 94).trans rfl
theorem f_57_96 : fe0 57 96 = some (.iconst 1, 1, 0, 0, 0, 0, 0) := (pg_57 96).trans rfl
theorem f_57_97 : fe0 57 97 = some (.iload 8, 2, 0, 0, 0, 0, 0) := (pg_57 97).trans rfl
theorem f_57_99 : fe0 57 99 = some (.ishl, 1, 0, 0, 0, 0, 0) := (pg_57 99).trans rfl
theorem f_57_100 : fe0 57 100 = some (.ior, 1, 0, 0, 0, 0, 0) := (pg_57 100).trans rfl
theorem f_57_101 : fe0 57 101 = some (.istore 6, 2, 0, 0, 0, 0, 0) := (pg_57 101).trans rfl
theorem f_57_103 : fe0 57 103 = some (.iinc 7 (-1), 3, 0, 0, 0, 0, 0) := (pg_57 103).trans rfl
theorem f_57_106 : fe0 57 106 = some (.iinc 8 1, 3, 0, 0, 0, 0, 0) := (pg_57 106).trans rfl
theorem f_57_109 : fe0 57 109 = some (.goto (-88), 3, 0, 0, 0, 0, 0) := (pg_57 109).trans rfl
theorem f_57_112 : fe0 57 112 = some (.iload 6, 2, 0, 0, 0, 0, 0) := (pg_57 112).trans rfl
theorem f_57_114 : fe0 57 114 = some (.ireturn, 1, 0, 0, 0, 0, 0) := (pg_57 114).trans rfl
theorem q_57_0 (d : Nat) (l0 : Nat) (l1 : Nat) (x2 : Int32) (x3 : Int32) (x4 : Int32) (x5 : Int32) (μ : aMem) : Rn (d + 1) 57 (0, [.ref l0, .ref l1, .int x2, .int x3, .int x4, .int x5, un, un, un, un], [], μ) = (cI d 230 [.int (x3 &&& (x4 ^^^ (-1)))] μ).bind fun p1 => Rn (d + 1) 57 (21, [.ref l0, .ref l1, .int x2, .int x3, .int x4, .int x5, .int x3, .int (x5 - p1.1), .int 0, un], [], p1.2) :=
  (e_nx f_57_0 rfl).trans ((e_nx (q := (_, [.ref l0, .ref l1, .int x2, .int x3, .int x4, .int x5, .int x3, un, un, un], _, _)) f_57_1 rfl).trans ((e_nx f_57_3 rfl).trans ((e_nx f_57_5 rfl).trans ((e_nx f_57_7 rfl).trans ((e_nx (q := (_, _, .int (-1) :: _, _)) f_57_9 rfl).trans ((e_nx f_57_10 rfl).trans ((e_nx f_57_11 rfl).trans ((e_cI (L := [.ref l0, .ref l1, .int x2, .int x3, .int x4, .int x5, .int x3, un, un, un]) (st := [.int (x3 &&& (x4 ^^^ (-1))), .int x5]) (μ := μ) (L' := [.ref l0, .ref l1, .int x2, .int x3, .int x4, .int x5, .int x3, un, un, un]) (st' := [.int x5]) f_57_12 rfl rfl).trans (m_congr fun p1 => (e_nx f_57_15 rfl).trans ((e_nx (q := (_, [.ref l0, .ref l1, .int x2, .int x3, .int x4, .int x5, .int x3, .int (x5 - p1.1), un, un], _, _)) f_57_16 rfl).trans ((e_nx (q := (_, _, .int 0 :: _, _)) f_57_18 rfl).trans (e_nx (q := (_, [.ref l0, .ref l1, .int x2, .int x3, .int x4, .int x5, .int x3, .int (x5 - p1.1), .int 0, un], _, _)) f_57_19 rfl))))))))))))
theorem q_57_21 (d : Nat) (l0 : Nat) (l1 : Nat) (x2 : Int32) (x3 : Int32) (x4 : Int32) (x5 : Int32) (x6 : Int32) (x7 : Int32) (x8 : Int32) (w9 : Value) (μ : aMem) : Rn (d + 1) 57 (21, [.ref l0, .ref l1, .int x2, .int x3, .int x4, .int x5, .int x6, .int x7, .int x8, w9], [], μ) = if (mS μ l1).1 = 2 then (if (mF μ l1 1) ≤ x8 then (some (some (.int x6), μ)) else (if x7 ≤ 0 then (some (some (.int x6), μ)) else (if (((x6 ||| x4) >>> (x8 &&& 31)) &&& 1) = 0 then (if (1 : Int32) = 0 then (Rn (d + 1) 57 (21, [.ref l0, .ref l1, .int x2, .int x3, .int x4, .int x5, .int x6, .int x7, .int (x8 + 1), .int 1], [], μ)) else (if 12 ≤ (mS μ (mR μ l1 0)).1 ∧ (mS μ (mR μ l1 0)).1 < 16 ∧ inb x8 (mS μ (mR μ l1 0)).2 then (if (mS μ (mR μ (mR μ l1 0) (ix x8))).1 = 1 then (if ((mF μ (mR μ (mR μ l1 0) (ix x8)) 4) &&& (x4 ^^^ (-1))) = 0 then (if (mS μ l0).1 = 4 then ((rdI μ (mR μ l0 0) x8).bind fun v10 => if (mS μ (mR μ l0 5)).1 = 10 ∧ inb x8 (mS μ (mR μ l0 5)).2 then (Rn (d + 1) 57 (21, [.ref l0, .ref l1, .int x2, .int x3, .int x4, .int x5, .int (x6 ||| (1 <<< (x8 &&& 31))), .int (x7 + (-1)), .int (x8 + 1), .int 1], [], setF μ (mR μ l0 5) (ix x8) (x2 + v10))) else none) else none) else (Rn (d + 1) 57 (21, [.ref l0, .ref l1, .int x2, .int x3, .int x4, .int x5, .int x6, .int x7, .int (x8 + 1), .int 1], [], μ))) else none) else none)) else (if (0 : Int32) = 0 then (Rn (d + 1) 57 (21, [.ref l0, .ref l1, .int x2, .int x3, .int x4, .int x5, .int x6, .int x7, .int (x8 + 1), .int 0], [], μ)) else (if 12 ≤ (mS μ (mR μ l1 0)).1 ∧ (mS μ (mR μ l1 0)).1 < 16 ∧ inb x8 (mS μ (mR μ l1 0)).2 then (if (mS μ (mR μ (mR μ l1 0) (ix x8))).1 = 1 then (if ((mF μ (mR μ (mR μ l1 0) (ix x8)) 4) &&& (x4 ^^^ (-1))) = 0 then (if (mS μ l0).1 = 4 then ((rdI μ (mR μ l0 0) x8).bind fun v17 => if (mS μ (mR μ l0 5)).1 = 10 ∧ inb x8 (mS μ (mR μ l0 5)).2 then (Rn (d + 1) 57 (21, [.ref l0, .ref l1, .int x2, .int x3, .int x4, .int x5, .int (x6 ||| (1 <<< (x8 &&& 31))), .int (x7 + (-1)), .int (x8 + 1), .int 0], [], setF μ (mR μ l0 5) (ix x8) (x2 + v17))) else none) else none) else (Rn (d + 1) 57 (21, [.ref l0, .ref l1, .int x2, .int x3, .int x4, .int x5, .int x6, .int x7, .int (x8 + 1), .int 0], [], μ))) else none) else none))))) else none :=
  (e_nx f_57_21 rfl).trans ((e_nx f_57_23 rfl).trans ((e_gd f_57_24 rfl).trans (g_congr (Iff.rfl) (fun h1 => (e_ge f_57_27 rfl).trans (b_congr (fun h2 => (e_nx f_57_112 rfl).trans (e_rt f_57_114 rfl)) (fun h2 => (e_nx f_57_30 rfl).trans ((e_le f_57_32 rfl).trans (b_congr (fun h3 => (e_nx f_57_112 rfl).trans (e_rt f_57_114 rfl)) (fun h3 => (e_nx f_57_35 rfl).trans ((e_nx f_57_37 rfl).trans ((e_nx f_57_39 rfl).trans ((e_nx f_57_40 rfl).trans ((e_nx f_57_42 rfl).trans ((e_nx (q := (_, _, .int 1 :: _, _)) f_57_43 rfl).trans ((e_nx f_57_44 rfl).trans ((e_ne f_57_45 rfl).trans (b_congr (fun h4 => (e_nx (q := (_, _, .int 1 :: _, _)) f_57_48 rfl).trans ((e_nx f_57_49 rfl).trans ((e_nx (q := (_, [.ref l0, .ref l1, .int x2, .int x3, .int x4, .int x5, .int x6, .int x7, .int x8, .int 1], _, _)) f_57_53 rfl).trans ((e_nx f_57_55 rfl).trans ((e_eq f_57_57 rfl).trans (b_congr (fun h5 => (e_nx (q := (_, [.ref l0, .ref l1, .int x2, .int x3, .int x4, .int x5, .int x6, .int x7, .int (x8 + 1), .int 1], _, _)) f_57_106 rfl).trans (e_nx f_57_109 rfl)) (fun h5 => (e_nx f_57_60 rfl).trans ((e_gk f_57_61 (h1) rfl).trans ((e_nx f_57_64 rfl).trans ((e_gd f_57_66 rfl).trans (g_congr (Iff.rfl) (fun h6 => (e_gd f_57_67 rfl).trans (g_congr (Iff.rfl) (fun h7 => (e_nx f_57_70 rfl).trans ((e_nx (q := (_, _, .int (-1) :: _, _)) f_57_72 rfl).trans ((e_nx f_57_73 rfl).trans ((e_nx f_57_74 rfl).trans ((e_ne f_57_75 rfl).trans (b_congr (fun h8 => (e_nx f_57_78 rfl).trans ((e_gd f_57_79 rfl).trans (g_congr (Iff.rfl) (fun h9 => (e_nx f_57_82 rfl).trans ((e_nx f_57_84 rfl).trans ((e_nx f_57_85 rfl).trans ((e_gk f_57_86 (h9) rfl).trans ((e_nx f_57_89 rfl).trans ((e_ia (L := [.ref l0, .ref l1, .int x2, .int x3, .int x4, .int x5, .int x6, .int x7, .int x8, .int 1]) (r := [.int x2, .int x8, .ref (mR μ l0 5)]) (μ := μ) f_57_91).trans (m_congr fun v10 => (e_nx f_57_92 rfl).trans ((e_gd f_57_93 rfl).trans (g_congr (Iff.rfl) (fun h11 => (e_nx f_57_94 rfl).trans ((e_nx (q := (_, _, .int 1 :: _, _)) f_57_96 rfl).trans ((e_nx f_57_97 rfl).trans ((e_nx f_57_99 rfl).trans ((e_nx f_57_100 rfl).trans ((e_nx (q := (_, [.ref l0, .ref l1, .int x2, .int x3, .int x4, .int x5, .int (x6 ||| (1 <<< (x8 &&& 31))), .int x7, .int x8, .int 1], _, _)) f_57_101 rfl).trans ((e_nx (q := (_, [.ref l0, .ref l1, .int x2, .int x3, .int x4, .int x5, .int (x6 ||| (1 <<< (x8 &&& 31))), .int (x7 + (-1)), .int x8, .int 1], _, _)) f_57_103 rfl).trans ((e_nx (q := (_, [.ref l0, .ref l1, .int x2, .int x3, .int x4, .int x5, .int (x6 ||| (1 <<< (x8 &&& 31))), .int (x7 + (-1)), .int (x8 + 1), .int 1], _, _)) f_57_106 rfl).trans (e_nx f_57_109 rfl))))))))))))))))))))) (fun h8 => (e_nx (q := (_, [.ref l0, .ref l1, .int x2, .int x3, .int x4, .int x5, .int x6, .int x7, .int (x8 + 1), .int 1], _, _)) f_57_106 rfl).trans (e_nx f_57_109 rfl))))))))))))))))))))) (fun h4 => (e_nx (q := (_, _, .int 0 :: _, _)) f_57_52 rfl).trans ((e_nx (q := (_, [.ref l0, .ref l1, .int x2, .int x3, .int x4, .int x5, .int x6, .int x7, .int x8, .int 0], _, _)) f_57_53 rfl).trans ((e_nx f_57_55 rfl).trans ((e_eq f_57_57 rfl).trans (b_congr (fun h12 => (e_nx (q := (_, [.ref l0, .ref l1, .int x2, .int x3, .int x4, .int x5, .int x6, .int x7, .int (x8 + 1), .int 0], _, _)) f_57_106 rfl).trans (e_nx f_57_109 rfl)) (fun h12 => (e_nx f_57_60 rfl).trans ((e_gk f_57_61 (h1) rfl).trans ((e_nx f_57_64 rfl).trans ((e_gd f_57_66 rfl).trans (g_congr (Iff.rfl) (fun h13 => (e_gd f_57_67 rfl).trans (g_congr (Iff.rfl) (fun h14 => (e_nx f_57_70 rfl).trans ((e_nx (q := (_, _, .int (-1) :: _, _)) f_57_72 rfl).trans ((e_nx f_57_73 rfl).trans ((e_nx f_57_74 rfl).trans ((e_ne f_57_75 rfl).trans (b_congr (fun h15 => (e_nx f_57_78 rfl).trans ((e_gd f_57_79 rfl).trans (g_congr (Iff.rfl) (fun h16 => (e_nx f_57_82 rfl).trans ((e_nx f_57_84 rfl).trans ((e_nx f_57_85 rfl).trans ((e_gk f_57_86 (h16) rfl).trans ((e_nx f_57_89 rfl).trans ((e_ia (L := [.ref l0, .ref l1, .int x2, .int x3, .int x4, .int x5, .int x6, .int x7, .int x8, .int 0]) (r := [.int x2, .int x8, .ref (mR μ l0 5)]) (μ := μ) f_57_91).trans (m_congr fun v17 => (e_nx f_57_92 rfl).trans ((e_gd f_57_93 rfl).trans (g_congr (Iff.rfl) (fun h18 => (e_nx f_57_94 rfl).trans ((e_nx (q := (_, _, .int 1 :: _, _)) f_57_96 rfl).trans ((e_nx f_57_97 rfl).trans ((e_nx f_57_99 rfl).trans ((e_nx f_57_100 rfl).trans ((e_nx (q := (_, [.ref l0, .ref l1, .int x2, .int x3, .int x4, .int x5, .int (x6 ||| (1 <<< (x8 &&& 31))), .int x7, .int x8, .int 0], _, _)) f_57_101 rfl).trans ((e_nx (q := (_, [.ref l0, .ref l1, .int x2, .int x3, .int x4, .int x5, .int (x6 ||| (1 <<< (x8 &&& 31))), .int (x7 + (-1)), .int x8, .int 0], _, _)) f_57_103 rfl).trans ((e_nx (q := (_, [.ref l0, .ref l1, .int x2, .int x3, .int x4, .int x5, .int (x6 ||| (1 <<< (x8 &&& 31))), .int (x7 + (-1)), .int (x8 + 1), .int 0], _, _)) f_57_106 rfl).trans (e_nx f_57_109 rfl))))))))))))))))))))) (fun h15 => (e_nx (q := (_, [.ref l0, .ref l1, .int x2, .int x3, .int x4, .int x5, .int x6, .int x7, .int (x8 + 1), .int 0], _, _)) f_57_106 rfl).trans (e_nx f_57_109 rfl)))))))))))))))))))))))))))))))))))))
theorem pg_58 (pc : Nat) : fe0 58 pc = lk prg_58 pc := rfl
theorem f_58_0 : fe0 58 0 = some (.iload 4, 2, 0, 0, 0, 0, 0) := (pg_58 0).trans rfl
theorem f_58_2 : fe0 58 2 = some (.iload_n 2, 1, 0, 0, 0, 0, 0) := (pg_58 2).trans rfl
theorem f_58_3 : fe0 58 3 = some (.if_icmp .le 8, 3, 0, 0, 0, 0, 0) := (pg_58 3).trans rfl
theorem f_58_6 : fe0 58 6 = some (.iload 4, 2, 0, 0, 0, 0, 0) := (pg_58 6).trans rfl
theorem f_58_8 : fe0 58 8 = some (.goto 5, 3, 0, 0, 0, 0, 0) := (pg_58 8).trans rfl
theorem f_58_11 : fe0 58 11 = some (.ldc 150, 2, 0, 0, 1000000, 0, 3032) := (pg_58 11).trans rfl
theorem f_58_13 : fe0 58 13 = some (.istore 5, 2, 0, 0, 0, 0, 0) := (pg_58 13).trans rfl
theorem f_58_15 : fe0 58 15 = some (.iconst 0, 1, 0, 0, 0, 0, 0) := (pg_58 15).trans rfl
theorem f_58_16 : fe0 58 16 = some (.istore 6, 2, 0, 0, 0, 0, 0) := (pg_58 16).trans rfl
theorem f_58_18 : fe0 58 18 = some (.iload 6, 2, 0, 0, 0, 0, 0) := (pg_58 18).trans rfl
theorem f_58_20 : fe0 58 20 = some (.aload_n 1, 1, 0, 0, 0, 0, 0) := (pg_58 20).trans rfl
theorem f_58_21 : fe0 58 21 = some (.getfield 115, 3, 2, 1, 0, 0, 1102) := (pg_58 21).trans rfl
theorem f_58_24 : fe0 58 24 = some (.if_icmp .ge 32, 3, 0, 0, 0, 0, 0) := (pg_58 24).trans rfl
theorem f_58_27 : fe0 58 27 = some (.iload_n 3, 1, 0, 0, 0, 0, 0) := (pg_58 27).trans rfl
theorem f_58_28 : fe0 58 28 = some (.iload 6, 2, 0, 0, 0, 0, 0) := (pg_58 28).trans rfl
theorem f_58_30 : fe0 58 30 = some (.ishr, 1, 0, 0, 0, 0, 0) := (pg_58 30).trans rfl
theorem f_58_31 : fe0 58 31 = some (.iconst 1, 1, 0, 0, 0, 0, 0) := (pg_58 31).trans rfl
theorem f_58_32 : fe0 58 32 = some (.iand, 1, 0, 0, 0, 0, 0) := (pg_58 32).trans rfl
theorem f_58_33 : fe0 58 33 = some (.ifCond .eq 17, 3, 0, 0, 0, 0, 0) := (pg_58 33).trans rfl
theorem f_58_36 : fe0 58 36 = some (.iload 5, 2, 0, 0, 0, 0, 0) := (pg_58 36).trans rfl
theorem f_58_38 : fe0 58 38 = some (.aload_n 0, 1, 0, 0, 0, 0, 0) := (pg_58 38).trans rfl
theorem f_58_39 : fe0 58 39 = some (.getfield 27, 3, 4, 5, 1, 0, 1140) := (pg_58 39).trans rfl
theorem f_58_42 : fe0 58 42 = some (.iload 6, 2, 0, 0, 0, 0, 0) := (pg_58 42).trans rfl
theorem f_58_44 : fe0 58 44 = some (.iaload, 1, 0, 0, 0, 0, 0) := (pg_58 44).trans rfl
theorem f_58_45 : fe0 58 45 = some (.invokestatic 82, 3, 0, 0, 8, 0, 2108) := (pg_58 45).trans rfl
theorem f_58_48 : fe0 58 48 = some (.istore 5, 2, 0, 0, 0, 0, 0) := (pg_58 48).trans rfl
theorem f_58_50 : fe0 58 50 = some (.iinc 6 1, 3, 0, 0, 0, 0, 0) := (pg_58 50).trans rfl
theorem f_58_53 : fe0 58 53 = some (.goto (-35), 3, 0, 0, 0, 0, 0) := (pg_58 53).trans rfl
theorem f_58_56 : fe0 58 56 = some (.iload 5, 2, 0, 0, 0, 0, 0) := (pg_58 56).trans rfl
theorem f_58_58 : fe0 58 58 = some (.ireturn, 1, 0, 0, 0, 0, 0) := (pg_58 58).trans rfl
theorem q_58_0 (d : Nat) (l0 : Nat) (l1 : Nat) (x2 : Int32) (x3 : Int32) (x4 : Int32) (μ : aMem) : Rn d 58 (0, [.ref l0, .ref l1, .int x2, .int x3, .int x4, un, un], [], μ) = if x4 ≤ x2 then (Rn d 58 (18, [.ref l0, .ref l1, .int x2, .int x3, .int x4, .int 1000000, .int 0], [], μ)) else (Rn d 58 (18, [.ref l0, .ref l1, .int x2, .int x3, .int x4, .int x4, .int 0], [], μ)) :=
  (e_nx f_58_0 rfl).trans ((e_nx f_58_2 rfl).trans ((e_le f_58_3 rfl).trans (b_congr (fun h1 => (e_nx (q := (_, _, .int 1000000 :: _, _)) f_58_11 rfl).trans ((e_nx (q := (_, [.ref l0, .ref l1, .int x2, .int x3, .int x4, .int 1000000, un], _, _)) f_58_13 rfl).trans ((e_nx (q := (_, _, .int 0 :: _, _)) f_58_15 rfl).trans (e_nx (q := (_, [.ref l0, .ref l1, .int x2, .int x3, .int x4, .int 1000000, .int 0], _, _)) f_58_16 rfl)))) (fun h1 => (e_nx f_58_6 rfl).trans ((e_nx f_58_8 rfl).trans ((e_nx (q := (_, [.ref l0, .ref l1, .int x2, .int x3, .int x4, .int x4, un], _, _)) f_58_13 rfl).trans ((e_nx (q := (_, _, .int 0 :: _, _)) f_58_15 rfl).trans (e_nx (q := (_, [.ref l0, .ref l1, .int x2, .int x3, .int x4, .int x4, .int 0], _, _)) f_58_16 rfl))))))))
theorem q_58_18 (d : Nat) (l0 : Nat) (l1 : Nat) (x2 : Int32) (x3 : Int32) (x4 : Int32) (x5 : Int32) (x6 : Int32) (μ : aMem) : Rn d 58 (18, [.ref l0, .ref l1, .int x2, .int x3, .int x4, .int x5, .int x6], [], μ) = if (mS μ l1).1 = 2 then (if (mF μ l1 1) ≤ x6 then (some (some (.int x5), μ)) else (if ((x3 >>> (x6 &&& 31)) &&& 1) = 0 then (Rn d 58 (18, [.ref l0, .ref l1, .int x2, .int x3, .int x4, .int x5, .int (x6 + 1)], [], μ)) else (if (mS μ l0).1 = 4 then ((rdI μ (mR μ l0 5) x6).bind fun v5 => Rn d 58 (18, [.ref l0, .ref l1, .int x2, .int x3, .int x4, .int (if v5 < x5 then v5 else x5), .int (x6 + 1)], [], μ)) else none))) else none :=
  (e_nx f_58_18 rfl).trans ((e_nx f_58_20 rfl).trans ((e_gd f_58_21 rfl).trans (g_congr (Iff.rfl) (fun h1 => (e_ge f_58_24 rfl).trans (b_congr (fun h2 => (e_nx f_58_56 rfl).trans (e_rt f_58_58 rfl)) (fun h2 => (e_nx f_58_27 rfl).trans ((e_nx f_58_28 rfl).trans ((e_nx f_58_30 rfl).trans ((e_nx (q := (_, _, .int 1 :: _, _)) f_58_31 rfl).trans ((e_nx f_58_32 rfl).trans ((e_eq f_58_33 rfl).trans (b_congr (fun h3 => (e_nx (q := (_, [.ref l0, .ref l1, .int x2, .int x3, .int x4, .int x5, .int (x6 + 1)], _, _)) f_58_50 rfl).trans (e_nx f_58_53 rfl)) (fun h3 => (e_nx f_58_36 rfl).trans ((e_nx f_58_38 rfl).trans ((e_gd f_58_39 rfl).trans (g_congr (Iff.rfl) (fun h4 => (e_nx f_58_42 rfl).trans ((e_ia (L := [.ref l0, .ref l1, .int x2, .int x3, .int x4, .int x5, .int x6]) (r := [.int x5]) (μ := μ) f_58_44).trans (m_congr fun v5 => (e_nx f_58_45 rfl).trans ((e_nx (q := (_, [.ref l0, .ref l1, .int x2, .int x3, .int x4, .int (if v5 < x5 then v5 else x5), .int x6], _, _)) f_58_48 rfl).trans ((e_nx (q := (_, [.ref l0, .ref l1, .int x2, .int x3, .int x4, .int (if v5 < x5 then v5 else x5), .int (x6 + 1)], _, _)) f_58_50 rfl).trans (e_nx f_58_53 rfl))))))))))))))))))))))
theorem pg_59 (pc : Nat) : fe0 59 pc = lk prg_59 pc := rfl
theorem f_59_0 : fe0 59 0 = some (.aload_n 0, 1, 0, 0, 0, 0, 0) := (pg_59 0).trans rfl
theorem f_59_1 : fe0 59 1 = some (.getfield 33, 3, 4, 7, 1, 0, 1142) := (pg_59 1).trans rfl
theorem f_59_4 : fe0 59 4 = some (.lconst 0, 1, 0, 0, 0, 0, 0) := (pg_59 4).trans rfl
theorem f_59_5 : fe0 59 5 = some (.invokestatic 151, 3, 232, 2, 2, 0, 3050) := (pg_59 5).trans rfl
theorem f_59_8 : fe0 59 8 = some (.iconst 0, 1, 0, 0, 0, 0, 0) := (pg_59 8).trans rfl
theorem f_59_9 : fe0 59 9 = some (.istore_n 2, 1, 0, 0, 0, 0, 0) := (pg_59 9).trans rfl
theorem f_59_10 : fe0 59 10 = some (.iload_n 2, 1, 0, 0, 0, 0, 0) := (pg_59 10).trans rfl
theorem f_59_11 : fe0 59 11 = some (.aload_n 1, 1, 0, 0, 0, 0, 0) := (pg_59 11).trans rfl
theorem f_59_12 : fe0 59 12 = some (.getfield 115, 3, 2, 1, 0, 0, 1102) := (pg_59 12).trans rfl
theorem f_59_15 : fe0 59 15 = some (.if_icmp .ge 26, 3, 0, 0, 0, 0, 0) := (pg_59 15).trans rfl
theorem f_59_18 : fe0 59 18 = some (.aload_n 0, 1, 0, 0, 0, 0, 0) := (pg_59 18).trans rfl
theorem f_59_19 : fe0 59 19 = some (.getfield 15, 3, 4, 1, 1, 0, 1136) := (pg_59 19).trans rfl
theorem f_59_22 : fe0 59 22 = some (.iload_n 2, 1, 0, 0, 0, 0, 0) := (pg_59 22).trans rfl
theorem f_59_23 : fe0 59 23 = some (.aload_n 0, 1, 0, 0, 0, 0, 0) := (pg_59 23).trans rfl
theorem f_59_24 : fe0 59 24 = some (.aload_n 1, 1, 0, 0, 0, 0, 0) := (pg_59 24).trans rfl
theorem f_59_25 : fe0 59 25 = some (.aload_n 1, 1, 0, 0, 0, 0, 0) := (pg_59 25).trans rfl
theorem f_59_26 : fe0 59 26 = some (.getfield 108, 3, 2, 0, 1, 0, 1099) := (pg_59 26).trans rfl
theorem f_59_29 : fe0 59 29 = some (.iload_n 2, 1, 0, 0, 0, 0, 0) := (pg_59 29).trans rfl
theorem f_59_30 : fe0 59 30 = some (.aaload, 1, 0, 0, 0, 0, 0) := (pg_59 30).trans rfl
theorem f_59_31 : fe0 59 31 = some (.invokevirtual 125, 3, 44, 2, 0, 4, 2139) := (pg_59 31).trans rfl
theorem f_59_34 : fe0 59 34 = some (.iastore, 1, 0, 0, 0, 0, 0) := (pg_59 34).trans rfl
theorem f_59_35 : fe0 59 35 = some (.iinc 2 1, 3, 0, 0, 0, 0, 0) := (pg_59 35).trans rfl
theorem f_59_38 : fe0 59 38 = some (.goto (-28), 3, 0, 0, 0, 0, 0) := (pg_59 38).trans rfl
theorem f_59_41 : fe0 59 41 = some (.aload_n 0, 1, 0, 0, 0, 0, 0) := (pg_59 41).trans rfl
theorem f_59_42 : fe0 59 42 = some (.aload_n 1, 1, 0, 0, 0, 0, 0) := (pg_59 42).trans rfl
theorem f_59_43 : fe0 59 43 = some (.iconst 0, 1, 0, 0, 0, 0, 0) := (pg_59 43).trans rfl
theorem f_59_44 : fe0 59 44 = some (.iconst 0, 1, 0, 0, 0, 0, 0) := (pg_59 44).trans rfl
theorem f_59_45 : fe0 59 45 = some (.lconst 1, 1, 0, 0, 0, 0, 0) := (pg_59 45).trans rfl
theorem f_59_46 : fe0 59 46 = some (.invokestatic 157, 3, 60, 5, 2, 0, 3053) := (pg_59 46).trans rfl
theorem f_59_49 : fe0 59 49 = some (.return_, 1, 0, 0, 0, 0, 0) := (pg_59 49).trans rfl
theorem q_59_0 (d : Nat) (l0 : Nat) (l1 : Nat) (μ : aMem) : Rn (d + 1) 59 (0, [.ref l0, .ref l1, un], [], μ) = if (mS μ l0).1 = 4 then ((cV d 232 [.ref (mR μ l0 7), .long 0] μ).bind fun p2 => Rn (d + 1) 59 (10, [.ref l0, .ref l1, .int 0], [], p2)) else none :=
  (e_nx f_59_0 rfl).trans ((e_gd f_59_1 rfl).trans (g_congr (Iff.rfl) (fun h1 => (e_nx (q := (_, _, .long 0 :: _, _)) f_59_4 rfl).trans ((e_cV (L := [.ref l0, .ref l1, un]) (st := [.long 0, .ref (mR μ l0 7)]) (μ := μ) (L' := [.ref l0, .ref l1, un]) (st' := []) f_59_5 rfl rfl).trans (m_congr fun p2 => (e_nx (q := (_, _, .int 0 :: _, _)) f_59_8 rfl).trans (e_nx (q := (_, [.ref l0, .ref l1, .int 0], _, _)) f_59_9 rfl))))))
theorem q_59_10 (d : Nat) (l0 : Nat) (l1 : Nat) (x2 : Int32) (μ : aMem) : Rn (d + 1) 59 (10, [.ref l0, .ref l1, .int x2], [], μ) = if (mS μ l1).1 = 2 then (if (mF μ l1 1) ≤ x2 then ((cV d 60 [.ref l0, .ref l1, .int 0, .int 0, .long 1] μ).bind fun p3 => some (none, p3)) else (if (mS μ l0).1 = 4 then (if 12 ≤ (mS μ (mR μ l1 0)).1 ∧ (mS μ (mR μ l1 0)).1 < 16 ∧ inb x2 (mS μ (mR μ l1 0)).2 then (if (mS μ l0).1 = 4 ∧ l0 < 999999 then ((cI d 44 [.ref l0, .ref l1, .ref (mR μ (mR μ l1 0) (ix x2))] μ).bind fun p6 => if (mS p6.2 (mR μ l0 1)).1 = 10 ∧ inb x2 (mS p6.2 (mR μ l0 1)).2 then (Rn (d + 1) 59 (10, [.ref l0, .ref l1, .int (x2 + 1)], [], setF p6.2 (mR μ l0 1) (ix x2) p6.1)) else none) else none) else none) else none)) else none :=
  (e_nx f_59_10 rfl).trans ((e_nx f_59_11 rfl).trans ((e_gd f_59_12 rfl).trans (g_congr (Iff.rfl) (fun h1 => (e_ge f_59_15 rfl).trans (b_congr (fun h2 => (e_nx f_59_41 rfl).trans ((e_nx f_59_42 rfl).trans ((e_nx (q := (_, _, .int 0 :: _, _)) f_59_43 rfl).trans ((e_nx (q := (_, _, .int 0 :: _, _)) f_59_44 rfl).trans ((e_nx (q := (_, _, .long 1 :: _, _)) f_59_45 rfl).trans ((e_cV (L := [.ref l0, .ref l1, .int x2]) (st := [.long 1, .int 0, .int 0, .ref l1, .ref l0]) (μ := μ) (L' := [.ref l0, .ref l1, .int x2]) (st' := []) f_59_46 rfl rfl).trans (m_congr fun p3 => e_rt f_59_49 rfl))))))) (fun h2 => (e_nx f_59_18 rfl).trans ((e_gd f_59_19 rfl).trans (g_congr (Iff.rfl) (fun h4 => (e_nx f_59_22 rfl).trans ((e_nx f_59_23 rfl).trans ((e_nx f_59_24 rfl).trans ((e_nx f_59_25 rfl).trans ((e_gk f_59_26 (h1) rfl).trans ((e_nx f_59_29 rfl).trans ((e_gd f_59_30 rfl).trans (g_congr (Iff.rfl) (fun h5 => (e_gI (L := [.ref l0, .ref l1, .int x2]) (st := [.ref (mR μ (mR μ l1 0) (ix x2)), .ref l1, .ref l0, .int x2, .ref (mR μ l0 1)]) (μ := μ) (L' := [.ref l0, .ref l1, .int x2]) (st' := [.int x2, .ref (mR μ l0 1)]) f_59_31 rfl rfl).trans (g_congr (v_c2 rfl (Nat.le_of_ble_eq_true rfl)) (fun h7 => m_congr fun p6 => (e_gd f_59_34 rfl).trans (g_congr (Iff.rfl) (fun h8 => (e_nx (q := (_, [.ref l0, .ref l1, .int (x2 + 1)], _, _)) f_59_35 rfl).trans (e_nx f_59_38 rfl))))))))))))))))))))))
theorem pg_60 (pc : Nat) : fe0 60 pc = lk prg_60 pc := rfl
theorem f_60_0 : fe0 60 0 = some (.iload_n 2, 1, 0, 0, 0, 0, 0) := (pg_60 0).trans rfl
theorem f_60_1 : fe0 60 1 = some (.aload_n 1, 1, 0, 0, 0, 0, 0) := (pg_60 1).trans rfl
theorem f_60_2 : fe0 60 2 = some (.getfield 115, 3, 2, 1, 0, 0, 1102) := (pg_60 2).trans rfl
theorem f_60_5 : fe0 60 5 = some (.if_icmp .lt 26, 3, 0, 0, 0, 0, 0) := (pg_60 5).trans rfl
theorem f_60_8 : fe0 60 8 = some (.iload_n 3, 1, 0, 0, 0, 0, 0) := (pg_60 8).trans rfl
theorem f_60_9 : fe0 60 9 = some (.ifCond .lt 21, 3, 0, 0, 0, 0, 0) := (pg_60 9).trans rfl
theorem f_60_12 : fe0 60 12 = some (.iload_n 3, 1, 0, 0, 0, 0, 0) := (pg_60 12).trans rfl
theorem f_60_13 : fe0 60 13 = some (.sipush 2980, 3, 0, 0, 0, 0, 0) := (pg_60 13).trans rfl
theorem f_60_16 : fe0 60 16 = some (.if_icmp .gt 14, 3, 0, 0, 0, 0, 0) := (pg_60 16).trans rfl
theorem f_60_19 : fe0 60 19 = some (.aload_n 0, 1, 0, 0, 0, 0, 0) := (pg_60 19).trans rfl
theorem f_60_20 : fe0 60 20 = some (.getfield 33, 3, 4, 7, 1, 0, 1142) := (pg_60 20).trans rfl
theorem f_60_23 : fe0 60 23 = some (.iload_n 3, 1, 0, 0, 0, 0, 0) := (pg_60 23).trans rfl
theorem f_60_24 : fe0 60 24 = some (.dup2, 1, 0, 0, 0, 0, 0) := (pg_60 24).trans rfl
theorem f_60_25 : fe0 60 25 = some (.laload, 1, 0, 0, 0, 0, 0) := (pg_60 25).trans rfl
theorem f_60_26 : fe0 60 26 = some (.lload 4, 2, 0, 0, 0, 0, 0) := (pg_60 26).trans rfl
theorem f_60_28 : fe0 60 28 = some (.ladd, 1, 0, 0, 0, 0, 0) := (pg_60 28).trans rfl
theorem f_60_29 : fe0 60 29 = some (.lastore, 1, 0, 0, 0, 0, 0) := (pg_60 29).trans rfl
theorem f_60_30 : fe0 60 30 = some (.return_, 1, 0, 0, 0, 0, 0) := (pg_60 30).trans rfl
theorem f_60_31 : fe0 60 31 = some (.aload_n 1, 1, 0, 0, 0, 0, 0) := (pg_60 31).trans rfl
theorem f_60_32 : fe0 60 32 = some (.getfield 108, 3, 2, 0, 1, 0, 1099) := (pg_60 32).trans rfl
theorem f_60_35 : fe0 60 35 = some (.iload_n 2, 1, 0, 0, 0, 0, 0) := (pg_60 35).trans rfl
theorem f_60_36 : fe0 60 36 = some (.aaload, 1, 0, 0, 0, 0, 0) := (pg_60 36).trans rfl
theorem f_60_37 : fe0 60 37 = some (.astore 6, 2, 0, 0, 0, 0, 0) := (pg_60 37).trans rfl
theorem f_60_39 : fe0 60 39 = some (.aload_n 0, 1, 0, 0, 0, 0, 0) := (pg_60 39).trans rfl
theorem f_60_40 : fe0 60 40 = some (.aload_n 1, 1, 0, 0, 0, 0, 0) := (pg_60 40).trans rfl
theorem f_60_41 : fe0 60 41 = some (.iload_n 2, 1, 0, 0, 0, 0, 0) := (pg_60 41).trans rfl
theorem f_60_42 : fe0 60 42 = some (.invokevirtual 118, 3, 45, 2, 0, 4, 2144) := (pg_60 42).trans rfl
theorem f_60_45 : fe0 60 45 = some (.istore 7, 2, 0, 0, 0, 0, 0) := (pg_60 45).trans rfl
theorem f_60_47 : fe0 60 47 = some (.aload 6, 2, 0, 0, 0, 0, 0) := (pg_60 47).trans rfl
theorem f_60_49 : fe0 60 49 = some (.getfield 58, 3, 1, 2, 0, 0, 1074) := (pg_60 49).trans rfl
theorem f_60_52 : fe0 60 52 = some (.bipush 10, 2, 0, 0, 0, 0, 0) := (pg_60 52).trans rfl
theorem f_60_54 : fe0 60 54 = some (.if_icmp .ge 47, 3, 0, 0, 0, 0, 0) := (pg_60 54).trans rfl
theorem f_60_57 : fe0 60 57 = some (.aload_n 0, 1, 0, 0, 0, 0, 0) := (pg_60 57).trans rfl
theorem f_60_58 : fe0 60 58 = some (.getfield 21, 3, 4, 3, 1, 0, 1138) := (pg_60 58).trans rfl
theorem f_60_61 : fe0 60 61 = some (.iload_n 2, 1, 0, 0, 0, 0, 0) := (pg_60 61).trans rfl
theorem f_60_62 : fe0 60 62 = some (.iload 7, 2, 0, 0, 0, 0, 0) := (pg_60 62).trans rfl
theorem f_60_64 : fe0 60 64 = some (.aload 6, 2, 0, 0, 0, 0, 0) := (pg_60 64).trans rfl
theorem f_60_66 : fe0 60 66 = some (.invokevirtual 161, 3, 9, 0, 0, 1, 3056) := (pg_60 66).trans rfl
theorem f_60_69 : fe0 60 69 = some (.iadd, 1, 0, 0, 0, 0, 0) := (pg_60 69).trans rfl
theorem f_60_70 : fe0 60 70 = some (.iastore, 1, 0, 0, 0, 0, 0) := (pg_60 70).trans rfl
theorem f_60_71 : fe0 60 71 = some (.aload_n 0, 1, 0, 0, 0, 0, 0) := (pg_60 71).trans rfl
theorem f_60_72 : fe0 60 72 = some (.aload_n 1, 1, 0, 0, 0, 0, 0) := (pg_60 72).trans rfl
theorem f_60_73 : fe0 60 73 = some (.iload_n 2, 1, 0, 0, 0, 0, 0) := (pg_60 73).trans rfl
theorem f_60_74 : fe0 60 74 = some (.iconst 1, 1, 0, 0, 0, 0, 0) := (pg_60 74).trans rfl
theorem f_60_75 : fe0 60 75 = some (.iadd, 1, 0, 0, 0, 0, 0) := (pg_60 75).trans rfl
theorem f_60_76 : fe0 60 76 = some (.iload_n 3, 1, 0, 0, 0, 0, 0) := (pg_60 76).trans rfl
theorem f_60_77 : fe0 60 77 = some (.aload_n 0, 1, 0, 0, 0, 0, 0) := (pg_60 77).trans rfl
theorem f_60_78 : fe0 60 78 = some (.getfield 21, 3, 4, 3, 1, 0, 1138) := (pg_60 78).trans rfl
theorem f_60_81 : fe0 60 81 = some (.iload_n 2, 1, 0, 0, 0, 0, 0) := (pg_60 81).trans rfl
theorem f_60_82 : fe0 60 82 = some (.iaload, 1, 0, 0, 0, 0, 0) := (pg_60 82).trans rfl
theorem f_60_83 : fe0 60 83 = some (.invokestatic 112, 3, 0, 0, 7, 0, 2148) := (pg_60 83).trans rfl
theorem f_60_86 : fe0 60 86 = some (.lload 4, 2, 0, 0, 0, 0, 0) := (pg_60 86).trans rfl
theorem f_60_88 : fe0 60 88 = some (.bipush 10, 2, 0, 0, 0, 0, 0) := (pg_60 88).trans rfl
theorem f_60_90 : fe0 60 90 = some (.aload 6, 2, 0, 0, 0, 0, 0) := (pg_60 90).trans rfl
theorem f_60_92 : fe0 60 92 = some (.getfield 58, 3, 1, 2, 0, 0, 1074) := (pg_60 92).trans rfl
theorem f_60_95 : fe0 60 95 = some (.isub, 1, 0, 0, 0, 0, 0) := (pg_60 95).trans rfl
theorem f_60_96 : fe0 60 96 = some (.i2l, 1, 0, 0, 0, 0, 0) := (pg_60 96).trans rfl
theorem f_60_97 : fe0 60 97 = some (.lmul, 1, 0, 0, 0, 0, 0) := (pg_60 97).trans rfl
theorem f_60_98 : fe0 60 98 = some (.invokestatic 157, 3, 60, 5, 2, 0, 3053) := (pg_60 98).trans rfl
theorem f_60_101 : fe0 60 101 = some (.aload 6, 2, 0, 0, 0, 0, 0) := (pg_60 101).trans rfl
theorem f_60_103 : fe0 60 103 = some (.getfield 58, 3, 1, 2, 0, 0, 1074) := (pg_60 103).trans rfl
theorem f_60_106 : fe0 60 106 = some (.ifCond .le 44, 3, 0, 0, 0, 0, 0) := (pg_60 106).trans rfl
theorem f_60_109 : fe0 60 109 = some (.aload_n 0, 1, 0, 0, 0, 0, 0) := (pg_60 109).trans rfl
theorem f_60_110 : fe0 60 110 = some (.getfield 21, 3, 4, 3, 1, 0, 1138) := (pg_60 110).trans rfl
theorem f_60_113 : fe0 60 113 = some (.iload_n 2, 1, 0, 0, 0, 0, 0) := (pg_60 113).trans rfl
theorem f_60_114 : fe0 60 114 = some (.iload 7, 2, 0, 0, 0, 0, 0) := (pg_60 114).trans rfl
theorem f_60_116 : fe0 60 116 = some (.aload 6, 2, 0, 0, 0, 0, 0) := (pg_60 116).trans rfl
theorem f_60_118 : fe0 60 118 = some (.invokevirtual 165, 3, 10, 0, 0, 1, 3060) := (pg_60 118).trans rfl
theorem f_60_121 : fe0 60 121 = some (.iadd, 1, 0, 0, 0, 0, 0) := (pg_60 121).trans rfl
theorem f_60_122 : fe0 60 122 = some (.iastore, 1, 0, 0, 0, 0, 0) := (pg_60 122).trans rfl
theorem f_60_123 : fe0 60 123 = some (.aload_n 0, 1, 0, 0, 0, 0, 0) := (pg_60 123).trans rfl
theorem f_60_124 : fe0 60 124 = some (.aload_n 1, 1, 0, 0, 0, 0, 0) := (pg_60 124).trans rfl
theorem f_60_125 : fe0 60 125 = some (.iload_n 2, 1, 0, 0, 0, 0, 0) := (pg_60 125).trans rfl
theorem f_60_126 : fe0 60 126 = some (.iconst 1, 1, 0, 0, 0, 0, 0) := (pg_60 126).trans rfl
theorem f_60_127 : fe0 60 127 = some (.iadd, 1, 0, 0, 0, 0, 0) := (pg_60 127).trans rfl
theorem f_60_128 : fe0 60 128 = some (.iload_n 3, 1, 0, 0, 0, 0, 0) := (pg_60 128).trans rfl
theorem f_60_129 : fe0 60 129 = some (.aload_n 0, 1, 0, 0, 0, 0, 0) := (pg_60 129).trans rfl
theorem f_60_130 : fe0 60 130 = some (.getfield 21, 3, 4, 3, 1, 0, 1138) := (pg_60 130).trans rfl
theorem f_60_133 : fe0 60 133 = some (.iload_n 2, 1, 0, 0, 0, 0, 0) := (pg_60 133).trans rfl
theorem f_60_134 : fe0 60 134 = some (.iaload, 1, 0, 0, 0, 0, 0) := (pg_60 134).trans rfl
theorem f_60_135 : fe0 60 135 = some (.invokestatic 112, 3, 0, 0, 7, 0, 2148) := (pg_60 135).trans rfl
theorem f_60_138 : fe0 60 138 = some (.lload 4, 2, 0, 0, 0, 0, 0) := (pg_60 138).trans rfl
theorem f_60_140 : fe0 60 140 = some (.aload 6, 2, 0, 0, 0, 0, 0) := (pg_60 140).trans rfl
theorem f_60_142 : fe0 60 142 = some (.getfield 58, 3, 1, 2, 0, 0, 1074) := (pg_60 142).trans rfl
theorem f_60_145 : fe0 60 145 = some (.i2l, 1, 0, 0, 0, 0, 0) := (pg_60 145).trans rfl
theorem f_60_146 : fe0 60 146 = some (.lmul, 1, 0, 0, 0, 0, 0) := (pg_60 146).trans rfl
theorem f_60_147 : fe0 60 147 = some (.invokestatic 157, 3, 60, 5, 2, 0, 3053) := (pg_60 147).trans rfl
theorem f_60_150 : fe0 60 150 = some (.return_, 1, 0, 0, 0, 0, 0) := (pg_60 150).trans rfl
theorem q_60_0 (d : Nat) (l0 : Nat) (l1 : Nat) (x2 : Int32) (x3 : Int32) (j4 : Int64) (μ : aMem) : Rn (d + 1) 60 (0, [.ref l0, .ref l1, .int x2, .int x3, .long j4, un, un, un], [], μ) = if (mS μ l1).1 = 2 then (if x2 < (mF μ l1 1) then (if 12 ≤ (mS μ (mR μ l1 0)).1 ∧ (mS μ (mR μ l1 0)).1 < 16 ∧ inb x2 (mS μ (mR μ l1 0)).2 then (if (mS μ l0).1 = 4 ∧ l0 < 999999 then ((cI d 45 [.ref l0, .ref l1, .int x2] μ).bind fun p4 => if (mS p4.2 (mR μ (mR μ l1 0) (ix x2))).1 = 1 then (if 10 ≤ (mF p4.2 (mR μ (mR μ l1 0) (ix x2)) 2) then (if (mF p4.2 (mR μ (mR μ l1 0) (ix x2)) 2) ≤ 0 then (some (none, p4.2)) else (if (mS p4.2 l0).1 = 4 then (if (mS p4.2 (mR μ (mR μ l1 0) (ix x2))).1 = 1 ∧ (mR μ (mR μ l1 0) (ix x2)) < 999999 then ((cI d 10 [.ref (mR μ (mR μ l1 0) (ix x2))] p4.2).bind fun p10 => if (mS p10.2 (mR p4.2 l0 3)).1 = 10 ∧ inb x2 (mS p10.2 (mR p4.2 l0 3)).2 then (if (mS p10.2 l0).1 = 4 then ((rdI (setF p10.2 (mR p4.2 l0 3) (ix x2) (p4.1 + p10.1)) (mR p10.2 l0 3) x2).bind fun v14 => if (mS p10.2 (mR μ (mR μ l1 0) (ix x2))).1 = 1 then ((cV d 60 [.ref l0, .ref l1, .int (x2 + 1), .int (if x3 < v14 then v14 else x3), .long (j4 * ((mF (setF p10.2 (mR p4.2 l0 3) (ix x2) (p4.1 + p10.1)) (mR μ (mR μ l1 0) (ix x2)) 2 : Int32).toInt64))] (setF p10.2 (mR p4.2 l0 3) (ix x2) (p4.1 + p10.1))).bind fun p16 => some (none, p16)) else none) else none) else none) else none) else none)) else (if (mS p4.2 l0).1 = 4 then (if (mS p4.2 (mR μ (mR μ l1 0) (ix x2))).1 = 1 ∧ (mR μ (mR μ l1 0) (ix x2)) < 999999 then ((cI d 9 [.ref (mR μ (mR μ l1 0) (ix x2))] p4.2).bind fun p18 => if (mS p18.2 (mR p4.2 l0 3)).1 = 10 ∧ inb x2 (mS p18.2 (mR p4.2 l0 3)).2 then (if (mS p18.2 l0).1 = 4 then ((rdI (setF p18.2 (mR p4.2 l0 3) (ix x2) (p4.1 + p18.1)) (mR p18.2 l0 3) x2).bind fun v22 => if (mS p18.2 (mR μ (mR μ l1 0) (ix x2))).1 = 1 then ((cV d 60 [.ref l0, .ref l1, .int (x2 + 1), .int (if x3 < v22 then v22 else x3), .long (j4 * ((10 - (mF (setF p18.2 (mR p4.2 l0 3) (ix x2) (p4.1 + p18.1)) (mR μ (mR μ l1 0) (ix x2)) 2) : Int32).toInt64))] (setF p18.2 (mR p4.2 l0 3) (ix x2) (p4.1 + p18.1))).bind fun p24 => if (mS p24 (mR μ (mR μ l1 0) (ix x2))).1 = 1 then (if (mF p24 (mR μ (mR μ l1 0) (ix x2)) 2) ≤ 0 then (some (none, p24)) else (if (mS p24 l0).1 = 4 then (if (mS p24 (mR μ (mR μ l1 0) (ix x2))).1 = 1 ∧ (mR μ (mR μ l1 0) (ix x2)) < 999999 then ((cI d 10 [.ref (mR μ (mR μ l1 0) (ix x2))] p24).bind fun p28 => if (mS p28.2 (mR p24 l0 3)).1 = 10 ∧ inb x2 (mS p28.2 (mR p24 l0 3)).2 then (if (mS p28.2 l0).1 = 4 then ((rdI (setF p28.2 (mR p24 l0 3) (ix x2) (p4.1 + p28.1)) (mR p28.2 l0 3) x2).bind fun v32 => if (mS p28.2 (mR μ (mR μ l1 0) (ix x2))).1 = 1 then ((cV d 60 [.ref l0, .ref l1, .int (x2 + 1), .int (if x3 < v32 then v32 else x3), .long (j4 * ((mF (setF p28.2 (mR p24 l0 3) (ix x2) (p4.1 + p28.1)) (mR μ (mR μ l1 0) (ix x2)) 2 : Int32).toInt64))] (setF p28.2 (mR p24 l0 3) (ix x2) (p4.1 + p28.1))).bind fun p34 => some (none, p34)) else none) else none) else none) else none) else none)) else none) else none) else none) else none) else none) else none)) else none) else none) else none) else (if x3 < 0 then (some (none, μ)) else (if 2980 < x3 then (some (none, μ)) else (if (mS μ l0).1 = 4 then (if (mS μ (mR μ l0 7)).1 = 11 ∧ inb x3 (mS μ (mR μ l0 7)).2 then (some (none, setJ μ (mR μ l0 7) (ix x3) ((mJ μ (mR μ l0 7) (ix x3)) + j4))) else none) else none)))) else none :=
  (e_nx f_60_0 rfl).trans ((e_nx f_60_1 rfl).trans ((e_gd f_60_2 rfl).trans (g_congr (Iff.rfl) (fun h1 => (e_lt f_60_5 rfl).trans (b_congr (fun h2 => (e_nx f_60_31 rfl).trans ((e_gk f_60_32 (h1) rfl).trans ((e_nx f_60_35 rfl).trans ((e_gd f_60_36 rfl).trans (g_congr (Iff.rfl) (fun h3 => (e_nx (q := (_, [.ref l0, .ref l1, .int x2, .int x3, .long j4, un, .ref (mR μ (mR μ l1 0) (ix x2)), un], _, _)) f_60_37 rfl).trans ((e_nx f_60_39 rfl).trans ((e_nx f_60_40 rfl).trans ((e_nx f_60_41 rfl).trans ((e_gI (L := [.ref l0, .ref l1, .int x2, .int x3, .long j4, un, .ref (mR μ (mR μ l1 0) (ix x2)), un]) (st := [.int x2, .ref l1, .ref l0]) (μ := μ) (L' := [.ref l0, .ref l1, .int x2, .int x3, .long j4, un, .ref (mR μ (mR μ l1 0) (ix x2)), un]) (st' := []) f_60_42 rfl rfl).trans (g_congr (v_c2 rfl (Nat.le_of_ble_eq_true rfl)) (fun h5 => m_congr fun p4 => (e_nx (q := (_, [.ref l0, .ref l1, .int x2, .int x3, .long j4, un, .ref (mR μ (mR μ l1 0) (ix x2)), .int p4.1], _, _)) f_60_45 rfl).trans ((e_nx f_60_47 rfl).trans ((e_gd f_60_49 rfl).trans (g_congr (Iff.rfl) (fun h6 => (e_nx (q := (_, _, .int 10 :: _, _)) f_60_52 rfl).trans ((e_ge f_60_54 rfl).trans (b_congr (fun h7 => (e_nx f_60_101 rfl).trans ((e_gk f_60_103 (h6) rfl).trans ((e_le f_60_106 rfl).trans (b_congr (fun h8 => e_rt f_60_150 rfl) (fun h8 => (e_nx f_60_109 rfl).trans ((e_gd f_60_110 rfl).trans (g_congr (Iff.rfl) (fun h9 => (e_nx f_60_113 rfl).trans ((e_nx f_60_114 rfl).trans ((e_nx f_60_116 rfl).trans ((e_gI (L := [.ref l0, .ref l1, .int x2, .int x3, .long j4, un, .ref (mR μ (mR μ l1 0) (ix x2)), .int p4.1]) (st := [.ref (mR μ (mR μ l1 0) (ix x2)), .int p4.1, .int x2, .ref (mR p4.2 l0 3)]) (μ := p4.2) (L' := [.ref l0, .ref l1, .int x2, .int x3, .long j4, un, .ref (mR μ (mR μ l1 0) (ix x2)), .int p4.1]) (st' := [.int p4.1, .int x2, .ref (mR p4.2 l0 3)]) f_60_118 rfl rfl).trans (g_congr (v_c2 rfl (Nat.le_of_ble_eq_true rfl)) (fun h11 => m_congr fun p10 => (e_nx f_60_121 rfl).trans ((e_gd f_60_122 rfl).trans (g_congr (Iff.rfl) (fun h12 => (e_nx f_60_123 rfl).trans ((e_nx f_60_124 rfl).trans ((e_nx f_60_125 rfl).trans ((e_nx (q := (_, _, .int 1 :: _, _)) f_60_126 rfl).trans ((e_nx f_60_127 rfl).trans ((e_nx f_60_128 rfl).trans ((e_nx f_60_129 rfl).trans ((e_gd f_60_130 rfl).trans (g_congr (Iff.rfl) (fun h13 => (e_nx f_60_133 rfl).trans ((e_ia (L := [.ref l0, .ref l1, .int x2, .int x3, .long j4, un, .ref (mR μ (mR μ l1 0) (ix x2)), .int p4.1]) (r := [.int x3, .int (x2 + 1), .ref l1, .ref l0]) (μ := setF p10.2 (mR p4.2 l0 3) (ix x2) (p4.1 + p10.1)) f_60_134).trans (m_congr fun v14 => (e_nx f_60_135 rfl).trans ((e_nx f_60_138 rfl).trans ((e_nx f_60_140 rfl).trans ((e_gd f_60_142 rfl).trans (g_congr (Iff.rfl) (fun h15 => (e_nx f_60_145 rfl).trans ((e_nx f_60_146 rfl).trans ((e_cV (L := [.ref l0, .ref l1, .int x2, .int x3, .long j4, un, .ref (mR μ (mR μ l1 0) (ix x2)), .int p4.1]) (st := [.long (j4 * ((mF (setF p10.2 (mR p4.2 l0 3) (ix x2) (p4.1 + p10.1)) (mR μ (mR μ l1 0) (ix x2)) 2 : Int32).toInt64)), .int (if x3 < v14 then v14 else x3), .int (x2 + 1), .ref l1, .ref l0]) (μ := setF p10.2 (mR p4.2 l0 3) (ix x2) (p4.1 + p10.1)) (L' := [.ref l0, .ref l1, .int x2, .int x3, .long j4, un, .ref (mR μ (mR μ l1 0) (ix x2)), .int p4.1]) (st' := []) f_60_147 rfl rfl).trans (m_congr fun p16 => e_rt f_60_150 rfl))))))))))))))))))))))))))))))))))) (fun h7 => (e_nx f_60_57 rfl).trans ((e_gd f_60_58 rfl).trans (g_congr (Iff.rfl) (fun h17 => (e_nx f_60_61 rfl).trans ((e_nx f_60_62 rfl).trans ((e_nx f_60_64 rfl).trans ((e_gI (L := [.ref l0, .ref l1, .int x2, .int x3, .long j4, un, .ref (mR μ (mR μ l1 0) (ix x2)), .int p4.1]) (st := [.ref (mR μ (mR μ l1 0) (ix x2)), .int p4.1, .int x2, .ref (mR p4.2 l0 3)]) (μ := p4.2) (L' := [.ref l0, .ref l1, .int x2, .int x3, .long j4, un, .ref (mR μ (mR μ l1 0) (ix x2)), .int p4.1]) (st' := [.int p4.1, .int x2, .ref (mR p4.2 l0 3)]) f_60_66 rfl rfl).trans (g_congr (v_c2 rfl (Nat.le_of_ble_eq_true rfl)) (fun h19 => m_congr fun p18 => (e_nx f_60_69 rfl).trans ((e_gd f_60_70 rfl).trans (g_congr (Iff.rfl) (fun h20 => (e_nx f_60_71 rfl).trans ((e_nx f_60_72 rfl).trans ((e_nx f_60_73 rfl).trans ((e_nx (q := (_, _, .int 1 :: _, _)) f_60_74 rfl).trans ((e_nx f_60_75 rfl).trans ((e_nx f_60_76 rfl).trans ((e_nx f_60_77 rfl).trans ((e_gd f_60_78 rfl).trans (g_congr (Iff.rfl) (fun h21 => (e_nx f_60_81 rfl).trans ((e_ia (L := [.ref l0, .ref l1, .int x2, .int x3, .long j4, un, .ref (mR μ (mR μ l1 0) (ix x2)), .int p4.1]) (r := [.int x3, .int (x2 + 1), .ref l1, .ref l0]) (μ := setF p18.2 (mR p4.2 l0 3) (ix x2) (p4.1 + p18.1)) f_60_82).trans (m_congr fun v22 => (e_nx f_60_83 rfl).trans ((e_nx f_60_86 rfl).trans ((e_nx (q := (_, _, .int 10 :: _, _)) f_60_88 rfl).trans ((e_nx f_60_90 rfl).trans ((e_gd f_60_92 rfl).trans (g_congr (Iff.rfl) (fun h23 => (e_nx f_60_95 rfl).trans ((e_nx f_60_96 rfl).trans ((e_nx f_60_97 rfl).trans ((e_cV (L := [.ref l0, .ref l1, .int x2, .int x3, .long j4, un, .ref (mR μ (mR μ l1 0) (ix x2)), .int p4.1]) (st := [.long (j4 * ((10 - (mF (setF p18.2 (mR p4.2 l0 3) (ix x2) (p4.1 + p18.1)) (mR μ (mR μ l1 0) (ix x2)) 2) : Int32).toInt64)), .int (if x3 < v22 then v22 else x3), .int (x2 + 1), .ref l1, .ref l0]) (μ := setF p18.2 (mR p4.2 l0 3) (ix x2) (p4.1 + p18.1)) (L' := [.ref l0, .ref l1, .int x2, .int x3, .long j4, un, .ref (mR μ (mR μ l1 0) (ix x2)), .int p4.1]) (st' := []) f_60_98 rfl rfl).trans (m_congr fun p24 => (e_nx f_60_101 rfl).trans ((e_gd f_60_103 rfl).trans (g_congr (Iff.rfl) (fun h25 => (e_le f_60_106 rfl).trans (b_congr (fun h26 => e_rt f_60_150 rfl) (fun h26 => (e_nx f_60_109 rfl).trans ((e_gd f_60_110 rfl).trans (g_congr (Iff.rfl) (fun h27 => (e_nx f_60_113 rfl).trans ((e_nx f_60_114 rfl).trans ((e_nx f_60_116 rfl).trans ((e_gI (L := [.ref l0, .ref l1, .int x2, .int x3, .long j4, un, .ref (mR μ (mR μ l1 0) (ix x2)), .int p4.1]) (st := [.ref (mR μ (mR μ l1 0) (ix x2)), .int p4.1, .int x2, .ref (mR p24 l0 3)]) (μ := p24) (L' := [.ref l0, .ref l1, .int x2, .int x3, .long j4, un, .ref (mR μ (mR μ l1 0) (ix x2)), .int p4.1]) (st' := [.int p4.1, .int x2, .ref (mR p24 l0 3)]) f_60_118 rfl rfl).trans (g_congr (v_c2 rfl (Nat.le_of_ble_eq_true rfl)) (fun h29 => m_congr fun p28 => (e_nx f_60_121 rfl).trans ((e_gd f_60_122 rfl).trans (g_congr (Iff.rfl) (fun h30 => (e_nx f_60_123 rfl).trans ((e_nx f_60_124 rfl).trans ((e_nx f_60_125 rfl).trans ((e_nx (q := (_, _, .int 1 :: _, _)) f_60_126 rfl).trans ((e_nx f_60_127 rfl).trans ((e_nx f_60_128 rfl).trans ((e_nx f_60_129 rfl).trans ((e_gd f_60_130 rfl).trans (g_congr (Iff.rfl) (fun h31 => (e_nx f_60_133 rfl).trans ((e_ia (L := [.ref l0, .ref l1, .int x2, .int x3, .long j4, un, .ref (mR μ (mR μ l1 0) (ix x2)), .int p4.1]) (r := [.int x3, .int (x2 + 1), .ref l1, .ref l0]) (μ := setF p28.2 (mR p24 l0 3) (ix x2) (p4.1 + p28.1)) f_60_134).trans (m_congr fun v32 => (e_nx f_60_135 rfl).trans ((e_nx f_60_138 rfl).trans ((e_nx f_60_140 rfl).trans ((e_gd f_60_142 rfl).trans (g_congr (Iff.rfl) (fun h33 => (e_nx f_60_145 rfl).trans ((e_nx f_60_146 rfl).trans ((e_cV (L := [.ref l0, .ref l1, .int x2, .int x3, .long j4, un, .ref (mR μ (mR μ l1 0) (ix x2)), .int p4.1]) (st := [.long (j4 * ((mF (setF p28.2 (mR p24 l0 3) (ix x2) (p4.1 + p28.1)) (mR μ (mR μ l1 0) (ix x2)) 2 : Int32).toInt64)), .int (if x3 < v32 then v32 else x3), .int (x2 + 1), .ref l1, .ref l0]) (μ := setF p28.2 (mR p24 l0 3) (ix x2) (p4.1 + p28.1)) (L' := [.ref l0, .ref l1, .int x2, .int x3, .long j4, un, .ref (mR μ (mR μ l1 0) (ix x2)), .int p4.1]) (st' := []) f_60_147 rfl rfl).trans (m_congr fun p34 => e_rt f_60_150 rfl)))))))))))))))))))))))))))))))))))))))))))))))))))))))))))))))))))))))))))))))))))))) (fun h2 => (e_nx f_60_8 rfl).trans ((e_lt f_60_9 rfl).trans (b_congr (fun h35 => e_rt f_60_30 rfl) (fun h35 => (e_nx f_60_12 rfl).trans ((e_nx (q := (_, _, .int 2980 :: _, _)) f_60_13 rfl).trans ((e_gt f_60_16 rfl).trans (b_congr (fun h36 => e_rt f_60_30 rfl) (fun h36 => (e_nx f_60_19 rfl).trans ((e_gd f_60_20 rfl).trans (g_congr (Iff.rfl) (fun h37 => (e_nx f_60_23 rfl).trans ((e_nx f_60_24 rfl).trans ((e_gd f_60_25 rfl).trans (g_congr (Iff.rfl) (fun h38 => (e_nx f_60_26 rfl).trans ((e_nx f_60_28 rfl).trans ((e_gk f_60_29 (h38) rfl).trans (e_rt f_60_30 rfl)))))))))))))))))))))))
theorem pg_61 (pc : Nat) : fe0 61 pc = lk prg_61 pc := rfl
theorem f_61_0 : fe0 61 0 = some (.lconst 1, 1, 0, 0, 0, 0, 0) := (pg_61 0).trans rfl
theorem f_61_1 : fe0 61 1 = some (.lstore_n 2, 1, 0, 0, 0, 0, 0) := (pg_61 1).trans rfl
theorem f_61_2 : fe0 61 2 = some (.iconst 0, 1, 0, 0, 0, 0, 0) := (pg_61 2).trans rfl
theorem f_61_3 : fe0 61 3 = some (.istore 4, 2, 0, 0, 0, 0, 0) := (pg_61 3).trans rfl
theorem f_61_5 : fe0 61 5 = some (.iload 4, 2, 0, 0, 0, 0, 0) := (pg_61 5).trans rfl
theorem f_61_7 : fe0 61 7 = some (.aload_n 1, 1, 0, 0, 0, 0, 0) := (pg_61 7).trans rfl
theorem f_61_8 : fe0 61 8 = some (.getfield 115, 3, 2, 1, 0, 0, 1102) := (pg_61 8).trans rfl
theorem f_61_11 : fe0 61 11 = some (.if_icmp .ge 15, 3, 0, 0, 0, 0, 0) := (pg_61 11).trans rfl
theorem f_61_14 : fe0 61 14 = some (.lload_n 2, 1, 0, 0, 0, 0, 0) := (pg_61 14).trans rfl
theorem f_61_15 : fe0 61 15 = some (.ldc2_w 168, 3, 0, 0, 10, 0, 3068) := (pg_61 15).trans rfl
theorem f_61_18 : fe0 61 18 = some (.lmul, 1, 0, 0, 0, 0, 0) := (pg_61 18).trans rfl
theorem f_61_19 : fe0 61 19 = some (.lstore_n 2, 1, 0, 0, 0, 0, 0) := (pg_61 19).trans rfl
theorem f_61_20 : fe0 61 20 = some (.iinc 4 1, 3, 0, 0, 0, 0, 0) := (pg_61 20).trans rfl
theorem f_61_23 : fe0 61 23 = some (.goto (-18), 3, 0, 0, 0, 0, 0) := (pg_61 23).trans rfl
theorem f_61_26 : fe0 61 26 = some (.lload_n 2, 1, 0, 0, 0, 0, 0) := (pg_61 26).trans rfl
theorem f_61_27 : fe0 61 27 = some (.lreturn, 1, 0, 0, 0, 0, 0) := (pg_61 27).trans rfl
theorem q_61_0 (d : Nat) (l0 : Nat) (l1 : Nat) (μ : aMem) : Rn d 61 (0, [.ref l0, .ref l1, un, un, un], [], μ) = Rn d 61 (5, [.ref l0, .ref l1, .long 1, un, .int 0], [], μ) :=
  (e_nx (q := (_, _, .long 1 :: _, _)) f_61_0 rfl).trans ((e_nx (q := (_, [.ref l0, .ref l1, .long 1, un, un], _, _)) f_61_1 rfl).trans ((e_nx (q := (_, _, .int 0 :: _, _)) f_61_2 rfl).trans (e_nx (q := (_, [.ref l0, .ref l1, .long 1, un, .int 0], _, _)) f_61_3 rfl)))
theorem q_61_5 (d : Nat) (l0 : Nat) (l1 : Nat) (j2 : Int64) (x4 : Int32) (μ : aMem) : Rn d 61 (5, [.ref l0, .ref l1, .long j2, un, .int x4], [], μ) = if (mS μ l1).1 = 2 then (if (mF μ l1 1) ≤ x4 then (some (some (.long j2), μ)) else (Rn d 61 (5, [.ref l0, .ref l1, .long (j2 * 10), un, .int (x4 + 1)], [], μ))) else none :=
  (e_nx f_61_5 rfl).trans ((e_nx f_61_7 rfl).trans ((e_gd f_61_8 rfl).trans (g_congr (Iff.rfl) (fun h1 => (e_ge f_61_11 rfl).trans (b_congr (fun h2 => (e_nx f_61_26 rfl).trans (e_rt f_61_27 rfl)) (fun h2 => (e_nx f_61_14 rfl).trans ((e_nx (q := (_, _, .long 10 :: _, _)) f_61_15 rfl).trans ((e_nx f_61_18 rfl).trans ((e_nx (q := (_, [.ref l0, .ref l1, .long (j2 * 10), un, .int x4], _, _)) f_61_19 rfl).trans ((e_nx (q := (_, [.ref l0, .ref l1, .long (j2 * 10), un, .int (x4 + 1)], _, _)) f_61_20 rfl).trans (e_nx f_61_23 rfl)))))))))))
theorem pg_62 (pc : Nat) : fe0 62 pc = lk prg_62 pc := rfl
theorem f_62_0 : fe0 62 0 = some (.aload_n 0, 1, 0, 0, 0, 0, 0) := (pg_62 0).trans rfl
theorem f_62_1 : fe0 62 1 = some (.aload_n 1, 1, 0, 0, 0, 0, 0) := (pg_62 1).trans rfl
theorem f_62_2 : fe0 62 2 = some (.invokevirtual 170, 3, 59, 1, 0, 4, 3046) := (pg_62 2).trans rfl
theorem f_62_5 : fe0 62 5 = some (.lconst 0, 1, 0, 0, 0, 0, 0) := (pg_62 5).trans rfl
theorem f_62_6 : fe0 62 6 = some (.lstore_n 3, 1, 0, 0, 0, 0, 0) := (pg_62 6).trans rfl
theorem f_62_7 : fe0 62 7 = some (.iconst 0, 1, 0, 0, 0, 0, 0) := (pg_62 7).trans rfl
theorem f_62_8 : fe0 62 8 = some (.istore 5, 2, 0, 0, 0, 0, 0) := (pg_62 8).trans rfl
theorem f_62_10 : fe0 62 10 = some (.iload 5, 2, 0, 0, 0, 0, 0) := (pg_62 10).trans rfl
theorem f_62_12 : fe0 62 12 = some (.iload_n 2, 1, 0, 0, 0, 0, 0) := (pg_62 12).trans rfl
theorem f_62_13 : fe0 62 13 = some (.if_icmp .gt 27, 3, 0, 0, 0, 0, 0) := (pg_62 13).trans rfl
theorem f_62_16 : fe0 62 16 = some (.iload 5, 2, 0, 0, 0, 0, 0) := (pg_62 16).trans rfl
theorem f_62_18 : fe0 62 18 = some (.sipush 2980, 3, 0, 0, 0, 0, 0) := (pg_62 18).trans rfl
theorem f_62_21 : fe0 62 21 = some (.if_icmp .gt 19, 3, 0, 0, 0, 0, 0) := (pg_62 21).trans rfl
theorem f_62_24 : fe0 62 24 = some (.lload_n 3, 1, 0, 0, 0, 0, 0) := (pg_62 24).trans rfl
theorem f_62_25 : fe0 62 25 = some (.aload_n 0, 1, 0, 0, 0, 0, 0) := (pg_62 25).trans rfl
theorem f_62_26 : fe0 62 26 = some (.getfield 33, 3, 4, 7, 1, 0, 1142) := (pg_62 26).trans rfl
theorem f_62_29 : fe0 62 29 = some (.iload 5, 2, 0, 0, 0, 0, 0) := (pg_62 29).trans rfl
theorem f_62_31 : fe0 62 31 = some (.laload, 1, 0, 0, 0, 0, 0) := (pg_62 31).trans rfl
theorem f_62_32 : fe0 62 32 = some (.ladd, 1, 0, 0, 0, 0, 0) := (pg_62 32).trans rfl
theorem f_62_33 : fe0 62 33 = some (.lstore_n 3, 1, 0, 0, 0, 0, 0) := (pg_62 33).trans rfl
theorem f_62_34 : fe0 62 34 = some (.iinc 5 1, 3, 0, 0, 0, 0, 0) := (pg_62 34).trans rfl
theorem f_62_37 : fe0 62 37 = some (.goto (-27), 3, 0, 0, 0, 0, 0) := (pg_62 37).trans rfl
theorem f_62_40 : fe0 62 40 = some (.lload_n 3, 1, 0, 0, 0, 0, 0) := (pg_62 40).trans rfl
theorem f_62_41 : fe0 62 41 = some (.lreturn, 1, 0, 0, 0, 0, 0) := (pg_62 41).trans rfl
theorem q_62_0 (d : Nat) (l0 : Nat) (l1 : Nat) (x2 : Int32) (μ : aMem) : Rn (d + 1) 62 (0, [.ref l0, .ref l1, .int x2, un, un, un], [], μ) = if (mS μ l0).1 = 4 ∧ l0 < 999999 then ((cV d 59 [.ref l0, .ref l1] μ).bind fun p1 => Rn (d + 1) 62 (10, [.ref l0, .ref l1, .int x2, .long 0, un, .int 0], [], p1)) else none :=
  (e_nx f_62_0 rfl).trans ((e_nx f_62_1 rfl).trans ((e_gV (L := [.ref l0, .ref l1, .int x2, un, un, un]) (st := [.ref l1, .ref l0]) (μ := μ) (L' := [.ref l0, .ref l1, .int x2, un, un, un]) (st' := []) f_62_2 rfl rfl).trans (g_congr (v_c2 rfl (Nat.le_of_ble_eq_true rfl)) (fun h2 => m_congr fun p1 => (e_nx (q := (_, _, .long 0 :: _, _)) f_62_5 rfl).trans ((e_nx (q := (_, [.ref l0, .ref l1, .int x2, .long 0, un, un], _, _)) f_62_6 rfl).trans ((e_nx (q := (_, _, .int 0 :: _, _)) f_62_7 rfl).trans (e_nx (q := (_, [.ref l0, .ref l1, .int x2, .long 0, un, .int 0], _, _)) f_62_8 rfl)))))))
theorem q_62_10 (d : Nat) (l0 : Nat) (l1 : Nat) (x2 : Int32) (j3 : Int64) (x5 : Int32) (μ : aMem) : Rn (d + 1) 62 (10, [.ref l0, .ref l1, .int x2, .long j3, un, .int x5], [], μ) = if x2 < x5 then (some (some (.long j3), μ)) else (if 2980 < x5 then (some (some (.long j3), μ)) else (if (mS μ l0).1 = 4 then (if (mS μ (mR μ l0 7)).1 = 11 ∧ inb x5 (mS μ (mR μ l0 7)).2 then (Rn (d + 1) 62 (10, [.ref l0, .ref l1, .int x2, .long (j3 + (mJ μ (mR μ l0 7) (ix x5))), un, .int (x5 + 1)], [], μ)) else none) else none)) :=
  (e_nx f_62_10 rfl).trans ((e_nx f_62_12 rfl).trans ((e_gt f_62_13 rfl).trans (b_congr (fun h1 => (e_nx f_62_40 rfl).trans (e_rt f_62_41 rfl)) (fun h1 => (e_nx f_62_16 rfl).trans ((e_nx (q := (_, _, .int 2980 :: _, _)) f_62_18 rfl).trans ((e_gt f_62_21 rfl).trans (b_congr (fun h2 => (e_nx f_62_40 rfl).trans (e_rt f_62_41 rfl)) (fun h2 => (e_nx f_62_24 rfl).trans ((e_nx f_62_25 rfl).trans ((e_gd f_62_26 rfl).trans (g_congr (Iff.rfl) (fun h3 => (e_nx f_62_29 rfl).trans ((e_gd f_62_31 rfl).trans (g_congr (Iff.rfl) (fun h4 => (e_nx f_62_32 rfl).trans ((e_nx (q := (_, [.ref l0, .ref l1, .int x2, .long (j3 + (mJ μ (mR μ l0 7) (ix x5))), un, .int x5], _, _)) f_62_33 rfl).trans ((e_nx (q := (_, [.ref l0, .ref l1, .int x2, .long (j3 + (mJ μ (mR μ l0 7) (ix x5))), un, .int (x5 + 1)], _, _)) f_62_34 rfl).trans (e_nx f_62_37 rfl))))))))))))))))))
theorem pg_63 (pc : Nat) : fe0 63 pc = lk prg_63 pc := rfl
theorem f_63_0 : fe0 63 0 = some (.aload_n 0, 1, 0, 0, 0, 0, 0) := (pg_63 0).trans rfl
theorem f_63_1 : fe0 63 1 = some (.aload_n 1, 1, 0, 0, 0, 0, 0) := (pg_63 1).trans rfl
theorem f_63_2 : fe0 63 2 = some (.invokevirtual 170, 3, 59, 1, 0, 4, 3046) := (pg_63 2).trans rfl
theorem f_63_5 : fe0 63 5 = some (.aload_n 0, 1, 0, 0, 0, 0, 0) := (pg_63 5).trans rfl
theorem f_63_6 : fe0 63 6 = some (.aload_n 1, 1, 0, 0, 0, 0, 0) := (pg_63 6).trans rfl
theorem f_63_7 : fe0 63 7 = some (.invokevirtual 173, 3, 61, 1, 0, 4, 3083) := (pg_63 7).trans rfl
theorem f_63_10 : fe0 63 10 = some (.iload_n 2, 1, 0, 0, 0, 0, 0) := (pg_63 10).trans rfl
theorem f_63_11 : fe0 63 11 = some (.i2l, 1, 0, 0, 0, 0, 0) := (pg_63 11).trans rfl
theorem f_63_12 : fe0 63 12 = some (.lmul, 1, 0, 0, 0, 0, 0) := (pg_63 12).trans rfl
theorem f_63_13 : fe0 63 13 = some (.lstore_n 3, 1, 0, 0, 0, 0, 0) := (pg_63 13).trans rfl
theorem f_63_14 : fe0 63 14 = some (.lconst 0, 1, 0, 0, 0, 0, 0) := (pg_63 14).trans rfl
theorem f_63_15 : fe0 63 15 = some (.lstore 5, 2, 0, 0, 0, 0, 0) := (pg_63 15).trans rfl
theorem f_63_17 : fe0 63 17 = some (.iconst 0, 1, 0, 0, 0, 0, 0) := (pg_63 17).trans rfl
theorem f_63_18 : fe0 63 18 = some (.istore 7, 2, 0, 0, 0, 0, 0) := (pg_63 18).trans rfl
theorem f_63_20 : fe0 63 20 = some (.iload 7, 2, 0, 0, 0, 0, 0) := (pg_63 20).trans rfl
theorem f_63_22 : fe0 63 22 = some (.sipush 2980, 3, 0, 0, 0, 0, 0) := (pg_63 22).trans rfl
theorem f_63_25 : fe0 63 25 = some (.if_icmp .gt 35, 3, 0, 0, 0, 0, 0) := (pg_63 25).trans rfl
theorem f_63_28 : fe0 63 28 = some (.lload 5, 2, 0, 0, 0, 0, 0) := (pg_63 28).trans rfl
theorem f_63_30 : fe0 63 30 = some (.aload_n 0, 1, 0, 0, 0, 0, 0) := (pg_63 30).trans rfl
theorem f_63_31 : fe0 63 31 = some (.getfield 33, 3, 4, 7, 1, 0, 1142) := (pg_63 31).trans rfl
theorem f_63_34 : fe0 63 34 = some (.iload 7, 2, 0, 0, 0, 0, 0) := (pg_63 34).trans rfl
theorem f_63_36 : fe0 63 36 = some (.laload, 1, 0, 0, 0, 0, 0) := (pg_63 36).trans rfl
theorem f_63_37 : fe0 63 37 = some (.ladd, 1, 0, 0, 0, 0, 0) := (pg_63 37).trans rfl
theorem f_63_38 : fe0 63 38 = some (.lstore 5, 2, 0, 0, 0, 0, 0) := (pg_63 38).trans rfl
theorem f_63_40 : fe0 63 40 = some (.ldc2_w 177, 3, 0, 0, 100, 0, 3084) := (pg_63 40).trans rfl
theorem f_63_43 : fe0 63 43 = some (.lload 5, 2, 0, 0, 0, 0, 0) := (pg_63 43).trans rfl
theorem f_63_45 : fe0 63 45 = some (.lmul, 1, 0, 0, 0, 0, 0) := (pg_63 45).trans rfl
theorem f_63_46 : fe0 63 46 = some (.lload_n 3, 1, 0, 0, 0, 0, 0) := (pg_63 46).trans rfl
theorem f_63_47 : fe0 63 47 = some (.lcmp, 1, 0, 0, 0, 0, 0) := (pg_63 47).trans rfl
theorem f_63_48 : fe0 63 48 = some (.ifCond .lt 6, 3, 0, 0, 0, 0, 0) := (pg_63 48).trans rfl
theorem f_63_51 : fe0 63 51 = some (.iload 7, 2, 0, 0, 0, 0, 0) := (pg_63 51).trans rfl
theorem f_63_53 : fe0 63 53 = some (.ireturn, 1, 0, 0, 0, 0, 0) := (pg_63 53).trans rfl
theorem f_63_54 : fe0 63 54 = some (.iinc 7 1, 3, 0, 0, 0, 0, 0) := (pg_63 54).trans rfl
theorem f_63_57 : fe0 63 57 = some (.goto (-37), 3, 0, 0, 0, 0, 0) := (pg_63 57).trans rfl
theorem f_63_60 : fe0 63 60 = some (.sipush 2980, 3, 0, 0, 0, 0, 0) := (pg_63 60).trans rfl
theorem f_63_63 : fe0 63 63 = some (.ireturn, 1, 0, 0, 0, 0, 0) := (pg_63 63).trans rfl
theorem q_63_0 (d : Nat) (l0 : Nat) (l1 : Nat) (x2 : Int32) (μ : aMem) : Rn (d + 1) 63 (0, [.ref l0, .ref l1, .int x2, un, un, un, un, un], [], μ) = if (mS μ l0).1 = 4 ∧ l0 < 999999 then ((cV d 59 [.ref l0, .ref l1] μ).bind fun p1 => if (mS p1 l0).1 = 4 ∧ l0 < 999999 then ((cJ d 61 [.ref l0, .ref l1] p1).bind fun p3 => Rn (d + 1) 63 (20, [.ref l0, .ref l1, .int x2, .long (p3.1 * ((x2 : Int32).toInt64)), un, .long 0, un, .int 0], [], p3.2)) else none) else none :=
  (e_nx f_63_0 rfl).trans ((e_nx f_63_1 rfl).trans ((e_gV (L := [.ref l0, .ref l1, .int x2, un, un, un, un, un]) (st := [.ref l1, .ref l0]) (μ := μ) (L' := [.ref l0, .ref l1, .int x2, un, un, un, un, un]) (st' := []) f_63_2 rfl rfl).trans (g_congr (v_c2 rfl (Nat.le_of_ble_eq_true rfl)) (fun h2 => m_congr fun p1 => (e_nx f_63_5 rfl).trans ((e_nx f_63_6 rfl).trans ((e_gJ (L := [.ref l0, .ref l1, .int x2, un, un, un, un, un]) (st := [.ref l1, .ref l0]) (μ := p1) (L' := [.ref l0, .ref l1, .int x2, un, un, un, un, un]) (st' := []) f_63_7 rfl rfl).trans (g_congr (v_c2 rfl (Nat.le_of_ble_eq_true rfl)) (fun h4 => m_congr fun p3 => (e_nx f_63_10 rfl).trans ((e_nx f_63_11 rfl).trans ((e_nx f_63_12 rfl).trans ((e_nx (q := (_, [.ref l0, .ref l1, .int x2, .long (p3.1 * ((x2 : Int32).toInt64)), un, un, un, un], _, _)) f_63_13 rfl).trans ((e_nx (q := (_, _, .long 0 :: _, _)) f_63_14 rfl).trans ((e_nx (q := (_, [.ref l0, .ref l1, .int x2, .long (p3.1 * ((x2 : Int32).toInt64)), un, .long 0, un, un], _, _)) f_63_15 rfl).trans ((e_nx (q := (_, _, .int 0 :: _, _)) f_63_17 rfl).trans (e_nx (q := (_, [.ref l0, .ref l1, .int x2, .long (p3.1 * ((x2 : Int32).toInt64)), un, .long 0, un, .int 0], _, _)) f_63_18 rfl)))))))))))))))
theorem q_63_20 (d : Nat) (l0 : Nat) (l1 : Nat) (x2 : Int32) (j3 : Int64) (j5 : Int64) (x7 : Int32) (μ : aMem) : Rn (d + 1) 63 (20, [.ref l0, .ref l1, .int x2, .long j3, un, .long j5, un, .int x7], [], μ) = if 2980 < x7 then (some (some (.int 2980), μ)) else (if (mS μ l0).1 = 4 then (if (mS μ (mR μ l0 7)).1 = 11 ∧ inb x7 (mS μ (mR μ l0 7)).2 then (if (lg_cmp (100 * (j5 + (mJ μ (mR μ l0 7) (ix x7)))) j3) < 0 then (Rn (d + 1) 63 (20, [.ref l0, .ref l1, .int x2, .long j3, un, .long (j5 + (mJ μ (mR μ l0 7) (ix x7))), un, .int (x7 + 1)], [], μ)) else (some (some (.int x7), μ))) else none) else none) :=
  (e_nx f_63_20 rfl).trans ((e_nx (q := (_, _, .int 2980 :: _, _)) f_63_22 rfl).trans ((e_gt f_63_25 rfl).trans (b_congr (fun h1 => (e_nx (q := (_, _, .int 2980 :: _, _)) f_63_60 rfl).trans (e_rt f_63_63 rfl)) (fun h1 => (e_nx f_63_28 rfl).trans ((e_nx f_63_30 rfl).trans ((e_gd f_63_31 rfl).trans (g_congr (Iff.rfl) (fun h2 => (e_nx f_63_34 rfl).trans ((e_gd f_63_36 rfl).trans (g_congr (Iff.rfl) (fun h3 => (e_nx f_63_37 rfl).trans ((e_nx (q := (_, [.ref l0, .ref l1, .int x2, .long j3, un, .long (j5 + (mJ μ (mR μ l0 7) (ix x7))), un, .int x7], _, _)) f_63_38 rfl).trans ((e_nx (q := (_, _, .long 100 :: _, _)) f_63_40 rfl).trans ((e_nx f_63_43 rfl).trans ((e_nx f_63_45 rfl).trans ((e_nx f_63_46 rfl).trans ((e_nx f_63_47 rfl).trans ((e_lt f_63_48 rfl).trans (b_congr (fun h4 => (e_nx (q := (_, [.ref l0, .ref l1, .int x2, .long j3, un, .long (j5 + (mJ μ (mR μ l0 7) (ix x7))), un, .int (x7 + 1)], _, _)) f_63_54 rfl).trans (e_nx f_63_57 rfl)) (fun h4 => (e_nx f_63_51 rfl).trans (e_rt f_63_53 rfl)))))))))))))))))))))
theorem pg_64 (pc : Nat) : fe0 64 pc = lk prg_64 pc := rfl
theorem f_64_0 : fe0 64 0 = some (.aload_n 0, 1, 0, 0, 0, 0, 0) := (pg_64 0).trans rfl
theorem f_64_1 : fe0 64 1 = some (.aload_n 1, 1, 0, 0, 0, 0, 0) := (pg_64 1).trans rfl
theorem f_64_2 : fe0 64 2 = some (.invokevirtual 170, 3, 59, 1, 0, 4, 3046) := (pg_64 2).trans rfl
theorem f_64_5 : fe0 64 5 = some (.lconst 0, 1, 0, 0, 0, 0, 0) := (pg_64 5).trans rfl
theorem f_64_6 : fe0 64 6 = some (.lstore_n 2, 1, 0, 0, 0, 0, 0) := (pg_64 6).trans rfl
theorem f_64_7 : fe0 64 7 = some (.iconst 0, 1, 0, 0, 0, 0, 0) := (pg_64 7).trans rfl
theorem f_64_8 : fe0 64 8 = some (.istore 4, 2, 0, 0, 0, 0, 0) := (pg_64 8).trans rfl
theorem f_64_10 : fe0 64 10 = some (.iload 4, 2, 0, 0, 0, 0, 0) := (pg_64 10).trans rfl
theorem f_64_12 : fe0 64 12 = some (.sipush 2980, 3, 0, 0, 0, 0, 0) := (pg_64 12).trans rfl
theorem f_64_15 : fe0 64 15 = some (.if_icmp .gt 23, 3, 0, 0, 0, 0, 0) := (pg_64 15).trans rfl
theorem f_64_18 : fe0 64 18 = some (.lload_n 2, 1, 0, 0, 0, 0, 0) := (pg_64 18).trans rfl
theorem f_64_19 : fe0 64 19 = some (.aload_n 0, 1, 0, 0, 0, 0, 0) := (pg_64 19).trans rfl
theorem f_64_20 : fe0 64 20 = some (.getfield 33, 3, 4, 7, 1, 0, 1142) := (pg_64 20).trans rfl
theorem f_64_23 : fe0 64 23 = some (.iload 4, 2, 0, 0, 0, 0, 0) := (pg_64 23).trans rfl
theorem f_64_25 : fe0 64 25 = some (.laload, 1, 0, 0, 0, 0, 0) := (pg_64 25).trans rfl
theorem f_64_26 : fe0 64 26 = some (.iload 4, 2, 0, 0, 0, 0, 0) := (pg_64 26).trans rfl
theorem f_64_28 : fe0 64 28 = some (.i2l, 1, 0, 0, 0, 0, 0) := (pg_64 28).trans rfl
theorem f_64_29 : fe0 64 29 = some (.lmul, 1, 0, 0, 0, 0, 0) := (pg_64 29).trans rfl
theorem f_64_30 : fe0 64 30 = some (.ladd, 1, 0, 0, 0, 0, 0) := (pg_64 30).trans rfl
theorem f_64_31 : fe0 64 31 = some (.lstore_n 2, 1, 0, 0, 0, 0, 0) := (pg_64 31).trans rfl
theorem f_64_32 : fe0 64 32 = some (.iinc 4 1, 3, 0, 0, 0, 0, 0) := (pg_64 32).trans rfl
theorem f_64_35 : fe0 64 35 = some (.goto (-25), 3, 0, 0, 0, 0, 0) := (pg_64 35).trans rfl
theorem f_64_38 : fe0 64 38 = some (.lload_n 2, 1, 0, 0, 0, 0, 0) := (pg_64 38).trans rfl
theorem f_64_39 : fe0 64 39 = some (.lreturn, 1, 0, 0, 0, 0, 0) := (pg_64 39).trans rfl
theorem q_64_0 (d : Nat) (l0 : Nat) (l1 : Nat) (μ : aMem) : Rn (d + 1) 64 (0, [.ref l0, .ref l1, un, un, un], [], μ) = if (mS μ l0).1 = 4 ∧ l0 < 999999 then ((cV d 59 [.ref l0, .ref l1] μ).bind fun p1 => Rn (d + 1) 64 (10, [.ref l0, .ref l1, .long 0, un, .int 0], [], p1)) else none :=
  (e_nx f_64_0 rfl).trans ((e_nx f_64_1 rfl).trans ((e_gV (L := [.ref l0, .ref l1, un, un, un]) (st := [.ref l1, .ref l0]) (μ := μ) (L' := [.ref l0, .ref l1, un, un, un]) (st' := []) f_64_2 rfl rfl).trans (g_congr (v_c2 rfl (Nat.le_of_ble_eq_true rfl)) (fun h2 => m_congr fun p1 => (e_nx (q := (_, _, .long 0 :: _, _)) f_64_5 rfl).trans ((e_nx (q := (_, [.ref l0, .ref l1, .long 0, un, un], _, _)) f_64_6 rfl).trans ((e_nx (q := (_, _, .int 0 :: _, _)) f_64_7 rfl).trans (e_nx (q := (_, [.ref l0, .ref l1, .long 0, un, .int 0], _, _)) f_64_8 rfl)))))))
theorem q_64_10 (d : Nat) (l0 : Nat) (l1 : Nat) (j2 : Int64) (x4 : Int32) (μ : aMem) : Rn (d + 1) 64 (10, [.ref l0, .ref l1, .long j2, un, .int x4], [], μ) = if 2980 < x4 then (some (some (.long j2), μ)) else (if (mS μ l0).1 = 4 then (if (mS μ (mR μ l0 7)).1 = 11 ∧ inb x4 (mS μ (mR μ l0 7)).2 then (Rn (d + 1) 64 (10, [.ref l0, .ref l1, .long (j2 + ((mJ μ (mR μ l0 7) (ix x4)) * ((x4 : Int32).toInt64))), un, .int (x4 + 1)], [], μ)) else none) else none) :=
  (e_nx f_64_10 rfl).trans ((e_nx (q := (_, _, .int 2980 :: _, _)) f_64_12 rfl).trans ((e_gt f_64_15 rfl).trans (b_congr (fun h1 => (e_nx f_64_38 rfl).trans (e_rt f_64_39 rfl)) (fun h1 => (e_nx f_64_18 rfl).trans ((e_nx f_64_19 rfl).trans ((e_gd f_64_20 rfl).trans (g_congr (Iff.rfl) (fun h2 => (e_nx f_64_23 rfl).trans ((e_gd f_64_25 rfl).trans (g_congr (Iff.rfl) (fun h3 => (e_nx f_64_26 rfl).trans ((e_nx f_64_28 rfl).trans ((e_nx f_64_29 rfl).trans ((e_nx f_64_30 rfl).trans ((e_nx (q := (_, [.ref l0, .ref l1, .long (j2 + ((mJ μ (mR μ l0 7) (ix x4)) * ((x4 : Int32).toInt64))), un, .int x4], _, _)) f_64_31 rfl).trans ((e_nx (q := (_, [.ref l0, .ref l1, .long (j2 + ((mJ μ (mR μ l0 7) (ix x4)) * ((x4 : Int32).toInt64))), un, .int (x4 + 1)], _, _)) f_64_32 rfl).trans (e_nx f_64_35 rfl)))))))))))))))))
theorem pg_65 (pc : Nat) : fe0 65 pc = lk prg_65 pc := rfl
theorem f_65_0 : fe0 65 0 = some (.aload_n 0, 1, 0, 0, 0, 0, 0) := (pg_65 0).trans rfl
theorem f_65_1 : fe0 65 1 = some (.sipush 9999, 3, 0, 0, 0, 0, 0) := (pg_65 1).trans rfl
theorem f_65_4 : fe0 65 4 = some (.aload_n 0, 1, 0, 0, 0, 0, 0) := (pg_65 4).trans rfl
theorem f_65_5 : fe0 65 5 = some (.aload_n 1, 1, 0, 0, 0, 0, 0) := (pg_65 5).trans rfl
theorem f_65_6 : fe0 65 6 = some (.invokevirtual 132, 3, 47, 1, 0, 4, 2134) := (pg_65 6).trans rfl
theorem f_65_9 : fe0 65 9 = some (.invokestatic 82, 3, 0, 0, 8, 0, 2108) := (pg_65 9).trans rfl
theorem f_65_12 : fe0 65 12 = some (.putfield 179, 3, 4, 8, 0, 0, 1144) := (pg_65 12).trans rfl
theorem f_65_15 : fe0 65 15 = some (.iconst 0, 1, 0, 0, 0, 0, 0) := (pg_65 15).trans rfl
theorem f_65_16 : fe0 65 16 = some (.istore_n 3, 1, 0, 0, 0, 0, 0) := (pg_65 16).trans rfl
theorem f_65_17 : fe0 65 17 = some (.iload_n 3, 1, 0, 0, 0, 0, 0) := (pg_65 17).trans rfl
theorem f_65_18 : fe0 65 18 = some (.aload_n 1, 1, 0, 0, 0, 0, 0) := (pg_65 18).trans rfl
theorem f_65_19 : fe0 65 19 = some (.getfield 115, 3, 2, 1, 0, 0, 1102) := (pg_65 19).trans rfl
theorem f_65_22 : fe0 65 22 = some (.if_icmp .ge 51, 3, 0, 0, 0, 0, 0) := (pg_65 22).trans rfl
theorem f_65_25 : fe0 65 25 = some (.aload_n 1, 1, 0, 0, 0, 0, 0) := (pg_65 25).trans rfl
theorem f_65_26 : fe0 65 26 = some (.getfield 108, 3, 2, 0, 1, 0, 1099) := (pg_65 26).trans rfl
theorem f_65_29 : fe0 65 29 = some (.iload_n 3, 1, 0, 0, 0, 0, 0) := (pg_65 29).trans rfl
theorem f_65_30 : fe0 65 30 = some (.aaload, 1, 0, 0, 0, 0, 0) := (pg_65 30).trans rfl
theorem f_65_31 : fe0 65 31 = some (.astore 4, 2, 0, 0, 0, 0, 0) := (pg_65 31).trans rfl
theorem f_65_33 : fe0 65 33 = some (.aload_n 0, 1, 0, 0, 0, 0, 0) := (pg_65 33).trans rfl
theorem f_65_34 : fe0 65 34 = some (.getfield 9, 3, 4, 0, 1, 0, 1135) := (pg_65 34).trans rfl
theorem f_65_37 : fe0 65 37 = some (.iload_n 3, 1, 0, 0, 0, 0, 0) := (pg_65 37).trans rfl
theorem f_65_38 : fe0 65 38 = some (.aload_n 1, 1, 0, 0, 0, 0, 0) := (pg_65 38).trans rfl
theorem f_65_39 : fe0 65 39 = some (.invokevirtual 182, 3, 17, 0, 0, 2, 3101) := (pg_65 39).trans rfl
theorem f_65_42 : fe0 65 42 = some (.bipush 10, 2, 0, 0, 0, 0, 0) := (pg_65 42).trans rfl
theorem f_65_44 : fe0 65 44 = some (.irem, 1, 0, 0, 0, 0, 0) := (pg_65 44).trans rfl
theorem f_65_45 : fe0 65 45 = some (.aload 4, 2, 0, 0, 0, 0, 0) := (pg_65 45).trans rfl
theorem f_65_47 : fe0 65 47 = some (.getfield 58, 3, 1, 2, 0, 0, 1074) := (pg_65 47).trans rfl
theorem f_65_50 : fe0 65 50 = some (.if_icmp .ge 11, 3, 0, 0, 0, 0, 0) := (pg_65 50).trans rfl
theorem f_65_53 : fe0 65 53 = some (.aload 4, 2, 0, 0, 0, 0, 0) := (pg_65 53).trans rfl
theorem f_65_55 : fe0 65 55 = some (.invokevirtual 165, 3, 10, 0, 0, 1, 3060) := (pg_65 55).trans rfl
theorem f_65_58 : fe0 65 58 = some (.goto 8, 3, 0, 0, 0, 0, 0) := (pg_65 58).trans rfl
theorem f_65_61 : fe0 65 61 = some (.aload 4, 2, 0, 0, 0, 0, 0) := (pg_65 61).trans rfl
theorem f_65_63 : fe0 65 63 = some (.invokevirtual 161, 3, 9, 0, 0, 1, 3056) := (pg_65 63).trans rfl
theorem f_65_66 : fe0 65 66 = some (.iastore, 1, 0, 0, 0, 0, 0) := (pg_65 66).trans rfl
theorem f_65_67 : fe0 65 67 = some (.iinc 3 1, 3, 0, 0, 0, 0, 0) := (pg_65 67).trans rfl
theorem f_65_70 : fe0 65 70 = some (.goto (-53), 3, 0, 0, 0, 0, 0) := (pg_65 70).trans rfl
theorem f_65_73 : fe0 65 73 = some (.aload_n 0, 1, 0, 0, 0, 0, 0) := (pg_65 73).trans rfl
theorem f_65_74 : fe0 65 74 = some (.sipush 9999, 3, 0, 0, 0, 0, 0) := (pg_65 74).trans rfl
theorem f_65_77 : fe0 65 77 = some (.aload_n 0, 1, 0, 0, 0, 0, 0) := (pg_65 77).trans rfl
theorem f_65_78 : fe0 65 78 = some (.aload_n 1, 1, 0, 0, 0, 0, 0) := (pg_65 78).trans rfl
theorem f_65_79 : fe0 65 79 = some (.invokevirtual 128, 3, 46, 1, 0, 4, 2140) := (pg_65 79).trans rfl
theorem f_65_82 : fe0 65 82 = some (.invokestatic 82, 3, 0, 0, 8, 0, 2108) := (pg_65 82).trans rfl
theorem f_65_85 : fe0 65 85 = some (.putfield 185, 3, 4, 9, 0, 0, 1146) := (pg_65 85).trans rfl
theorem f_65_88 : fe0 65 88 = some (.aload_n 1, 1, 0, 0, 0, 0, 0) := (pg_65 88).trans rfl
theorem f_65_89 : fe0 65 89 = some (.getfield 61, 3, 2, 2, 1, 0, 1105) := (pg_65 89).trans rfl
theorem f_65_92 : fe0 65 92 = some (.iload_n 2, 1, 0, 0, 0, 0, 0) := (pg_65 92).trans rfl
theorem f_65_93 : fe0 65 93 = some (.aload_n 0, 1, 0, 0, 0, 0, 0) := (pg_65 93).trans rfl
theorem f_65_94 : fe0 65 94 = some (.getfield 179, 3, 4, 8, 0, 0, 1144) := (pg_65 94).trans rfl
theorem f_65_97 : fe0 65 97 = some (.aload_n 0, 1, 0, 0, 0, 0, 0) := (pg_65 97).trans rfl
theorem f_65_98 : fe0 65 98 = some (.getfield 185, 3, 4, 9, 0, 0, 1146) := (pg_65 98).trans rfl
theorem f_65_101 : fe0 65 101 = some (.invokevirtual 188, 3, 1, 3, 0, 0, 3102) := (pg_65 101).trans rfl
theorem f_65_104 : fe0 65 104 = some (.return_, 1, 0, 0, 0, 0, 0) := (pg_65 104).trans rfl
theorem q_65_0 (d : Nat) (l0 : Nat) (l1 : Nat) (x2 : Int32) (μ : aMem) : Rn (d + 1) 65 (0, [.ref l0, .ref l1, .int x2, un, un], [], μ) = if (mS μ l0).1 = 4 ∧ l0 < 999999 then ((cI d 47 [.ref l0, .ref l1] μ).bind fun p1 => if (mS p1.2 l0).1 = 4 then (Rn (d + 1) 65 (17, [.ref l0, .ref l1, .int x2, .int 0, un], [], setF p1.2 l0 8 (if p1.1 < 9999 then p1.1 else 9999))) else none) else none :=
  (e_nx f_65_0 rfl).trans ((e_nx (q := (_, _, .int 9999 :: _, _)) f_65_1 rfl).trans ((e_nx f_65_4 rfl).trans ((e_nx f_65_5 rfl).trans ((e_gI (L := [.ref l0, .ref l1, .int x2, un, un]) (st := [.ref l1, .ref l0, .int 9999, .ref l0]) (μ := μ) (L' := [.ref l0, .ref l1, .int x2, un, un]) (st' := [.int 9999, .ref l0]) f_65_6 rfl rfl).trans (g_congr (v_c2 rfl (Nat.le_of_ble_eq_true rfl)) (fun h2 => m_congr fun p1 => (e_nx f_65_9 rfl).trans ((e_gd (L := [.ref l0, .ref l1, .int x2, un, un]) (st := [.int (if p1.1 < 9999 then p1.1 else 9999), .ref l0]) (μ := p1.2) f_65_12 rfl).trans (g_congr (pi_iff rfl) (fun h3 => (e_nx (q := (_, _, .int 0 :: _, _)) f_65_15 rfl).trans (e_nx (q := (_, [.ref l0, .ref l1, .int x2, .int 0, un], _, _)) f_65_16 rfl))))))))))
theorem q_65_17 (d : Nat) (l0 : Nat) (l1 : Nat) (x2 : Int32) (x3 : Int32) (w4 : Value) (μ : aMem) : Rn (d + 1) 65 (17, [.ref l0, .ref l1, .int x2, .int x3, w4], [], μ) = if (mS μ l1).1 = 2 then (if (mF μ l1 1) ≤ x3 then (if (mS μ l0).1 = 4 ∧ l0 < 999999 then ((cI d 46 [.ref l0, .ref l1] μ).bind fun p3 => if (mS p3.2 l0).1 = 4 then (if (mS p3.2 l1).1 = 2 then (if (mS p3.2 (mR p3.2 l1 2)).1 = 0 ∧ (mR p3.2 l1 2) < 999999 then ((cV d 1 [.ref (mR p3.2 l1 2), .int x2, .int (mF (setF p3.2 l0 9 (if p3.1 < 9999 then p3.1 else 9999)) l0 8), .int (mF (setF p3.2 l0 9 (if p3.1 < 9999 then p3.1 else 9999)) l0 9)] (setF p3.2 l0 9 (if p3.1 < 9999 then p3.1 else 9999))).bind fun p7 => some (none, p7)) else none) else none) else none) else none) else (if 12 ≤ (mS μ (mR μ l1 0)).1 ∧ (mS μ (mR μ l1 0)).1 < 16 ∧ inb x3 (mS μ (mR μ l1 0)).2 then (if (mS μ l0).1 = 4 then (if (mS μ l1).1 = 2 ∧ l1 < 999999 then ((cI d 17 [.ref l1] μ).bind fun p11 => if (mS p11.2 (mR μ (mR μ l1 0) (ix x3))).1 = 1 then (if (mF p11.2 (mR μ (mR μ l1 0) (ix x3)) 2) ≤ (p11.1 - p11.1 / 10 * 10) then (if (mS p11.2 (mR μ (mR μ l1 0) (ix x3))).1 = 1 ∧ (mR μ (mR μ l1 0) (ix x3)) < 999999 then ((cI d 9 [.ref (mR μ (mR μ l1 0) (ix x3))] p11.2).bind fun p15 => if (mS p15.2 (mR μ l0 0)).1 = 10 ∧ inb x3 (mS p15.2 (mR μ l0 0)).2 then (Rn (d + 1) 65 (17, [.ref l0, .ref l1, .int x2, .int (x3 + 1), .ref (mR μ (mR μ l1 0) (ix x3))], [], setF p15.2 (mR μ l0 0) (ix x3) p15.1)) else none) else none) else (if (mS p11.2 (mR μ (mR μ l1 0) (ix x3))).1 = 1 ∧ (mR μ (mR μ l1 0) (ix x3)) < 999999 then ((cI d 10 [.ref (mR μ (mR μ l1 0) (ix x3))] p11.2).bind fun p18 => if (mS p18.2 (mR μ l0 0)).1 = 10 ∧ inb x3 (mS p18.2 (mR μ l0 0)).2 then (Rn (d + 1) 65 (17, [.ref l0, .ref l1, .int x2, .int (x3 + 1), .ref (mR μ (mR μ l1 0) (ix x3))], [], setF p18.2 (mR μ l0 0) (ix x3) p18.1)) else none) else none)) else none) else none) else none) else none)) else none :=
  (e_nx f_65_17 rfl).trans ((e_nx f_65_18 rfl).trans ((e_gd f_65_19 rfl).trans (g_congr (Iff.rfl) (fun h1 => (e_ge f_65_22 rfl).trans (b_congr (fun h2 => (e_nx f_65_73 rfl).trans ((e_nx (q := (_, _, .int 9999 :: _, _)) f_65_74 rfl).trans ((e_nx f_65_77 rfl).trans ((e_nx f_65_78 rfl).trans ((e_gI (L := [.ref l0, .ref l1, .int x2, .int x3, w4]) (st := [.ref l1, .ref l0, .int 9999, .ref l0]) (μ := μ) (L' := [.ref l0, .ref l1, .int x2, .int x3, w4]) (st' := [.int 9999, .ref l0]) f_65_79 rfl rfl).trans (g_congr (v_c2 rfl (Nat.le_of_ble_eq_true rfl)) (fun h4 => m_congr fun p3 => (e_nx f_65_82 rfl).trans ((e_gd (L := [.ref l0, .ref l1, .int x2, .int x3, w4]) (st := [.int (if p3.1 < 9999 then p3.1 else 9999), .ref l0]) (μ := p3.2) f_65_85 rfl).trans (g_congr (pi_iff rfl) (fun h5 => (e_nx f_65_88 rfl).trans ((e_gd f_65_89 rfl).trans (g_congr (Iff.rfl) (fun h6 => (e_nx f_65_92 rfl).trans ((e_nx f_65_93 rfl).trans ((e_gk f_65_94 (h5) rfl).trans ((e_nx f_65_97 rfl).trans ((e_gk f_65_98 (h5) rfl).trans ((e_gV (L := [.ref l0, .ref l1, .int x2, .int x3, w4]) (st := [.int (mF (setF p3.2 l0 9 (if p3.1 < 9999 then p3.1 else 9999)) l0 9), .int (mF (setF p3.2 l0 9 (if p3.1 < 9999 then p3.1 else 9999)) l0 8), .int x2, .ref (mR p3.2 l1 2)]) (μ := setF p3.2 l0 9 (if p3.1 < 9999 then p3.1 else 9999)) (L' := [.ref l0, .ref l1, .int x2, .int x3, w4]) (st' := []) f_65_101 rfl rfl).trans (g_congr (v_c2 rfl (Nat.le_of_ble_eq_true rfl)) (fun h8 => m_congr fun p7 => e_rt f_65_104 rfl)))))))))))))))))))) (fun h2 => (e_nx f_65_25 rfl).trans ((e_gk f_65_26 (h1) rfl).trans ((e_nx f_65_29 rfl).trans ((e_gd f_65_30 rfl).trans (g_congr (Iff.rfl) (fun h9 => (e_nx (q := (_, [.ref l0, .ref l1, .int x2, .int x3, .ref (mR μ (mR μ l1 0) (ix x3))], _, _)) f_65_31 rfl).trans ((e_nx f_65_33 rfl).trans ((e_gd f_65_34 rfl).trans (g_congr (Iff.rfl) (fun h10 => (e_nx f_65_37 rfl).trans ((e_nx f_65_38 rfl).trans ((e_gI (L := [.ref l0, .ref l1, .int x2, .int x3, .ref (mR μ (mR μ l1 0) (ix x3))]) (st := [.ref l1, .int x3, .ref (mR μ l0 0)]) (μ := μ) (L' := [.ref l0, .ref l1, .int x2, .int x3, .ref (mR μ (mR μ l1 0) (ix x3))]) (st' := [.int x3, .ref (mR μ l0 0)]) f_65_39 rfl rfl).trans (g_congr (v_c2 rfl (Nat.le_of_ble_eq_true rfl)) (fun h12 => m_congr fun p11 => (e_nx (q := (_, _, .int 10 :: _, _)) f_65_42 rfl).trans ((e_nx f_65_44 rfl).trans ((e_nx f_65_45 rfl).trans ((e_gd f_65_47 rfl).trans (g_congr (Iff.rfl) (fun h13 => (e_ge f_65_50 rfl).trans (b_congr (fun h14 => (e_nx f_65_61 rfl).trans ((e_gI (L := [.ref l0, .ref l1, .int x2, .int x3, .ref (mR μ (mR μ l1 0) (ix x3))]) (st := [.ref (mR μ (mR μ l1 0) (ix x3)), .int x3, .ref (mR μ l0 0)]) (μ := p11.2) (L' := [.ref l0, .ref l1, .int x2, .int x3, .ref (mR μ (mR μ l1 0) (ix x3))]) (st' := [.int x3, .ref (mR μ l0 0)]) f_65_63 rfl rfl).trans (g_congr (v_c2 rfl (Nat.le_of_ble_eq_true rfl)) (fun h16 => m_congr fun p15 => (e_gd f_65_66 rfl).trans (g_congr (Iff.rfl) (fun h17 => (e_nx (q := (_, [.ref l0, .ref l1, .int x2, .int (x3 + 1), .ref (mR μ (mR μ l1 0) (ix x3))], _, _)) f_65_67 rfl).trans (e_nx f_65_70 rfl))))))) (fun h14 => (e_nx f_65_53 rfl).trans ((e_gI (L := [.ref l0, .ref l1, .int x2, .int x3, .ref (mR μ (mR μ l1 0) (ix x3))]) (st := [.ref (mR μ (mR μ l1 0) (ix x3)), .int x3, .ref (mR μ l0 0)]) (μ := p11.2) (L' := [.ref l0, .ref l1, .int x2, .int x3, .ref (mR μ (mR μ l1 0) (ix x3))]) (st' := [.int x3, .ref (mR μ l0 0)]) f_65_55 rfl rfl).trans (g_congr (v_c2 rfl (Nat.le_of_ble_eq_true rfl)) (fun h19 => m_congr fun p18 => (e_nx f_65_58 rfl).trans ((e_gd f_65_66 rfl).trans (g_congr (Iff.rfl) (fun h20 => (e_nx (q := (_, [.ref l0, .ref l1, .int x2, .int (x3 + 1), .ref (mR μ (mR μ l1 0) (ix x3))], _, _)) f_65_67 rfl).trans (e_nx f_65_70 rfl)))))))))))))))))))))))))))))))))
