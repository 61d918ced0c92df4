theorem pg_66 (pc : Nat) : fe0 66 pc = lk prg_66 pc := rfl
theorem f_66_0 : fe0 66 0 = some (.aload_n 0, 1, 0, 0, 0, 0, 0) := (pg_66 0).trans rfl
theorem f_66_1 : fe0 66 1 = some (.invokespecial 3, 3, 0, 0, 6, 0, 1212) := (pg_66 1).trans rfl
theorem f_66_4 : fe0 66 4 = some (.aload_n 0, 1, 0, 0, 0, 0, 0) := (pg_66 4).trans rfl
theorem f_66_5 : fe0 66 5 = some (.bipush 24, 2, 0, 0, 0, 0, 0) := (pg_66 5).trans rfl
theorem f_66_7 : fe0 66 7 = some (.newarray .int, 2, 10, 0, 0, 0, 0) := (pg_66 7).trans rfl
theorem f_66_9 : fe0 66 9 = some (.putfield 9, 3, 5, 0, 1, 0, 1213) := (pg_66 9).trans rfl
theorem f_66_12 : fe0 66 12 = some (.aload_n 0, 1, 0, 0, 0, 0, 0) := (pg_66 12).trans rfl
theorem f_66_13 : fe0 66 13 = some (.iconst (-1), 1, 0, 0, 0, 0, 0) := (pg_66 13).trans rfl
theorem f_66_14 : fe0 66 14 = some (.putfield 15, 3, 5, 1, 0, 0, 1215) := (pg_66 14).trans rfl
theorem f_66_17 : fe0 66 17 = some (.return_, 1, 0, 0, 0, 0, 0) := (pg_66 17).trans rfl
theorem q_66_0 (d : Nat) (l0 : Nat) (μ : aMem) : Rn d 66 (0, [.ref l0], [], μ) = if l0 < 999999 then (if mN μ < 900000 then (if (mS (newC μ 10 (ix 24)) l0).1 = 5 ∧ (mN μ) ≤ 999999 then (if (mS (newC μ 10 (ix 24)) l0).1 = 5 then (some (none, setF (setR (newC μ 10 (ix 24)) l0 0 (mN μ)) l0 1 (-1))) else none) else none) else none) else none :=
  (e_nx f_66_0 rfl).trans ((e_gd (L := [.ref l0]) (st := [.ref l0]) (μ := μ) f_66_1 rfl).trans (g_congr (oi_iff (Nat.le_of_ble_eq_true rfl)) (fun h1 => (e_nx f_66_4 rfl).trans ((e_nx (q := (_, _, .int 24 :: _, _)) f_66_5 rfl).trans ((e_gd (L := [.ref l0]) (st := [.int 24, .ref l0]) (μ := μ) f_66_7 rfl).trans (g_congr (na_iff (by decide)) (fun h2 => (e_gd f_66_9 rfl).trans (g_congr (pr_iff rfl) (fun h3 => (e_nx f_66_12 rfl).trans ((e_nx (q := (_, _, .int (-1) :: _, _)) f_66_13 rfl).trans ((e_gd (L := [.ref l0]) (st := [.int (-1), .ref l0]) (μ := setR (newC μ 10 (ix 24)) l0 0 (mN μ)) f_66_14 rfl).trans (g_congr (pi_iff rfl) (fun h4 => e_rt f_66_17 rfl)))))))))))))
theorem pg_67 (pc : Nat) : fe0 67 pc = lk prg_67 pc := rfl
theorem f_67_0 : fe0 67 0 = some (.aload_n 0, 1, 0, 0, 0, 0, 0) := (pg_67 0).trans rfl
theorem f_67_1 : fe0 67 1 = some (.iload_n 1, 1, 0, 0, 0, 0, 0) := (pg_67 1).trans rfl
theorem f_67_2 : fe0 67 2 = some (.putfield 15, 3, 5, 1, 0, 0, 1215) := (pg_67 2).trans rfl
theorem f_67_5 : fe0 67 5 = some (.aload_n 0, 1, 0, 0, 0, 0, 0) := (pg_67 5).trans rfl
theorem f_67_6 : fe0 67 6 = some (.iload_n 2, 1, 0, 0, 0, 0, 0) := (pg_67 6).trans rfl
theorem f_67_7 : fe0 67 7 = some (.putfield 19, 3, 5, 2, 0, 0, 1217) := (pg_67 7).trans rfl
theorem f_67_10 : fe0 67 10 = some (.aload_n 0, 1, 0, 0, 0, 0, 0) := (pg_67 10).trans rfl
theorem f_67_11 : fe0 67 11 = some (.getfield 9, 3, 5, 0, 1, 0, 1213) := (pg_67 11).trans rfl
theorem f_67_14 : fe0 67 14 = some (.iconst 0, 1, 0, 0, 0, 0, 0) := (pg_67 14).trans rfl
theorem f_67_15 : fe0 67 15 = some (.invokestatic 22, 3, 231, 2, 2, 0, 4125) := (pg_67 15).trans rfl
theorem f_67_18 : fe0 67 18 = some (.return_, 1, 0, 0, 0, 0, 0) := (pg_67 18).trans rfl
theorem q_67_0 (d : Nat) (l0 : Nat) (x1 : Int32) (x2 : Int32) (μ : aMem) : Rn (d + 1) 67 (0, [.ref l0, .int x1, .int x2], [], μ) = if (mS μ l0).1 = 5 then ((cV d 231 [.ref (mR μ l0 0), .int 0] (setF (setF μ l0 1 x1) l0 2 x2)).bind fun p2 => some (none, p2)) else none :=
  (e_nx f_67_0 rfl).trans ((e_nx f_67_1 rfl).trans ((e_gd (L := [.ref l0, .int x1, .int x2]) (st := [.int x1, .ref l0]) (μ := μ) f_67_2 rfl).trans (g_congr (pi_iff rfl) (fun h1 => (e_nx f_67_5 rfl).trans ((e_nx f_67_6 rfl).trans ((e_gk (L := [.ref l0, .int x1, .int x2]) (st := [.int x2, .ref l0]) (μ := setF μ l0 1 x1) f_67_7 ((pi_iff rfl).mpr h1) rfl).trans ((e_nx f_67_10 rfl).trans ((e_gk f_67_11 (h1) rfl).trans ((e_nx (q := (_, _, .int 0 :: _, _)) f_67_14 rfl).trans ((e_cV (L := [.ref l0, .int x1, .int x2]) (st := [.int 0, .ref (mR μ l0 0)]) (μ := setF (setF μ l0 1 x1) l0 2 x2) (L' := [.ref l0, .int x1, .int x2]) (st' := []) f_67_15 rfl rfl).trans (m_congr fun p2 => e_rt f_67_18 rfl)))))))))))
theorem pg_68 (pc : Nat) : fe0 68 pc = lk prg_68 pc := rfl
theorem f_68_0 : fe0 68 0 = some (.aload_n 0, 1, 0, 0, 0, 0, 0) := (pg_68 0).trans rfl
theorem f_68_1 : fe0 68 1 = some (.aload_n 1, 1, 0, 0, 0, 0, 0) := (pg_68 1).trans rfl
theorem f_68_2 : fe0 68 2 = some (.getfield 15, 3, 5, 1, 0, 0, 1215) := (pg_68 2).trans rfl
theorem f_68_5 : fe0 68 5 = some (.putfield 15, 3, 5, 1, 0, 0, 1215) := (pg_68 5).trans rfl
theorem f_68_8 : fe0 68 8 = some (.aload_n 0, 1, 0, 0, 0, 0, 0) := (pg_68 8).trans rfl
theorem f_68_9 : fe0 68 9 = some (.aload_n 1, 1, 0, 0, 0, 0, 0) := (pg_68 9).trans rfl
theorem f_68_10 : fe0 68 10 = some (.getfield 19, 3, 5, 2, 0, 0, 1217) := (pg_68 10).trans rfl
theorem f_68_13 : fe0 68 13 = some (.putfield 19, 3, 5, 2, 0, 0, 1217) := (pg_68 13).trans rfl
theorem f_68_16 : fe0 68 16 = some (.aload_n 1, 1, 0, 0, 0, 0, 0) := (pg_68 16).trans rfl
theorem f_68_17 : fe0 68 17 = some (.getfield 9, 3, 5, 0, 1, 0, 1213) := (pg_68 17).trans rfl
theorem f_68_20 : fe0 68 20 = some (.iconst 0, 1, 0, 0, 0, 0, 0) := (pg_68 20).trans rfl
theorem f_68_21 : fe0 68 21 = some (.aload_n 0, 1, 0, 0, 0, 0, 0) := (pg_68 21).trans rfl
theorem f_68_22 : fe0 68 22 = some (.getfield 9, 3, 5, 0, 1, 0, 1213) := (pg_68 22).trans rfl
theorem f_68_25 : fe0 68 25 = some (.iconst 0, 1, 0, 0, 0, 0, 0) := (pg_68 25).trans rfl
theorem f_68_26 : fe0 68 26 = some (.bipush 24, 2, 0, 0, 0, 0, 0) := (pg_68 26).trans rfl
theorem f_68_28 : fe0 68 28 = some (.invokestatic 28, 3, 0, 0, 9, 0, 4209) := (pg_68 28).trans rfl
theorem f_68_31 : fe0 68 31 = some (.return_, 1, 0, 0, 0, 0, 0) := (pg_68 31).trans rfl
theorem q_68_0 (d : Nat) (l0 : Nat) (l1 : Nat) (μ : aMem) : Rn d 68 (0, [.ref l0, .ref l1], [], μ) = if (mS μ l1).1 = 5 then (if (mS μ l0).1 = 5 then (if (mS μ (mR μ l1 0)).1 = 10 ∧ (mS μ (mR μ l0 0)).1 = 10 ∧ ¬ (0 : Int32) < 0 ∧ ¬ (0 : Int32) < 0 ∧ ¬ (24 : Int32) < 0 ∧ ix 0 + ix 24 ≤ (mS μ (mR μ l1 0)).2 ∧ ix 0 + ix 24 ≤ (mS μ (mR μ l0 0)).2 then (some (none, cpyF (setF (setF μ l0 1 (mF μ l1 1)) l0 2 (mF (setF μ l0 1 (mF μ l1 1)) l1 2)) (mR μ l1 0) (mR μ l0 0) (ix 0) (ix 0) (ix 24))) else none) else none) else none :=
  (e_nx f_68_0 rfl).trans ((e_nx f_68_1 rfl).trans ((e_gd f_68_2 rfl).trans (g_congr (Iff.rfl) (fun h1 => (e_gd (L := [.ref l0, .ref l1]) (st := [.int (mF μ l1 1), .ref l0]) (μ := μ) f_68_5 rfl).trans (g_congr (pi_iff rfl) (fun h2 => (e_nx f_68_8 rfl).trans ((e_nx f_68_9 rfl).trans ((e_gk f_68_10 (h1) rfl).trans ((e_gk (L := [.ref l0, .ref l1]) (st := [.int (mF (setF μ l0 1 (mF μ l1 1)) l1 2), .ref l0]) (μ := setF μ l0 1 (mF μ l1 1)) f_68_13 ((pi_iff rfl).mpr h2) rfl).trans ((e_nx f_68_16 rfl).trans ((e_gk f_68_17 (h1) rfl).trans ((e_nx (q := (_, _, .int 0 :: _, _)) f_68_20 rfl).trans ((e_nx f_68_21 rfl).trans ((e_gk f_68_22 (h2) rfl).trans ((e_nx (q := (_, _, .int 0 :: _, _)) f_68_25 rfl).trans ((e_nx (q := (_, _, .int 24 :: _, _)) f_68_26 rfl).trans ((e_gd (L := [.ref l0, .ref l1]) (st := [.int 24, .int 0, .ref (mR μ l0 0), .int 0, .ref (mR μ l1 0)]) (μ := setF (setF μ l0 1 (mF μ l1 1)) l0 2 (mF (setF μ l0 1 (mF μ l1 1)) l1 2)) f_68_28 rfl).trans (g_congr (ac_iff (Nat.le_of_ble_eq_true rfl)) (fun h3 => e_rt f_68_31 rfl)))))))))))))))))))
theorem pg_69 (pc : Nat) : fe0 69 pc = lk prg_69 pc := rfl
theorem f_69_0 : fe0 69 0 = some (.iload_n 1, 1, 0, 0, 0, 0, 0) := (pg_69 0).trans rfl
theorem f_69_1 : fe0 69 1 = some (.ifCond .lt 21, 3, 0, 0, 0, 0, 0) := (pg_69 1).trans rfl
theorem f_69_4 : fe0 69 4 = some (.iload_n 1, 1, 0, 0, 0, 0, 0) := (pg_69 4).trans rfl
theorem f_69_5 : fe0 69 5 = some (.aload_n 0, 1, 0, 0, 0, 0, 0) := (pg_69 5).trans rfl
theorem f_69_6 : fe0 69 6 = some (.getfield 19, 3, 5, 2, 0, 0, 1217) := (pg_69 6).trans rfl
theorem f_69_9 : fe0 69 9 = some (.if_icmp .ge 13, 3, 0, 0, 0, 0, 0) := (pg_69 9).trans rfl
theorem f_69_12 : fe0 69 12 = some (.iload_n 1, 1, 0, 0, 0, 0, 0) := (pg_69 12).trans rfl
theorem f_69_13 : fe0 69 13 = some (.bipush 24, 2, 0, 0, 0, 0, 0) := (pg_69 13).trans rfl
theorem f_69_15 : fe0 69 15 = some (.if_icmp .ge 7, 3, 0, 0, 0, 0, 0) := (pg_69 15).trans rfl
theorem f_69_18 : fe0 69 18 = some (.iconst 1, 1, 0, 0, 0, 0, 0) := (pg_69 18).trans rfl
theorem f_69_19 : fe0 69 19 = some (.goto 4, 3, 0, 0, 0, 0, 0) := (pg_69 19).trans rfl
theorem f_69_22 : fe0 69 22 = some (.iconst 0, 1, 0, 0, 0, 0, 0) := (pg_69 22).trans rfl
theorem f_69_23 : fe0 69 23 = some (.ireturn, 1, 1, 0, 0, 0, 0) := (pg_69 23).trans rfl
theorem q_69_0 (d : Nat) (l0 : Nat) (x1 : Int32) (μ : aMem) : Rn d 69 (0, [.ref l0, .int x1], [], μ) = if x1 < 0 then (some (some (.int 0), μ)) else (if (mS μ l0).1 = 5 then (if (mF μ l0 2) ≤ x1 then (some (some (.int 0), μ)) else (if 24 ≤ x1 then (some (some (.int 0), μ)) else (some (some (.int 1), μ)))) else none) :=
  (e_nx f_69_0 rfl).trans ((e_lt f_69_1 rfl).trans (b_congr (fun h1 => (e_nx (q := (_, _, .int 0 :: _, _)) f_69_22 rfl).trans (e_rt f_69_23 rfl)) (fun h1 => (e_nx f_69_4 rfl).trans ((e_nx f_69_5 rfl).trans ((e_gd f_69_6 rfl).trans (g_congr (Iff.rfl) (fun h2 => (e_ge f_69_9 rfl).trans (b_congr (fun h3 => (e_nx (q := (_, _, .int 0 :: _, _)) f_69_22 rfl).trans (e_rt f_69_23 rfl)) (fun h3 => (e_nx f_69_12 rfl).trans ((e_nx (q := (_, _, .int 24 :: _, _)) f_69_13 rfl).trans ((e_ge f_69_15 rfl).trans (b_congr (fun h4 => (e_nx (q := (_, _, .int 0 :: _, _)) f_69_22 rfl).trans (e_rt f_69_23 rfl)) (fun h4 => (e_nx (q := (_, _, .int 1 :: _, _)) f_69_18 rfl).trans ((e_nx f_69_19 rfl).trans (e_rt f_69_23 rfl)))))))))))))))
theorem pg_70 (pc : Nat) : fe0 70 pc = lk prg_70 pc := rfl
theorem f_70_0 : fe0 70 0 = some (.iload_n 1, 1, 0, 0, 0, 0, 0) := (pg_70 0).trans rfl
theorem f_70_1 : fe0 70 1 = some (.ifCond .lt 29, 3, 0, 0, 0, 0, 0) := (pg_70 1).trans rfl
theorem f_70_4 : fe0 70 4 = some (.iload_n 2, 1, 0, 0, 0, 0, 0) := (pg_70 4).trans rfl
theorem f_70_5 : fe0 70 5 = some (.ifCond .lt 25, 3, 0, 0, 0, 0, 0) := (pg_70 5).trans rfl
theorem f_70_8 : fe0 70 8 = some (.iload_n 1, 1, 0, 0, 0, 0, 0) := (pg_70 8).trans rfl
theorem f_70_9 : fe0 70 9 = some (.aload_n 0, 1, 0, 0, 0, 0, 0) := (pg_70 9).trans rfl
theorem f_70_10 : fe0 70 10 = some (.getfield 19, 3, 5, 2, 0, 0, 1217) := (pg_70 10).trans rfl
theorem f_70_13 : fe0 70 13 = some (.if_icmp .gt 17, 3, 0, 0, 0, 0, 0) := (pg_70 13).trans rfl
theorem f_70_16 : fe0 70 16 = some (.iload_n 2, 1, 0, 0, 0, 0, 0) := (pg_70 16).trans rfl
theorem f_70_17 : fe0 70 17 = some (.aload_n 0, 1, 0, 0, 0, 0, 0) := (pg_70 17).trans rfl
theorem f_70_18 : fe0 70 18 = some (.getfield 19, 3, 5, 2, 0, 0, 1217) := (pg_70 18).trans rfl
theorem f_70_21 : fe0 70 21 = some (.iload_n 1, 1, 0, 0, 0, 0, 0) := (pg_70 21).trans rfl
theorem f_70_22 : fe0 70 22 = some (.isub, 1, 0, 0, 0, 0, 0) := (pg_70 22).trans rfl
theorem f_70_23 : fe0 70 23 = some (.if_icmp .gt 7, 3, 0, 0, 0, 0, 0) := (pg_70 23).trans rfl
theorem f_70_26 : fe0 70 26 = some (.iconst 1, 1, 0, 0, 0, 0, 0) := (pg_70 26).trans rfl
theorem f_70_27 : fe0 70 27 = some (.goto 4, 3, 0, 0, 0, 0, 0) := (pg_70 27).trans rfl
theorem f_70_30 : fe0 70 30 = some (.iconst 0, 1, 0, 0, 0, 0, 0) := (pg_70 30).trans rfl
theorem f_70_31 : fe0 70 31 = some (.ireturn, 1, 1, 0, 0, 0, 0) := (pg_70 31).trans rfl
theorem q_70_0 (d : Nat) (l0 : Nat) (x1 : Int32) (x2 : Int32) (μ : aMem) : Rn d 70 (0, [.ref l0, .int x1, .int x2], [], μ) = if x1 < 0 then (some (some (.int 0), μ)) else (if x2 < 0 then (some (some (.int 0), μ)) else (if (mS μ l0).1 = 5 then (if (mF μ l0 2) < x1 then (some (some (.int 0), μ)) else (if ((mF μ l0 2) - x1) < x2 then (some (some (.int 0), μ)) else (some (some (.int 1), μ)))) else none)) :=
  (e_nx f_70_0 rfl).trans ((e_lt f_70_1 rfl).trans (b_congr (fun h1 => (e_nx (q := (_, _, .int 0 :: _, _)) f_70_30 rfl).trans (e_rt f_70_31 rfl)) (fun h1 => (e_nx f_70_4 rfl).trans ((e_lt f_70_5 rfl).trans (b_congr (fun h2 => (e_nx (q := (_, _, .int 0 :: _, _)) f_70_30 rfl).trans (e_rt f_70_31 rfl)) (fun h2 => (e_nx f_70_8 rfl).trans ((e_nx f_70_9 rfl).trans ((e_gd f_70_10 rfl).trans (g_congr (Iff.rfl) (fun h3 => (e_gt f_70_13 rfl).trans (b_congr (fun h4 => (e_nx (q := (_, _, .int 0 :: _, _)) f_70_30 rfl).trans (e_rt f_70_31 rfl)) (fun h4 => (e_nx f_70_16 rfl).trans ((e_nx f_70_17 rfl).trans ((e_gk f_70_18 (h3) rfl).trans ((e_nx f_70_21 rfl).trans ((e_nx f_70_22 rfl).trans ((e_gt f_70_23 rfl).trans (b_congr (fun h5 => (e_nx (q := (_, _, .int 0 :: _, _)) f_70_30 rfl).trans (e_rt f_70_31 rfl)) (fun h5 => (e_nx (q := (_, _, .int 1 :: _, _)) f_70_26 rfl).trans ((e_nx f_70_27 rfl).trans (e_rt f_70_31 rfl)))))))))))))))))))))
theorem pg_71 (pc : Nat) : fe0 71 pc = lk prg_71 pc := rfl
theorem f_71_0 : fe0 71 0 = some (.aload_n 0, 1, 0, 0, 0, 0, 0) := (pg_71 0).trans rfl
theorem f_71_1 : fe0 71 1 = some (.iload_n 1, 1, 0, 0, 0, 0, 0) := (pg_71 1).trans rfl
theorem f_71_2 : fe0 71 2 = some (.invokevirtual 34, 3, 69, 1, 0, 5, 4147) := (pg_71 2).trans rfl
theorem f_71_5 : fe0 71 5 = some (.ifCond .eq 18, 3, 0, 0, 0, 0, 0) := (pg_71 5).trans rfl
theorem f_71_8 : fe0 71 8 = some (.aload_n 0, 1, 0, 0, 0, 0, 0) := (pg_71 8).trans rfl
theorem f_71_9 : fe0 71 9 = some (.getfield 9, 3, 5, 0, 1, 0, 1213) := (pg_71 9).trans rfl
theorem f_71_12 : fe0 71 12 = some (.iload_n 1, 1, 0, 0, 0, 0, 0) := (pg_71 12).trans rfl
theorem f_71_13 : fe0 71 13 = some (.iaload, 1, 0, 0, 0, 0, 0) := (pg_71 13).trans rfl
theorem f_71_14 : fe0 71 14 = some (.ldc 38, 2, 0, 0, 3294967291, 0, 4148) := (pg_71 14).trans rfl
theorem f_71_16 : fe0 71 16 = some (.if_icmp .eq 7, 3, 0, 0, 0, 0, 0) := (pg_71 16).trans rfl
theorem f_71_19 : fe0 71 19 = some (.iconst 1, 1, 0, 0, 0, 0, 0) := (pg_71 19).trans rfl
theorem f_71_20 : fe0 71 20 = some (.goto 4, 3, 0, 0, 0, 0, 0) := (pg_71 20).trans rfl
theorem f_71_23 : fe0 71 23 = some (.iconst 0, 1, 0, 0, 0, 0, 0) := (pg_71 23).trans rfl
theorem f_71_24 : fe0 71 24 = some (.ireturn, 1, 1, 0, 0, 0, 0) := (pg_71 24).trans rfl
theorem q_71_0 (d : Nat) (l0 : Nat) (x1 : Int32) (μ : aMem) : Rn (d + 1) 71 (0, [.ref l0, .int x1], [], μ) = if (mS μ l0).1 = 5 ∧ l0 < 999999 then ((cI d 69 [.ref l0, .int x1] μ).bind fun p1 => if p1.1 = 0 then (some (some (.int 0), p1.2)) else (if (mS p1.2 l0).1 = 5 then ((rdI p1.2 (mR p1.2 l0 0) x1).bind fun v5 => if v5 = (-1000000005) then (some (some (.int 0), p1.2)) else (some (some (.int 1), p1.2))) else none)) else none :=
  (e_nx f_71_0 rfl).trans ((e_nx f_71_1 rfl).trans ((e_gI (L := [.ref l0, .int x1]) (st := [.int x1, .ref l0]) (μ := μ) (L' := [.ref l0, .int x1]) (st' := []) f_71_2 rfl rfl).trans (g_congr (v_c2 rfl (Nat.le_of_ble_eq_true rfl)) (fun h2 => m_congr fun p1 => (e_eq f_71_5 rfl).trans (b_congr (fun h3 => (e_nx (q := (_, _, .int 0 :: _, _)) f_71_23 rfl).trans (e_rt f_71_24 rfl)) (fun h3 => (e_nx f_71_8 rfl).trans ((e_gd f_71_9 rfl).trans (g_congr (Iff.rfl) (fun h4 => (e_nx f_71_12 rfl).trans ((e_ia (L := [.ref l0, .int x1]) (r := []) (μ := p1.2) f_71_13).trans (m_congr fun v5 => (e_nx (q := (_, _, .int (-1000000005) :: _, _)) f_71_14 rfl).trans ((e_eq f_71_16 rfl).trans (b_congr (fun h6 => (e_nx (q := (_, _, .int 0 :: _, _)) f_71_23 rfl).trans (e_rt f_71_24 rfl)) (fun h6 => (e_nx (q := (_, _, .int 1 :: _, _)) f_71_19 rfl).trans ((e_nx f_71_20 rfl).trans (e_rt f_71_24 rfl))))))))))))))))
theorem pg_72 (pc : Nat) : fe0 72 pc = lk prg_72 pc := rfl
theorem f_72_0 : fe0 72 0 = some (.iconst 0, 1, 0, 0, 0, 0, 0) := (pg_72 0).trans rfl
theorem f_72_1 : fe0 72 1 = some (.istore_n 1, 1, 0, 0, 0, 0, 0) := (pg_72 1).trans rfl
theorem f_72_2 : fe0 72 2 = some (.iconst 0, 1, 0, 0, 0, 0, 0) := (pg_72 2).trans rfl
theorem f_72_3 : fe0 72 3 = some (.istore_n 2, 1, 0, 0, 0, 0, 0) := (pg_72 3).trans rfl
theorem f_72_4 : fe0 72 4 = some (.iload_n 2, 1, 0, 0, 0, 0, 0) := (pg_72 4).trans rfl
theorem f_72_5 : fe0 72 5 = some (.aload_n 0, 1, 0, 0, 0, 0, 0) := (pg_72 5).trans rfl
theorem f_72_6 : fe0 72 6 = some (.getfield 19, 3, 5, 2, 0, 0, 1217) := (pg_72 6).trans rfl
theorem f_72_9 : fe0 72 9 = some (.if_icmp .ge 20, 3, 0, 0, 0, 0, 0) := (pg_72 9).trans rfl
theorem f_72_12 : fe0 72 12 = some (.aload_n 0, 1, 0, 0, 0, 0, 0) := (pg_72 12).trans rfl
theorem f_72_13 : fe0 72 13 = some (.iload_n 2, 1, 0, 0, 0, 0, 0) := (pg_72 13).trans rfl
theorem f_72_14 : fe0 72 14 = some (.invokevirtual 39, 3, 71, 1, 0, 5, 4158) := (pg_72 14).trans rfl
theorem f_72_17 : fe0 72 17 = some (.ifCond .eq 6, 3, 0, 0, 0, 0, 0) := (pg_72 17).trans rfl
theorem f_72_20 : fe0 72 20 = some (.iinc 1 1, 3, 0, 0, 0, 0, 0) := (pg_72 20).trans rfl
theorem f_72_23 : fe0 72 23 = some (.iinc 2 1, 3, 0, 0, 0, 0, 0) := (pg_72 23).trans rfl
theorem f_72_26 : fe0 72 26 = some (.goto (-22), 3, 0, 0, 0, 0, 0) := (pg_72 26).trans rfl
theorem f_72_29 : fe0 72 29 = some (.iload_n 1, 1, 0, 0, 0, 0, 0) := (pg_72 29).trans rfl
theorem f_72_30 : fe0 72 30 = some (.ireturn, 1, 0, 0, 0, 0, 0) := (pg_72 30).trans rfl
theorem q_72_0 (d : Nat) (l0 : Nat) (μ : aMem) : Rn (d + 1) 72 (0, [.ref l0, un, un], [], μ) = Rn (d + 1) 72 (4, [.ref l0, .int 0, .int 0], [], μ) :=
  (e_nx (q := (_, _, .int 0 :: _, _)) f_72_0 rfl).trans ((e_nx (q := (_, [.ref l0, .int 0, un], _, _)) f_72_1 rfl).trans ((e_nx (q := (_, _, .int 0 :: _, _)) f_72_2 rfl).trans (e_nx (q := (_, [.ref l0, .int 0, .int 0], _, _)) f_72_3 rfl)))
theorem q_72_4 (d : Nat) (l0 : Nat) (x1 : Int32) (x2 : Int32) (μ : aMem) : Rn (d + 1) 72 (4, [.ref l0, .int x1, .int x2], [], μ) = if (mS μ l0).1 = 5 then (if (mF μ l0 2) ≤ x2 then (some (some (.int x1), μ)) else (if (mS μ l0).1 = 5 ∧ l0 < 999999 then ((cI d 71 [.ref l0, .int x2] μ).bind fun p3 => if p3.1 = 0 then (Rn (d + 1) 72 (4, [.ref l0, .int x1, .int (x2 + 1)], [], p3.2)) else (Rn (d + 1) 72 (4, [.ref l0, .int (x1 + 1), .int (x2 + 1)], [], p3.2))) else none)) else none :=
  (e_nx f_72_4 rfl).trans ((e_nx f_72_5 rfl).trans ((e_gd f_72_6 rfl).trans (g_congr (Iff.rfl) (fun h1 => (e_ge f_72_9 rfl).trans (b_congr (fun h2 => (e_nx f_72_29 rfl).trans (e_rt f_72_30 rfl)) (fun h2 => (e_nx f_72_12 rfl).trans ((e_nx f_72_13 rfl).trans ((e_gI (L := [.ref l0, .int x1, .int x2]) (st := [.int x2, .ref l0]) (μ := μ) (L' := [.ref l0, .int x1, .int x2]) (st' := []) f_72_14 rfl rfl).trans (g_congr (v_c2 rfl (Nat.le_of_ble_eq_true rfl)) (fun h4 => m_congr fun p3 => (e_eq f_72_17 rfl).trans (b_congr (fun h5 => (e_nx (q := (_, [.ref l0, .int x1, .int (x2 + 1)], _, _)) f_72_23 rfl).trans (e_nx f_72_26 rfl)) (fun h5 => (e_nx (q := (_, [.ref l0, .int (x1 + 1), .int x2], _, _)) f_72_20 rfl).trans ((e_nx (q := (_, [.ref l0, .int (x1 + 1), .int (x2 + 1)], _, _)) f_72_23 rfl).trans (e_nx f_72_26 rfl))))))))))))))
theorem pg_73 (pc : Nat) : fe0 73 pc = lk prg_73 pc := rfl
theorem f_73_0 : fe0 73 0 = some (.iconst (-1), 1, 0, 0, 0, 0, 0) := (pg_73 0).trans rfl
theorem f_73_1 : fe0 73 1 = some (.istore_n 1, 1, 0, 0, 0, 0, 0) := (pg_73 1).trans rfl
theorem f_73_2 : fe0 73 2 = some (.iconst 0, 1, 0, 0, 0, 0, 0) := (pg_73 2).trans rfl
theorem f_73_3 : fe0 73 3 = some (.istore_n 2, 1, 0, 0, 0, 0, 0) := (pg_73 3).trans rfl
theorem f_73_4 : fe0 73 4 = some (.iload_n 2, 1, 0, 0, 0, 0, 0) := (pg_73 4).trans rfl
theorem f_73_5 : fe0 73 5 = some (.aload_n 0, 1, 0, 0, 0, 0, 0) := (pg_73 5).trans rfl
theorem f_73_6 : fe0 73 6 = some (.getfield 19, 3, 5, 2, 0, 0, 1217) := (pg_73 6).trans rfl
theorem f_73_9 : fe0 73 9 = some (.if_icmp .ge 38, 3, 0, 0, 0, 0, 0) := (pg_73 9).trans rfl
theorem f_73_12 : fe0 73 12 = some (.aload_n 0, 1, 0, 0, 0, 0, 0) := (pg_73 12).trans rfl
theorem f_73_13 : fe0 73 13 = some (.iload_n 2, 1, 0, 0, 0, 0, 0) := (pg_73 13).trans rfl
theorem f_73_14 : fe0 73 14 = some (.invokevirtual 39, 3, 71, 1, 0, 5, 4158) := (pg_73 14).trans rfl
theorem f_73_17 : fe0 73 17 = some (.ifCond .eq 24, 3, 0, 0, 0, 0, 0) := (pg_73 17).trans rfl
theorem f_73_20 : fe0 73 20 = some (.iload_n 1, 1, 0, 0, 0, 0, 0) := (pg_73 20).trans rfl
theorem f_73_21 : fe0 73 21 = some (.ifCond .lt 18, 3, 0, 0, 0, 0, 0) := (pg_73 21).trans rfl
theorem f_73_24 : fe0 73 24 = some (.aload_n 0, 1, 0, 0, 0, 0, 0) := (pg_73 24).trans rfl
theorem f_73_25 : fe0 73 25 = some (.getfield 9, 3, 5, 0, 1, 0, 1213) := (pg_73 25).trans rfl
theorem f_73_28 : fe0 73 28 = some (.iload_n 2, 1, 0, 0, 0, 0, 0) := (pg_73 28).trans rfl
theorem f_73_29 : fe0 73 29 = some (.iaload, 1, 0, 0, 0, 0, 0) := (pg_73 29).trans rfl
theorem f_73_30 : fe0 73 30 = some (.aload_n 0, 1, 0, 0, 0, 0, 0) := (pg_73 30).trans rfl
theorem f_73_31 : fe0 73 31 = some (.getfield 9, 3, 5, 0, 1, 0, 1213) := (pg_73 31).trans rfl
theorem f_73_34 : fe0 73 34 = some (.iload_n 1, 1, 0, 0, 0, 0, 0) := (pg_73 34).trans rfl
theorem f_73_35 : fe0 73 35 = some (.iaload, 1, 0, 0, 0, 0, 0) := (pg_73 35).trans rfl
theorem f_73_36 : fe0 73 36 = some (.if_icmp .ge 5, 3, 0, 0, 0, 0, 0) := (pg_73 36).trans rfl
theorem f_73_39 : fe0 73 39 = some (.iload_n 2, 1, 0, 0, 0, 0, 0) := (pg_73 39).trans rfl
theorem f_73_40 : fe0 73 40 = some (.istore_n 1, 1, 0, 0, 0, 0, 0) := (pg_73 40).trans rfl
theorem f_73_41 : fe0 73 41 = some (.iinc 2 1, 3, 0, 0, 0, 0, 0) := (pg_73 41).trans rfl
theorem f_73_44 : fe0 73 44 = some (.goto (-40), 3, 0, 0, 0, 0, 0) := (pg_73 44).trans rfl
theorem f_73_47 : fe0 73 47 = some (.iload_n 1, 1, 0, 0, 0, 0, 0) := (pg_73 47).trans rfl
theorem f_73_48 : fe0 73 48 = some (.ireturn, 1, 0, 0, 0, 0, 0) := (pg_73 48).trans rfl
theorem q_73_0 (d : Nat) (l0 : Nat) (μ : aMem) : Rn (d + 1) 73 (0, [.ref l0, un, un], [], μ) = Rn (d + 1) 73 (4, [.ref l0, .int (-1), .int 0], [], μ) :=
  (e_nx (q := (_, _, .int (-1) :: _, _)) f_73_0 rfl).trans ((e_nx (q := (_, [.ref l0, .int (-1), un], _, _)) f_73_1 rfl).trans ((e_nx (q := (_, _, .int 0 :: _, _)) f_73_2 rfl).trans (e_nx (q := (_, [.ref l0, .int (-1), .int 0], _, _)) f_73_3 rfl)))
theorem q_73_4 (d : Nat) (l0 : Nat) (x1 : Int32) (x2 : Int32) (μ : aMem) : Rn (d + 1) 73 (4, [.ref l0, .int x1, .int x2], [], μ) = if (mS μ l0).1 = 5 then (if (mF μ l0 2) ≤ x2 then (some (some (.int x1), μ)) else (if (mS μ l0).1 = 5 ∧ l0 < 999999 then ((cI d 71 [.ref l0, .int x2] μ).bind fun p3 => if p3.1 = 0 then (Rn (d + 1) 73 (4, [.ref l0, .int x1, .int (x2 + 1)], [], p3.2)) else (if x1 < 0 then (Rn (d + 1) 73 (4, [.ref l0, .int x2, .int (x2 + 1)], [], p3.2)) else (if (mS p3.2 l0).1 = 5 then ((rdI p3.2 (mR p3.2 l0 0) x2).bind fun v8 => (rdI p3.2 (mR p3.2 l0 0) x1).bind fun v9 => if v9 ≤ v8 then (Rn (d + 1) 73 (4, [.ref l0, .int x1, .int (x2 + 1)], [], p3.2)) else (Rn (d + 1) 73 (4, [.ref l0, .int x2, .int (x2 + 1)], [], p3.2))) else none))) else none)) else none :=
  (e_nx f_73_4 rfl).trans ((e_nx f_73_5 rfl).trans ((e_gd f_73_6 rfl).trans (g_congr (Iff.rfl) (fun h1 => (e_ge f_73_9 rfl).trans (b_congr (fun h2 => (e_nx f_73_47 rfl).trans (e_rt f_73_48 rfl)) (fun h2 => (e_nx f_73_12 rfl).trans ((e_nx f_73_13 rfl).trans ((e_gI (L := [.ref l0, .int x1, .int x2]) (st := [.int x2, .ref l0]) (μ := μ) (L' := [.ref l0, .int x1, .int x2]) (st' := []) f_73_14 rfl rfl).trans (g_congr (v_c2 rfl (Nat.le_of_ble_eq_true rfl)) (fun h4 => m_congr fun p3 => (e_eq f_73_17 rfl).trans (b_congr (fun h5 => (e_nx (q := (_, [.ref l0, .int x1, .int (x2 + 1)], _, _)) f_73_41 rfl).trans (e_nx f_73_44 rfl)) (fun h5 => (e_nx f_73_20 rfl).trans ((e_lt f_73_21 rfl).trans (b_congr (fun h6 => (e_nx f_73_39 rfl).trans ((e_nx (q := (_, [.ref l0, .int x2, .int x2], _, _)) f_73_40 rfl).trans ((e_nx (q := (_, [.ref l0, .int x2, .int (x2 + 1)], _, _)) f_73_41 rfl).trans (e_nx f_73_44 rfl)))) (fun h6 => (e_nx f_73_24 rfl).trans ((e_gd f_73_25 rfl).trans (g_congr (Iff.rfl) (fun h7 => (e_nx f_73_28 rfl).trans ((e_ia (L := [.ref l0, .int x1, .int x2]) (r := []) (μ := p3.2) f_73_29).trans (m_congr fun v8 => (e_nx f_73_30 rfl).trans ((e_gk f_73_31 (h7) rfl).trans ((e_nx f_73_34 rfl).trans ((e_ia (L := [.ref l0, .int x1, .int x2]) (r := [.int v8]) (μ := p3.2) f_73_35).trans (m_congr fun v9 => (e_ge f_73_36 rfl).trans (b_congr (fun h10 => (e_nx (q := (_, [.ref l0, .int x1, .int (x2 + 1)], _, _)) f_73_41 rfl).trans (e_nx f_73_44 rfl)) (fun h10 => (e_nx f_73_39 rfl).trans ((e_nx (q := (_, [.ref l0, .int x2, .int x2], _, _)) f_73_40 rfl).trans ((e_nx (q := (_, [.ref l0, .int x2, .int (x2 + 1)], _, _)) f_73_41 rfl).trans (e_nx f_73_44 rfl)))))))))))))))))))))))))))))
theorem pg_74 (pc : Nat) : fe0 74 pc = lk prg_74 pc := rfl
theorem f_74_0 : fe0 74 0 = some (.iconst (-1), 1, 0, 0, 0, 0, 0) := (pg_74 0).trans rfl
theorem f_74_1 : fe0 74 1 = some (.istore_n 1, 1, 0, 0, 0, 0, 0) := (pg_74 1).trans rfl
theorem f_74_2 : fe0 74 2 = some (.iconst 0, 1, 0, 0, 0, 0, 0) := (pg_74 2).trans rfl
theorem f_74_3 : fe0 74 3 = some (.istore_n 2, 1, 0, 0, 0, 0, 0) := (pg_74 3).trans rfl
theorem f_74_4 : fe0 74 4 = some (.iload_n 2, 1, 0, 0, 0, 0, 0) := (pg_74 4).trans rfl
theorem f_74_5 : fe0 74 5 = some (.aload_n 0, 1, 0, 0, 0, 0, 0) := (pg_74 5).trans rfl
theorem f_74_6 : fe0 74 6 = some (.getfield 19, 3, 5, 2, 0, 0, 1217) := (pg_74 6).trans rfl
theorem f_74_9 : fe0 74 9 = some (.if_icmp .ge 38, 3, 0, 0, 0, 0, 0) := (pg_74 9).trans rfl
theorem f_74_12 : fe0 74 12 = some (.aload_n 0, 1, 0, 0, 0, 0, 0) := (pg_74 12).trans rfl
theorem f_74_13 : fe0 74 13 = some (.iload_n 2, 1, 0, 0, 0, 0, 0) := (pg_74 13).trans rfl
theorem f_74_14 : fe0 74 14 = some (.invokevirtual 39, 3, 71, 1, 0, 5, 4158) := (pg_74 14).trans rfl
theorem f_74_17 : fe0 74 17 = some (.ifCond .eq 24, 3, 0, 0, 0, 0, 0) := (pg_74 17).trans rfl
theorem f_74_20 : fe0 74 20 = some (.iload_n 1, 1, 0, 0, 0, 0, 0) := (pg_74 20).trans rfl
theorem f_74_21 : fe0 74 21 = some (.ifCond .lt 18, 3, 0, 0, 0, 0, 0) := (pg_74 21).trans rfl
theorem f_74_24 : fe0 74 24 = some (.aload_n 0, 1, 0, 0, 0, 0, 0) := (pg_74 24).trans rfl
theorem f_74_25 : fe0 74 25 = some (.getfield 9, 3, 5, 0, 1, 0, 1213) := (pg_74 25).trans rfl
theorem f_74_28 : fe0 74 28 = some (.iload_n 2, 1, 0, 0, 0, 0, 0) := (pg_74 28).trans rfl
theorem f_74_29 : fe0 74 29 = some (.iaload, 1, 0, 0, 0, 0, 0) := (pg_74 29).trans rfl
theorem f_74_30 : fe0 74 30 = some (.aload_n 0, 1, 0, 0, 0, 0, 0) := (pg_74 30).trans rfl
theorem f_74_31 : fe0 74 31 = some (.getfield 9, 3, 5, 0, 1, 0, 1213) := (pg_74 31).trans rfl
theorem f_74_34 : fe0 74 34 = some (.iload_n 1, 1, 0, 0, 0, 0, 0) := (pg_74 34).trans rfl
theorem f_74_35 : fe0 74 35 = some (.iaload, 1, 0, 0, 0, 0, 0) := (pg_74 35).trans rfl
theorem f_74_36 : fe0 74 36 = some (.if_icmp .le 5, 3, 0, 0, 0, 0, 0) := (pg_74 36).trans rfl
theorem f_74_39 : fe0 74 39 = some (.iload_n 2, 1, 0, 0, 0, 0, 0) := (pg_74 39).trans rfl
theorem f_74_40 : fe0 74 40 = some (.istore_n 1, 1, 0, 0, 0, 0, 0) := (pg_74 40).trans rfl
theorem f_74_41 : fe0 74 41 = some (.iinc 2 1, 3, 0, 0, 0, 0, 0) := (pg_74 41).trans rfl
theorem f_74_44 : fe0 74 44 = some (.goto (-40), 3, 0, 0, 0, 0, 0) := (pg_74 44).trans rfl
theorem f_74_47 : fe0 74 47 = some (.iload_n 1, 1, 0, 0, 0, 0, 0) := (pg_74 47).trans rfl
theorem f_74_48 : fe0 74 48 = some (.ireturn, 1, 0, 0, 0, 0, 0) := (pg_74 48).trans rfl
theorem q_74_0 (d : Nat) (l0 : Nat) (μ : aMem) : Rn (d + 1) 74 (0, [.ref l0, un, un], [], μ) = Rn (d + 1) 74 (4, [.ref l0, .int (-1), .int 0], [], μ) :=
  (e_nx (q := (_, _, .int (-1) :: _, _)) f_74_0 rfl).trans ((e_nx (q := (_, [.ref l0, .int (-1), un], _, _)) f_74_1 rfl).trans ((e_nx (q := (_, _, .int 0 :: _, _)) f_74_2 rfl).trans (e_nx (q := (_, [.ref l0, .int (-1), .int 0], _, _)) f_74_3 rfl)))
theorem q_74_4 (d : Nat) (l0 : Nat) (x1 : Int32) (x2 : Int32) (μ : aMem) : Rn (d + 1) 74 (4, [.ref l0, .int x1, .int x2], [], μ) = if (mS μ l0).1 = 5 then (if (mF μ l0 2) ≤ x2 then (some (some (.int x1), μ)) else (if (mS μ l0).1 = 5 ∧ l0 < 999999 then ((cI d 71 [.ref l0, .int x2] μ).bind fun p3 => if p3.1 = 0 then (Rn (d + 1) 74 (4, [.ref l0, .int x1, .int (x2 + 1)], [], p3.2)) else (if x1 < 0 then (Rn (d + 1) 74 (4, [.ref l0, .int x2, .int (x2 + 1)], [], p3.2)) else (if (mS p3.2 l0).1 = 5 then ((rdI p3.2 (mR p3.2 l0 0) x2).bind fun v8 => (rdI p3.2 (mR p3.2 l0 0) x1).bind fun v9 => if v8 ≤ v9 then (Rn (d + 1) 74 (4, [.ref l0, .int x1, .int (x2 + 1)], [], p3.2)) else (Rn (d + 1) 74 (4, [.ref l0, .int x2, .int (x2 + 1)], [], p3.2))) else none))) else none)) else none :=
  (e_nx f_74_4 rfl).trans ((e_nx f_74_5 rfl).trans ((e_gd f_74_6 rfl).trans (g_congr (Iff.rfl) (fun h1 => (e_ge f_74_9 rfl).trans (b_congr (fun h2 => (e_nx f_74_47 rfl).trans (e_rt f_74_48 rfl)) (fun h2 => (e_nx f_74_12 rfl).trans ((e_nx f_74_13 rfl).trans ((e_gI (L := [.ref l0, .int x1, .int x2]) (st := [.int x2, .ref l0]) (μ := μ) (L' := [.ref l0, .int x1, .int x2]) (st' := []) f_74_14 rfl rfl).trans (g_congr (v_c2 rfl (Nat.le_of_ble_eq_true rfl)) (fun h4 => m_congr fun p3 => (e_eq f_74_17 rfl).trans (b_congr (fun h5 => (e_nx (q := (_, [.ref l0, .int x1, .int (x2 + 1)], _, _)) f_74_41 rfl).trans (e_nx f_74_44 rfl)) (fun h5 => (e_nx f_74_20 rfl).trans ((e_lt f_74_21 rfl).trans (b_congr (fun h6 => (e_nx f_74_39 rfl).trans ((e_nx (q := (_, [.ref l0, .int x2, .int x2], _, _)) f_74_40 rfl).trans ((e_nx (q := (_, [.ref l0, .int x2, .int (x2 + 1)], _, _)) f_74_41 rfl).trans (e_nx f_74_44 rfl)))) (fun h6 => (e_nx f_74_24 rfl).trans ((e_gd f_74_25 rfl).trans (g_congr (Iff.rfl) (fun h7 => (e_nx f_74_28 rfl).trans ((e_ia (L := [.ref l0, .int x1, .int x2]) (r := []) (μ := p3.2) f_74_29).trans (m_congr fun v8 => (e_nx f_74_30 rfl).trans ((e_gk f_74_31 (h7) rfl).trans ((e_nx f_74_34 rfl).trans ((e_ia (L := [.ref l0, .int x1, .int x2]) (r := [.int v8]) (μ := p3.2) f_74_35).trans (m_congr fun v9 => (e_le f_74_36 rfl).trans (b_congr (fun h10 => (e_nx (q := (_, [.ref l0, .int x1, .int (x2 + 1)], _, _)) f_74_41 rfl).trans (e_nx f_74_44 rfl)) (fun h10 => (e_nx f_74_39 rfl).trans ((e_nx (q := (_, [.ref l0, .int x2, .int x2], _, _)) f_74_40 rfl).trans ((e_nx (q := (_, [.ref l0, .int x2, .int (x2 + 1)], _, _)) f_74_41 rfl).trans (e_nx f_74_44 rfl)))))))))))))))))))))))))))))
theorem pg_75 (pc : Nat) : fe0 75 pc = lk prg_75 pc := rfl
theorem f_75_0 : fe0 75 0 = some (.iconst 0, 1, 0, 0, 0, 0, 0) := (pg_75 0).trans rfl
theorem f_75_1 : fe0 75 1 = some (.istore_n 1, 1, 0, 0, 0, 0, 0) := (pg_75 1).trans rfl
theorem f_75_2 : fe0 75 2 = some (.iconst 0, 1, 0, 0, 0, 0, 0) := (pg_75 2).trans rfl
theorem f_75_3 : fe0 75 3 = some (.istore_n 2, 1, 0, 0, 0, 0, 0) := (pg_75 3).trans rfl
theorem f_75_4 : fe0 75 4 = some (.iload_n 2, 1, 0, 0, 0, 0, 0) := (pg_75 4).trans rfl
theorem f_75_5 : fe0 75 5 = some (.aload_n 0, 1, 0, 0, 0, 0, 0) := (pg_75 5).trans rfl
theorem f_75_6 : fe0 75 6 = some (.getfield 19, 3, 5, 2, 0, 0, 1217) := (pg_75 6).trans rfl
theorem f_75_9 : fe0 75 9 = some (.if_icmp .ge 32, 3, 0, 0, 0, 0, 0) := (pg_75 9).trans rfl
theorem f_75_12 : fe0 75 12 = some (.aload_n 0, 1, 0, 0, 0, 0, 0) := (pg_75 12).trans rfl
theorem f_75_13 : fe0 75 13 = some (.iload_n 2, 1, 0, 0, 0, 0, 0) := (pg_75 13).trans rfl
theorem f_75_14 : fe0 75 14 = some (.invokevirtual 39, 3, 71, 1, 0, 5, 4158) := (pg_75 14).trans rfl
theorem f_75_17 : fe0 75 17 = some (.ifCond .eq 18, 3, 0, 0, 0, 0, 0) := (pg_75 17).trans rfl
theorem f_75_20 : fe0 75 20 = some (.aload_n 0, 1, 0, 0, 0, 0, 0) := (pg_75 20).trans rfl
theorem f_75_21 : fe0 75 21 = some (.getfield 9, 3, 5, 0, 1, 0, 1213) := (pg_75 21).trans rfl
theorem f_75_24 : fe0 75 24 = some (.iload_n 2, 1, 0, 0, 0, 0, 0) := (pg_75 24).trans rfl
theorem f_75_25 : fe0 75 25 = some (.iaload, 1, 0, 0, 0, 0, 0) := (pg_75 25).trans rfl
theorem f_75_26 : fe0 75 26 = some (.invokestatic 42, 3, 76, 1, 2, 0, 4171) := (pg_75 26).trans rfl
theorem f_75_29 : fe0 75 29 = some (.ifCond .eq 6, 3, 0, 0, 0, 0, 0) := (pg_75 29).trans rfl
theorem f_75_32 : fe0 75 32 = some (.iinc 1 1, 3, 0, 0, 0, 0, 0) := (pg_75 32).trans rfl
theorem f_75_35 : fe0 75 35 = some (.iinc 2 1, 3, 0, 0, 0, 0, 0) := (pg_75 35).trans rfl
theorem f_75_38 : fe0 75 38 = some (.goto (-34), 3, 0, 0, 0, 0, 0) := (pg_75 38).trans rfl
theorem f_75_41 : fe0 75 41 = some (.iload_n 1, 1, 0, 0, 0, 0, 0) := (pg_75 41).trans rfl
theorem f_75_42 : fe0 75 42 = some (.ireturn, 1, 0, 0, 0, 0, 0) := (pg_75 42).trans rfl
theorem q_75_0 (d : Nat) (l0 : Nat) (μ : aMem) : Rn (d + 1) 75 (0, [.ref l0, un, un], [], μ) = Rn (d + 1) 75 (4, [.ref l0, .int 0, .int 0], [], μ) :=
  (e_nx (q := (_, _, .int 0 :: _, _)) f_75_0 rfl).trans ((e_nx (q := (_, [.ref l0, .int 0, un], _, _)) f_75_1 rfl).trans ((e_nx (q := (_, _, .int 0 :: _, _)) f_75_2 rfl).trans (e_nx (q := (_, [.ref l0, .int 0, .int 0], _, _)) f_75_3 rfl)))
theorem q_75_4 (d : Nat) (l0 : Nat) (x1 : Int32) (x2 : Int32) (μ : aMem) : Rn (d + 1) 75 (4, [.ref l0, .int x1, .int x2], [], μ) = if (mS μ l0).1 = 5 then (if (mF μ l0 2) ≤ x2 then (some (some (.int x1), μ)) else (if (mS μ l0).1 = 5 ∧ l0 < 999999 then ((cI d 71 [.ref l0, .int x2] μ).bind fun p3 => if p3.1 = 0 then (Rn (d + 1) 75 (4, [.ref l0, .int x1, .int (x2 + 1)], [], p3.2)) else (if (mS p3.2 l0).1 = 5 then ((rdI p3.2 (mR p3.2 l0 0) x2).bind fun v7 => (cI d 76 [.int v7] p3.2).bind fun p8 => if p8.1 = 0 then (Rn (d + 1) 75 (4, [.ref l0, .int x1, .int (x2 + 1)], [], p8.2)) else (Rn (d + 1) 75 (4, [.ref l0, .int (x1 + 1), .int (x2 + 1)], [], p8.2))) else none)) else none)) else none :=
  (e_nx f_75_4 rfl).trans ((e_nx f_75_5 rfl).trans ((e_gd f_75_6 rfl).trans (g_congr (Iff.rfl) (fun h1 => (e_ge f_75_9 rfl).trans (b_congr (fun h2 => (e_nx f_75_41 rfl).trans (e_rt f_75_42 rfl)) (fun h2 => (e_nx f_75_12 rfl).trans ((e_nx f_75_13 rfl).trans ((e_gI (L := [.ref l0, .int x1, .int x2]) (st := [.int x2, .ref l0]) (μ := μ) (L' := [.ref l0, .int x1, .int x2]) (st' := []) f_75_14 rfl rfl).trans (g_congr (v_c2 rfl (Nat.le_of_ble_eq_true rfl)) (fun h4 => m_congr fun p3 => (e_eq f_75_17 rfl).trans (b_congr (fun h5 => (e_nx (q := (_, [.ref l0, .int x1, .int (x2 + 1)], _, _)) f_75_35 rfl).trans (e_nx f_75_38 rfl)) (fun h5 => (e_nx f_75_20 rfl).trans ((e_gd f_75_21 rfl).trans (g_congr (Iff.rfl) (fun h6 => (e_nx f_75_24 rfl).trans ((e_ia (L := [.ref l0, .int x1, .int x2]) (r := []) (μ := p3.2) f_75_25).trans (m_congr fun v7 => (e_cI (L := [.ref l0, .int x1, .int x2]) (st := [.int v7]) (μ := p3.2) (L' := [.ref l0, .int x1, .int x2]) (st' := []) f_75_26 rfl rfl).trans (m_congr fun p8 => (e_eq f_75_29 rfl).trans (b_congr (fun h9 => (e_nx (q := (_, [.ref l0, .int x1, .int (x2 + 1)], _, _)) f_75_35 rfl).trans (e_nx f_75_38 rfl)) (fun h9 => (e_nx (q := (_, [.ref l0, .int (x1 + 1), .int x2], _, _)) f_75_32 rfl).trans ((e_nx (q := (_, [.ref l0, .int (x1 + 1), .int (x2 + 1)], _, _)) f_75_35 rfl).trans (e_nx f_75_38 rfl))))))))))))))))))))))
theorem pg_76 (pc : Nat) : fe0 76 pc = lk prg_76 pc := rfl
theorem f_76_0 : fe0 76 0 = some (.iconst 0, 1, 0, 0, 0, 0, 0) := (pg_76 0).trans rfl
theorem f_76_1 : fe0 76 1 = some (.istore_n 1, 1, 0, 0, 0, 0, 0) := (pg_76 1).trans rfl
theorem f_76_2 : fe0 76 2 = some (.iload_n 1, 1, 0, 0, 0, 0, 0) := (pg_76 2).trans rfl
theorem f_76_3 : fe0 76 3 = some (.getstatic 45, 3, 0, 1, 0, 0, 4174) := (pg_76 3).trans rfl
theorem f_76_6 : fe0 76 6 = some (.arraylength, 1, 0, 0, 0, 0, 0) := (pg_76 6).trans rfl
theorem f_76_7 : fe0 76 7 = some (.if_icmp .ge 20, 3, 0, 0, 0, 0, 0) := (pg_76 7).trans rfl
theorem f_76_10 : fe0 76 10 = some (.getstatic 45, 3, 0, 1, 0, 0, 4174) := (pg_76 10).trans rfl
theorem f_76_13 : fe0 76 13 = some (.iload_n 1, 1, 0, 0, 0, 0, 0) := (pg_76 13).trans rfl
theorem f_76_14 : fe0 76 14 = some (.iaload, 1, 0, 0, 0, 0, 0) := (pg_76 14).trans rfl
theorem f_76_15 : fe0 76 15 = some (.iload_n 0, 1, 0, 0, 0, 0, 0) := (pg_76 15).trans rfl
theorem f_76_16 : fe0 76 16 = some (.if_icmp .ne 5, 3, 0, 0, 0, 0, 0) := (pg_76 16).trans rfl
theorem f_76_19 : fe0 76 19 = some (.iconst 1, 1, 0, 0, 0, 0, 0) := (pg_76 19).trans rfl
theorem f_76_20 : fe0 76 20 = some (.ireturn, 1, 1, 0, 0, 0, 0) := (pg_76 20).trans rfl
theorem f_76_21 : fe0 76 21 = some (.iinc 1 1, 3, 0, 0, 0, 0, 0) := (pg_76 21).trans rfl
theorem f_76_24 : fe0 76 24 = some (.goto (-22), 3, 0, 0, 0, 0, 0) := (pg_76 24).trans rfl
theorem f_76_27 : fe0 76 27 = some (.iconst 0, 1, 0, 0, 0, 0, 0) := (pg_76 27).trans rfl
theorem f_76_28 : fe0 76 28 = some (.ireturn, 1, 1, 0, 0, 0, 0) := (pg_76 28).trans rfl
theorem q_76_0 (d : Nat) (x0 : Int32) (μ : aMem) : Rn d 76 (0, [.int x0, un], [], μ) = Rn d 76 (2, [.int x0, .int 0], [], μ) :=
  (e_nx (q := (_, _, .int 0 :: _, _)) f_76_0 rfl).trans (e_nx (q := (_, [.int x0, .int 0], _, _)) f_76_1 rfl)
theorem q_76_2 (d : Nat) (x0 : Int32) (x1 : Int32) (μ : aMem) : Rn d 76 (2, [.int x0, .int x1], [], μ) = (rdL μ 1000000).bind fun v1 => if v1 ≤ x1 then (some (some (.int 0), μ)) else ((rdI μ 1000000 x1).bind fun v3 => if v3 = x0 then (some (some (.int 1), μ)) else (Rn d 76 (2, [.int x0, .int (x1 + 1)], [], μ))) :=
  (e_nx f_76_2 rfl).trans ((e_nx f_76_3 rfl).trans ((e_al (L := [.int x0, .int x1]) (r := [.int x1]) (μ := μ) f_76_6).trans (m_congr fun v1 => (e_ge f_76_7 rfl).trans (b_congr (fun h2 => (e_nx (q := (_, _, .int 0 :: _, _)) f_76_27 rfl).trans (e_rt f_76_28 rfl)) (fun h2 => (e_nx f_76_10 rfl).trans ((e_nx f_76_13 rfl).trans ((e_ia (L := [.int x0, .int x1]) (r := []) (μ := μ) f_76_14).trans (m_congr fun v3 => (e_nx f_76_15 rfl).trans ((e_ne f_76_16 rfl).trans (b_congr (fun h4 => (e_nx (q := (_, _, .int 1 :: _, _)) f_76_19 rfl).trans (e_rt f_76_20 rfl)) (fun h4 => (e_nx (q := (_, [.int x0, .int (x1 + 1)], _, _)) f_76_21 rfl).trans (e_nx f_76_24 rfl))))))))))))
theorem pg_77 (pc : Nat) : fe0 77 pc = lk prg_77 pc := rfl
theorem f_77_0 : fe0 77 0 = some (.aload_n 0, 1, 0, 0, 0, 0, 0) := (pg_77 0).trans rfl
theorem f_77_1 : fe0 77 1 = some (.invokevirtual 48, 3, 72, 0, 0, 5, 4179) := (pg_77 1).trans rfl
theorem f_77_4 : fe0 77 4 = some (.iconst 1, 1, 0, 0, 0, 0, 0) := (pg_77 4).trans rfl
theorem f_77_5 : fe0 77 5 = some (.isub, 1, 0, 0, 0, 0, 0) := (pg_77 5).trans rfl
theorem f_77_6 : fe0 77 6 = some (.iconst 2, 1, 0, 0, 0, 0, 0) := (pg_77 6).trans rfl
theorem f_77_7 : fe0 77 7 = some (.idiv, 1, 0, 0, 0, 0, 0) := (pg_77 7).trans rfl
theorem f_77_8 : fe0 77 8 = some (.istore_n 1, 1, 0, 0, 0, 0, 0) := (pg_77 8).trans rfl
theorem f_77_9 : fe0 77 9 = some (.iconst 0, 1, 0, 0, 0, 0, 0) := (pg_77 9).trans rfl
theorem f_77_10 : fe0 77 10 = some (.istore_n 2, 1, 0, 0, 0, 0, 0) := (pg_77 10).trans rfl
theorem f_77_11 : fe0 77 11 = some (.iload_n 2, 1, 0, 0, 0, 0, 0) := (pg_77 11).trans rfl
theorem f_77_12 : fe0 77 12 = some (.aload_n 0, 1, 0, 0, 0, 0, 0) := (pg_77 12).trans rfl
theorem f_77_13 : fe0 77 13 = some (.getfield 19, 3, 5, 2, 0, 0, 1217) := (pg_77 13).trans rfl
theorem f_77_16 : fe0 77 16 = some (.if_icmp .ge 56, 3, 0, 0, 0, 0, 0) := (pg_77 16).trans rfl
theorem f_77_19 : fe0 77 19 = some (.aload_n 0, 1, 0, 0, 0, 0, 0) := (pg_77 19).trans rfl
theorem f_77_20 : fe0 77 20 = some (.iload_n 2, 1, 0, 0, 0, 0, 0) := (pg_77 20).trans rfl
theorem f_77_21 : fe0 77 21 = some (.invokevirtual 39, 3, 71, 1, 0, 5, 4158) := (pg_77 21).trans rfl
theorem f_77_24 : fe0 77 24 = some (.ifCond .eq 42, 3, 0, 0, 0, 0, 0) := (pg_77 24).trans rfl
theorem f_77_27 : fe0 77 27 = some (.aload_n 0, 1, 0, 0, 0, 0, 0) := (pg_77 27).trans rfl
theorem f_77_28 : fe0 77 28 = some (.aload_n 0, 1, 0, 0, 0, 0, 0) := (pg_77 28).trans rfl
theorem f_77_29 : fe0 77 29 = some (.getfield 9, 3, 5, 0, 1, 0, 1213) := (pg_77 29).trans rfl
theorem f_77_32 : fe0 77 32 = some (.iload_n 2, 1, 0, 0, 0, 0, 0) := (pg_77 32).trans rfl
theorem f_77_33 : fe0 77 33 = some (.iaload, 1, 0, 0, 0, 0, 0) := (pg_77 33).trans rfl
theorem f_77_34 : fe0 77 34 = some (.invokevirtual 52, 3, 78, 1, 0, 5, 4180) := (pg_77 34).trans rfl
theorem f_77_37 : fe0 77 37 = some (.istore_n 3, 1, 0, 0, 0, 0, 0) := (pg_77 37).trans rfl
theorem f_77_38 : fe0 77 38 = some (.iload_n 3, 1, 0, 0, 0, 0, 0) := (pg_77 38).trans rfl
theorem f_77_39 : fe0 77 39 = some (.iload_n 1, 1, 0, 0, 0, 0, 0) := (pg_77 39).trans rfl
theorem f_77_40 : fe0 77 40 = some (.if_icmp .gt 26, 3, 0, 0, 0, 0, 0) := (pg_77 40).trans rfl
theorem f_77_43 : fe0 77 43 = some (.iload_n 1, 1, 0, 0, 0, 0, 0) := (pg_77 43).trans rfl
theorem f_77_44 : fe0 77 44 = some (.aload_n 0, 1, 0, 0, 0, 0, 0) := (pg_77 44).trans rfl
theorem f_77_45 : fe0 77 45 = some (.aload_n 0, 1, 0, 0, 0, 0, 0) := (pg_77 45).trans rfl
theorem f_77_46 : fe0 77 46 = some (.getfield 9, 3, 5, 0, 1, 0, 1213) := (pg_77 46).trans rfl
theorem f_77_49 : fe0 77 49 = some (.iload_n 2, 1, 0, 0, 0, 0, 0) := (pg_77 49).trans rfl
theorem f_77_50 : fe0 77 50 = some (.iaload, 1, 0, 0, 0, 0, 0) := (pg_77 50).trans rfl
theorem f_77_51 : fe0 77 51 = some (.iconst 1, 1, 0, 0, 0, 0, 0) := (pg_77 51).trans rfl
theorem f_77_52 : fe0 77 52 = some (.iadd, 1, 0, 0, 0, 0, 0) := (pg_77 52).trans rfl
theorem f_77_53 : fe0 77 53 = some (.invokevirtual 52, 3, 78, 1, 0, 5, 4180) := (pg_77 53).trans rfl
theorem f_77_56 : fe0 77 56 = some (.if_icmp .ge 10, 3, 0, 0, 0, 0, 0) := (pg_77 56).trans rfl
theorem f_77_59 : fe0 77 59 = some (.aload_n 0, 1, 0, 0, 0, 0, 0) := (pg_77 59).trans rfl
theorem f_77_60 : fe0 77 60 = some (.getfield 9, 3, 5, 0, 1, 0, 1213) := (pg_77 60).trans rfl
theorem f_77_63 : fe0 77 63 = some (.iload_n 2, 1, 0, 0, 0, 0, 0) := (pg_77 63).trans rfl
theorem f_77_64 : fe0 77 64 = some (.iaload, 1, 0, 0, 0, 0, 0) := (pg_77 64).trans rfl
theorem f_77_65 : fe0 77 65 = some (.ireturn, 1, 0, 0, 0, 0, 0) := (pg_77 65).trans rfl
theorem f_77_66 : fe0 77 66 = some (.iinc 2 1, 3, 0, 0, 0, 0, 0) := (pg_77 66).trans rfl
theorem f_77_69 : fe0 77 69 = some (.goto (-58), 3, 0, 0, 0, 0, 0) := (pg_77 69).trans rfl
theorem f_77_72 : fe0 77 72 = some (.ldc 38, 2, 0, 0, 3294967291, 0, 4148) := (pg_77 72).trans rfl
theorem f_77_74 : fe0 77 74 = some (.ireturn, 1, 0, 0, 0, 0, 0) := (pg_77 74).trans rfl
theorem q_77_0 (d : Nat) (l0 : Nat) (μ : aMem) : Rn (d + 1) 77 (0, [.ref l0, un, un, un], [], μ) = if (mS μ l0).1 = 5 ∧ l0 < 999999 then ((cI d 72 [.ref l0] μ).bind fun p1 => Rn (d + 1) 77 (11, [.ref l0, .int ((p1.1 - 1) / 2), .int 0, un], [], p1.2)) else none :=
  (e_nx f_77_0 rfl).trans ((e_gI (L := [.ref l0, un, un, un]) (st := [.ref l0]) (μ := μ) (L' := [.ref l0, un, un, un]) (st' := []) f_77_1 rfl rfl).trans (g_congr (v_c2 rfl (Nat.le_of_ble_eq_true rfl)) (fun h2 => m_congr fun p1 => (e_nx (q := (_, _, .int 1 :: _, _)) f_77_4 rfl).trans ((e_nx f_77_5 rfl).trans ((e_nx (q := (_, _, .int 2 :: _, _)) f_77_6 rfl).trans ((e_nx f_77_7 rfl).trans ((e_nx (q := (_, [.ref l0, .int ((p1.1 - 1) / 2), un, un], _, _)) f_77_8 rfl).trans ((e_nx (q := (_, _, .int 0 :: _, _)) f_77_9 rfl).trans (e_nx (q := (_, [.ref l0, .int ((p1.1 - 1) / 2), .int 0, un], _, _)) f_77_10 rfl)))))))))
theorem q_77_11 (d : Nat) (l0 : Nat) (x1 : Int32) (x2 : Int32) (w3 : Value) (μ : aMem) : Rn (d + 1) 77 (11, [.ref l0, .int x1, .int x2, w3], [], μ) = if (mS μ l0).1 = 5 then (if (mF μ l0 2) ≤ x2 then (some (some (.int (-1000000005)), μ)) else (if (mS μ l0).1 = 5 ∧ l0 < 999999 then ((cI d 71 [.ref l0, .int x2] μ).bind fun p3 => if p3.1 = 0 then (Rn (d + 1) 77 (11, [.ref l0, .int x1, .int (x2 + 1), w3], [], p3.2)) else (if (mS p3.2 l0).1 = 5 then ((rdI p3.2 (mR p3.2 l0 0) x2).bind fun v7 => if (mS p3.2 l0).1 = 5 ∧ l0 < 999999 then ((cI d 78 [.ref l0, .int v7] p3.2).bind fun p8 => if x1 < p8.1 then (Rn (d + 1) 77 (11, [.ref l0, .int x1, .int (x2 + 1), .int p8.1], [], p8.2)) else (if (mS p8.2 l0).1 = 5 then ((rdI p8.2 (mR p8.2 l0 0) x2).bind fun v12 => if (mS p8.2 l0).1 = 5 ∧ l0 < 999999 then ((cI d 78 [.ref l0, .int (v12 + 1)] p8.2).bind fun p13 => if p13.1 ≤ x1 then (Rn (d + 1) 77 (11, [.ref l0, .int x1, .int (x2 + 1), .int p8.1], [], p13.2)) else (if (mS p13.2 l0).1 = 5 then ((rdI p13.2 (mR p13.2 l0 0) x2).bind fun v17 => some (some (.int v17), p13.2)) else none)) else none) else none)) else none) else none)) else none)) else none :=
  (e_nx f_77_11 rfl).trans ((e_nx f_77_12 rfl).trans ((e_gd f_77_13 rfl).trans (g_congr (Iff.rfl) (fun h1 => (e_ge f_77_16 rfl).trans (b_congr (fun h2 => (e_nx (q := (_, _, .int (-1000000005) :: _, _)) f_77_72 rfl).trans (e_rt f_77_74 rfl)) (fun h2 => (e_nx f_77_19 rfl).trans ((e_nx f_77_20 rfl).trans ((e_gI (L := [.ref l0, .int x1, .int x2, w3]) (st := [.int x2, .ref l0]) (μ := μ) (L' := [.ref l0, .int x1, .int x2, w3]) (st' := []) f_77_21 rfl rfl).trans (g_congr (v_c2 rfl (Nat.le_of_ble_eq_true rfl)) (fun h4 => m_congr fun p3 => (e_eq f_77_24 rfl).trans (b_congr (fun h5 => (e_nx (q := (_, [.ref l0, .int x1, .int (x2 + 1), w3], _, _)) f_77_66 rfl).trans (e_nx f_77_69 rfl)) (fun h5 => (e_nx f_77_27 rfl).trans ((e_nx f_77_28 rfl).trans ((e_gd f_77_29 rfl).trans (g_congr (Iff.rfl) (fun h6 => (e_nx f_77_32 rfl).trans ((e_ia (L := [.ref l0, .int x1, .int x2, w3]) (r := [.ref l0]) (μ := p3.2) f_77_33).trans (m_congr fun v7 => (e_gI (L := [.ref l0, .int x1, .int x2, w3]) (st := [.int v7, .ref l0]) (μ := p3.2) (L' := [.ref l0, .int x1, .int x2, w3]) (st' := []) f_77_34 rfl rfl).trans (g_congr (v_c2 rfl (Nat.le_of_ble_eq_true rfl)) (fun h9 => m_congr fun p8 => (e_nx (q := (_, [.ref l0, .int x1, .int x2, .int p8.1], _, _)) f_77_37 rfl).trans ((e_nx f_77_38 rfl).trans ((e_nx f_77_39 rfl).trans ((e_gt f_77_40 rfl).trans (b_congr (fun h10 => (e_nx (q := (_, [.ref l0, .int x1, .int (x2 + 1), .int p8.1], _, _)) f_77_66 rfl).trans (e_nx f_77_69 rfl)) (fun h10 => (e_nx f_77_43 rfl).trans ((e_nx f_77_44 rfl).trans ((e_nx f_77_45 rfl).trans ((e_gd f_77_46 rfl).trans (g_congr (Iff.rfl) (fun h11 => (e_nx f_77_49 rfl).trans ((e_ia (L := [.ref l0, .int x1, .int x2, .int p8.1]) (r := [.ref l0, .int x1]) (μ := p8.2) f_77_50).trans (m_congr fun v12 => (e_nx (q := (_, _, .int 1 :: _, _)) f_77_51 rfl).trans ((e_nx f_77_52 rfl).trans ((e_gI (L := [.ref l0, .int x1, .int x2, .int p8.1]) (st := [.int (v12 + 1), .ref l0, .int x1]) (μ := p8.2) (L' := [.ref l0, .int x1, .int x2, .int p8.1]) (st' := [.int x1]) f_77_53 rfl rfl).trans (g_congr (v_c2 rfl (Nat.le_of_ble_eq_true rfl)) (fun h14 => m_congr fun p13 => (e_ge f_77_56 rfl).trans (b_congr (fun h15 => (e_nx (q := (_, [.ref l0, .int x1, .int (x2 + 1), .int p8.1], _, _)) f_77_66 rfl).trans (e_nx f_77_69 rfl)) (fun h15 => (e_nx f_77_59 rfl).trans ((e_gd f_77_60 rfl).trans (g_congr (Iff.rfl) (fun h16 => (e_nx f_77_63 rfl).trans ((e_ia (L := [.ref l0, .int x1, .int x2, .int p8.1]) (r := []) (μ := p13.2) f_77_64).trans (m_congr fun v17 => e_rt f_77_65 rfl)))))))))))))))))))))))))))))))))))))))))))
theorem pg_78 (pc : Nat) : fe0 78 pc = lk prg_78 pc := rfl
theorem f_78_0 : fe0 78 0 = some (.iconst 0, 1, 0, 0, 0, 0, 0) := (pg_78 0).trans rfl
theorem f_78_1 : fe0 78 1 = some (.istore_n 2, 1, 0, 0, 0, 0, 0) := (pg_78 1).trans rfl
theorem f_78_2 : fe0 78 2 = some (.iconst 0, 1, 0, 0, 0, 0, 0) := (pg_78 2).trans rfl
theorem f_78_3 : fe0 78 3 = some (.istore_n 3, 1, 0, 0, 0, 0, 0) := (pg_78 3).trans rfl
theorem f_78_4 : fe0 78 4 = some (.iload_n 3, 1, 0, 0, 0, 0, 0) := (pg_78 4).trans rfl
theorem f_78_5 : fe0 78 5 = some (.aload_n 0, 1, 0, 0, 0, 0, 0) := (pg_78 5).trans rfl
theorem f_78_6 : fe0 78 6 = some (.getfield 19, 3, 5, 2, 0, 0, 1217) := (pg_78 6).trans rfl
theorem f_78_9 : fe0 78 9 = some (.if_icmp .ge 30, 3, 0, 0, 0, 0, 0) := (pg_78 9).trans rfl
theorem f_78_12 : fe0 78 12 = some (.aload_n 0, 1, 0, 0, 0, 0, 0) := (pg_78 12).trans rfl
theorem f_78_13 : fe0 78 13 = some (.iload_n 3, 1, 0, 0, 0, 0, 0) := (pg_78 13).trans rfl
theorem f_78_14 : fe0 78 14 = some (.invokevirtual 39, 3, 71, 1, 0, 5, 4158) := (pg_78 14).trans rfl
theorem f_78_17 : fe0 78 17 = some (.ifCond .eq 16, 3, 0, 0, 0, 0, 0) := (pg_78 17).trans rfl
theorem f_78_20 : fe0 78 20 = some (.aload_n 0, 1, 0, 0, 0, 0, 0) := (pg_78 20).trans rfl
theorem f_78_21 : fe0 78 21 = some (.getfield 9, 3, 5, 0, 1, 0, 1213) := (pg_78 21).trans rfl
theorem f_78_24 : fe0 78 24 = some (.iload_n 3, 1, 0, 0, 0, 0, 0) := (pg_78 24).trans rfl
theorem f_78_25 : fe0 78 25 = some (.iaload, 1, 0, 0, 0, 0, 0) := (pg_78 25).trans rfl
theorem f_78_26 : fe0 78 26 = some (.iload_n 1, 1, 0, 0, 0, 0, 0) := (pg_78 26).trans rfl
theorem f_78_27 : fe0 78 27 = some (.if_icmp .ge 6, 3, 0, 0, 0, 0, 0) := (pg_78 27).trans rfl
theorem f_78_30 : fe0 78 30 = some (.iinc 2 1, 3, 0, 0, 0, 0, 0) := (pg_78 30).trans rfl
theorem f_78_33 : fe0 78 33 = some (.iinc 3 1, 3, 0, 0, 0, 0, 0) := (pg_78 33).trans rfl
theorem f_78_36 : fe0 78 36 = some (.goto (-32), 3, 0, 0, 0, 0, 0) := (pg_78 36).trans rfl
theorem f_78_39 : fe0 78 39 = some (.iload_n 2, 1, 0, 0, 0, 0, 0) := (pg_78 39).trans rfl
theorem f_78_40 : fe0 78 40 = some (.ireturn, 1, 0, 0, 0, 0, 0) := (pg_78 40).trans rfl
theorem q_78_0 (d : Nat) (l0 : Nat) (x1 : Int32) (μ : aMem) : Rn (d + 1) 78 (0, [.ref l0, .int x1, un, un], [], μ) = Rn (d + 1) 78 (4, [.ref l0, .int x1, .int 0, .int 0], [], μ) :=
  (e_nx (q := (_, _, .int 0 :: _, _)) f_78_0 rfl).trans ((e_nx (q := (_, [.ref l0, .int x1, .int 0, un], _, _)) f_78_1 rfl).trans ((e_nx (q := (_, _, .int 0 :: _, _)) f_78_2 rfl).trans (e_nx (q := (_, [.ref l0, .int x1, .int 0, .int 0], _, _)) f_78_3 rfl)))
theorem q_78_4 (d : Nat) (l0 : Nat) (x1 : Int32) (x2 : Int32) (x3 : Int32) (μ : aMem) : Rn (d + 1) 78 (4, [.ref l0, .int x1, .int x2, .int x3], [], μ) = if (mS μ l0).1 = 5 then (if (mF μ l0 2) ≤ x3 then (some (some (.int x2), μ)) else (if (mS μ l0).1 = 5 ∧ l0 < 999999 then ((cI d 71 [.ref l0, .int x3] μ).bind fun p3 => if p3.1 = 0 then (Rn (d + 1) 78 (4, [.ref l0, .int x1, .int x2, .int (x3 + 1)], [], p3.2)) else (if (mS p3.2 l0).1 = 5 then ((rdI p3.2 (mR p3.2 l0 0) x3).bind fun v7 => if x1 ≤ v7 then (Rn (d + 1) 78 (4, [.ref l0, .int x1, .int x2, .int (x3 + 1)], [], p3.2)) else (Rn (d + 1) 78 (4, [.ref l0, .int x1, .int (x2 + 1), .int (x3 + 1)], [], p3.2))) else none)) else none)) else none :=
  (e_nx f_78_4 rfl).trans ((e_nx f_78_5 rfl).trans ((e_gd f_78_6 rfl).trans (g_congr (Iff.rfl) (fun h1 => (e_ge f_78_9 rfl).trans (b_congr (fun h2 => (e_nx f_78_39 rfl).trans (e_rt f_78_40 rfl)) (fun h2 => (e_nx f_78_12 rfl).trans ((e_nx f_78_13 rfl).trans ((e_gI (L := [.ref l0, .int x1, .int x2, .int x3]) (st := [.int x3, .ref l0]) (μ := μ) (L' := [.ref l0, .int x1, .int x2, .int x3]) (st' := []) f_78_14 rfl rfl).trans (g_congr (v_c2 rfl (Nat.le_of_ble_eq_true rfl)) (fun h4 => m_congr fun p3 => (e_eq f_78_17 rfl).trans (b_congr (fun h5 => (e_nx (q := (_, [.ref l0, .int x1, .int x2, .int (x3 + 1)], _, _)) f_78_33 rfl).trans (e_nx f_78_36 rfl)) (fun h5 => (e_nx f_78_20 rfl).trans ((e_gd f_78_21 rfl).trans (g_congr (Iff.rfl) (fun h6 => (e_nx f_78_24 rfl).trans ((e_ia (L := [.ref l0, .int x1, .int x2, .int x3]) (r := []) (μ := p3.2) f_78_25).trans (m_congr fun v7 => (e_nx f_78_26 rfl).trans ((e_ge f_78_27 rfl).trans (b_congr (fun h8 => (e_nx (q := (_, [.ref l0, .int x1, .int x2, .int (x3 + 1)], _, _)) f_78_33 rfl).trans (e_nx f_78_36 rfl)) (fun h8 => (e_nx (q := (_, [.ref l0, .int x1, .int (x2 + 1), .int x3], _, _)) f_78_30 rfl).trans ((e_nx (q := (_, [.ref l0, .int x1, .int (x2 + 1), .int (x3 + 1)], _, _)) f_78_33 rfl).trans (e_nx f_78_36 rfl))))))))))))))))))))))
theorem pg_79 (pc : Nat) : fe0 79 pc = lk prg_79 pc := rfl
theorem f_79_0 : fe0 79 0 = some (.aload_n 0, 1, 0, 0, 0, 0, 0) := (pg_79 0).trans rfl
theorem f_79_1 : fe0 79 1 = some (.invokespecial 3, 3, 0, 0, 6, 0, 1232) := (pg_79 1).trans rfl
theorem f_79_4 : fe0 79 4 = some (.aload_n 0, 1, 0, 0, 0, 0, 0) := (pg_79 4).trans rfl
theorem f_79_5 : fe0 79 5 = some (.iconst 0, 1, 0, 0, 0, 0, 0) := (pg_79 5).trans rfl
theorem f_79_6 : fe0 79 6 = some (.putfield 9, 3, 6, 0, 0, 0, 1237) := (pg_79 6).trans rfl
theorem f_79_9 : fe0 79 9 = some (.aload_n 0, 1, 0, 0, 0, 0, 0) := (pg_79 9).trans rfl
theorem f_79_10 : fe0 79 10 = some (.new 15, 3, 1, 5, 1059, 1004, 1233) := (pg_79 10).trans rfl
theorem f_79_13 : fe0 79 13 = some (.dup, 1, 0, 0, 0, 0, 0) := (pg_79 13).trans rfl
theorem f_79_14 : fe0 79 14 = some (.invokespecial 17, 3, 5, 0, 5, 0, 1234) := (pg_79 14).trans rfl
theorem f_79_17 : fe0 79 17 = some (.putfield 18, 3, 6, 1, 1, 0, 1239) := (pg_79 17).trans rfl
theorem f_79_20 : fe0 79 20 = some (.aload_n 0, 1, 0, 0, 0, 0, 0) := (pg_79 20).trans rfl
theorem f_79_21 : fe0 79 21 = some (.new 22, 3, 5, 3, 1208, 1008, 1235) := (pg_79 21).trans rfl
theorem f_79_24 : fe0 79 24 = some (.dup, 1, 0, 0, 0, 0, 0) := (pg_79 24).trans rfl
theorem f_79_25 : fe0 79 25 = some (.invokespecial 24, 3, 66, 0, 5, 0, 1236) := (pg_79 25).trans rfl
theorem f_79_28 : fe0 79 28 = some (.putfield 25, 3, 6, 2, 1, 0, 2001) := (pg_79 28).trans rfl
theorem f_79_31 : fe0 79 31 = some (.return_, 1, 0, 0, 0, 0, 0) := (pg_79 31).trans rfl
theorem q_79_0 (d : Nat) (l0 : Nat) (μ : aMem) : Rn (d + 1) 79 (0, [.ref l0], [], μ) = if l0 < 999999 then (if (mS μ l0).1 = 6 then (if mN μ < 900000 then (if (mN μ) < 999999 then ((cV d 5 [.ref (mN μ)] (newC (setF μ l0 0 0) 1 5)).bind fun p4 => if (mS p4 l0).1 = 6 ∧ (mN μ) ≤ 999999 then (if mN p4 < 900000 then (if (mN p4) < 999999 then ((cV d 66 [.ref (mN p4)] (newC (setR p4 l0 1 (mN μ)) 5 3)).bind fun p8 => if (mS p8 l0).1 = 6 ∧ (mN p4) ≤ 999999 then (some (none, setR p8 l0 2 (mN p4))) else none) else none) else none) else none) else none) else none) else none) else none :=
  (e_nx f_79_0 rfl).trans ((e_gd (L := [.ref l0]) (st := [.ref l0]) (μ := μ) f_79_1 rfl).trans (g_congr (oi_iff (Nat.le_of_ble_eq_true rfl)) (fun h1 => (e_nx f_79_4 rfl).trans ((e_nx (q := (_, _, .int 0 :: _, _)) f_79_5 rfl).trans ((e_gd (L := [.ref l0]) (st := [.int 0, .ref l0]) (μ := μ) f_79_6 rfl).trans (g_congr (pi_iff rfl) (fun h2 => (e_nx f_79_9 rfl).trans ((e_gd (L := [.ref l0]) (st := [.ref l0]) (μ := setF μ l0 0 0) f_79_10 rfl).trans (g_congr (nw_iff (by decide)) (fun h3 => (e_nx f_79_13 rfl).trans ((e_gV (L := [.ref l0]) (st := [.ref (mN μ), .ref (mN μ), .ref l0]) (μ := newC (setF μ l0 0 0) 1 5) (L' := [.ref l0]) (st' := [.ref (mN μ), .ref l0]) f_79_14 rfl rfl).trans (g_congr (v_c3 rfl (Nat.le_of_ble_eq_true rfl)) (fun h5 => m_congr fun p4 => (e_gd f_79_17 rfl).trans (g_congr (pr_iff rfl) (fun h6 => (e_nx f_79_20 rfl).trans ((e_gd (L := [.ref l0]) (st := [.ref l0]) (μ := setR p4 l0 1 (mN μ)) f_79_21 rfl).trans (g_congr (nw_iff (by decide)) (fun h7 => (e_nx f_79_24 rfl).trans ((e_gV (L := [.ref l0]) (st := [.ref (mN p4), .ref (mN p4), .ref l0]) (μ := newC (setR p4 l0 1 (mN μ)) 5 3) (L' := [.ref l0]) (st' := [.ref (mN p4), .ref l0]) f_79_25 rfl rfl).trans (g_congr (v_c3 rfl (Nat.le_of_ble_eq_true rfl)) (fun h9 => m_congr fun p8 => (e_gd f_79_28 rfl).trans (g_congr (pr_iff rfl) (fun h10 => e_rt f_79_31 rfl)))))))))))))))))))))))
theorem pg_80 (pc : Nat) : fe0 80 pc = lk prg_80 pc := rfl
theorem f_80_0 : fe0 80 0 = some (.aload_n 0, 1, 0, 0, 0, 0, 0) := (pg_80 0).trans rfl
theorem f_80_1 : fe0 80 1 = some (.invokespecial 1, 3, 0, 0, 6, 0, 4083) := (pg_80 1).trans rfl
theorem f_80_4 : fe0 80 4 = some (.aload_n 0, 1, 0, 0, 0, 0, 0) := (pg_80 4).trans rfl
theorem f_80_5 : fe0 80 5 = some (.iload_n 1, 1, 0, 0, 0, 0, 0) := (pg_80 5).trans rfl
theorem f_80_6 : fe0 80 6 = some (.putfield 7, 3, 7, 0, 0, 0, 4084) := (pg_80 6).trans rfl
theorem f_80_9 : fe0 80 9 = some (.aload_n 0, 1, 0, 0, 0, 0, 0) := (pg_80 9).trans rfl
theorem f_80_10 : fe0 80 10 = some (.iload_n 2, 1, 0, 0, 0, 0, 0) := (pg_80 10).trans rfl
theorem f_80_11 : fe0 80 11 = some (.putfield 13, 3, 7, 1, 0, 0, 4087) := (pg_80 11).trans rfl
theorem f_80_14 : fe0 80 14 = some (.aload_n 0, 1, 0, 0, 0, 0, 0) := (pg_80 14).trans rfl
theorem f_80_15 : fe0 80 15 = some (.aload_n 3, 1, 0, 0, 0, 0, 0) := (pg_80 15).trans rfl
theorem f_80_16 : fe0 80 16 = some (.putfield 16, 3, 7, 2, 1, 0, 4089) := (pg_80 16).trans rfl
theorem f_80_19 : fe0 80 19 = some (.return_, 1, 0, 0, 0, 0, 0) := (pg_80 19).trans rfl
theorem q_80_0 (d : Nat) (l0 : Nat) (x1 : Int32) (x2 : Int32) (l3 : Nat) (μ : aMem) : Rn d 80 (0, [.ref l0, .int x1, .int x2, .ref l3], [], μ) = if l0 < 999999 then (if (mS μ l0).1 = 7 then (if (mS μ l0).1 = 7 ∧ l3 ≤ 999999 then (some (none, setR (setF (setF μ l0 0 x1) l0 1 x2) l0 2 l3)) else none) else none) else none :=
  (e_nx f_80_0 rfl).trans ((e_gd (L := [.ref l0, .int x1, .int x2, .ref l3]) (st := [.ref l0]) (μ := μ) f_80_1 rfl).trans (g_congr (oi_iff (Nat.le_of_ble_eq_true rfl)) (fun h1 => (e_nx f_80_4 rfl).trans ((e_nx f_80_5 rfl).trans ((e_gd (L := [.ref l0, .int x1, .int x2, .ref l3]) (st := [.int x1, .ref l0]) (μ := μ) f_80_6 rfl).trans (g_congr (pi_iff rfl) (fun h2 => (e_nx f_80_9 rfl).trans ((e_nx f_80_10 rfl).trans ((e_gk (L := [.ref l0, .int x1, .int x2, .ref l3]) (st := [.int x2, .ref l0]) (μ := setF μ l0 0 x1) f_80_11 ((pi_iff rfl).mpr h2) rfl).trans ((e_nx f_80_14 rfl).trans ((e_nx f_80_15 rfl).trans ((e_gd f_80_16 rfl).trans (g_congr (pr_iff rfl) (fun h3 => e_rt f_80_19 rfl))))))))))))))
theorem pg_81 (pc : Nat) : fe0 81 pc = lk prg_81 pc := rfl
theorem f_81_0 : fe0 81 0 = some (.aload_n 0, 1, 0, 0, 0, 0, 0) := (pg_81 0).trans rfl
theorem f_81_1 : fe0 81 1 = some (.invokespecial 3, 3, 0, 0, 6, 0, 1025) := (pg_81 1).trans rfl
theorem f_81_4 : fe0 81 4 = some (.aload_n 0, 1, 0, 0, 0, 0, 0) := (pg_81 4).trans rfl
theorem f_81_5 : fe0 81 5 = some (.new 9, 3, 2, 7, 1029, 1002, 1028) := (pg_81 5).trans rfl
theorem f_81_8 : fe0 81 8 = some (.dup, 1, 0, 0, 0, 0, 0) := (pg_81 8).trans rfl
theorem f_81_9 : fe0 81 9 = some (.invokespecial 11, 3, 11, 0, 3, 0, 1030) := (pg_81 9).trans rfl
theorem f_81_12 : fe0 81 12 = some (.putfield 12, 3, 8, 0, 1, 0, 2013) := (pg_81 12).trans rfl
theorem f_81_15 : fe0 81 15 = some (.aload_n 0, 1, 0, 0, 0, 0, 0) := (pg_81 15).trans rfl
theorem f_81_16 : fe0 81 16 = some (.new 9, 3, 2, 7, 1029, 1002, 1028) := (pg_81 16).trans rfl
theorem f_81_19 : fe0 81 19 = some (.dup, 1, 0, 0, 0, 0, 0) := (pg_81 19).trans rfl
theorem f_81_20 : fe0 81 20 = some (.invokespecial 11, 3, 11, 0, 3, 0, 1030) := (pg_81 20).trans rfl
theorem f_81_23 : fe0 81 23 = some (.putfield 16, 3, 8, 1, 1, 0, 2014) := (pg_81 23).trans rfl
theorem f_81_26 : fe0 81 26 = some (.aload_n 0, 1, 0, 0, 0, 0, 0) := (pg_81 26).trans rfl
theorem f_81_27 : fe0 81 27 = some (.new 9, 3, 2, 7, 1029, 1002, 1028) := (pg_81 27).trans rfl
theorem f_81_30 : fe0 81 30 = some (.dup, 1, 0, 0, 0, 0, 0) := (pg_81 30).trans rfl
theorem f_81_31 : fe0 81 31 = some (.invokespecial 11, 3, 11, 0, 3, 0, 1030) := (pg_81 31).trans rfl
theorem f_81_34 : fe0 81 34 = some (.putfield 19, 3, 8, 2, 1, 0, 2015) := (pg_81 34).trans rfl
theorem f_81_37 : fe0 81 37 = some (.aload_n 0, 1, 0, 0, 0, 0, 0) := (pg_81 37).trans rfl
theorem f_81_38 : fe0 81 38 = some (.iconst 0, 1, 0, 0, 0, 0, 0) := (pg_81 38).trans rfl
theorem f_81_39 : fe0 81 39 = some (.putfield 22, 3, 8, 3, 2, 0, 2016) := (pg_81 39).trans rfl
theorem f_81_42 : fe0 81 42 = some (.aload_n 0, 1, 0, 0, 0, 0, 0) := (pg_81 42).trans rfl
theorem f_81_43 : fe0 81 43 = some (.new 26, 3, 4, 10, 1130, 1006, 1129) := (pg_81 43).trans rfl
theorem f_81_46 : fe0 81 46 = some (.dup, 1, 0, 0, 0, 0, 0) := (pg_81 46).trans rfl
theorem f_81_47 : fe0 81 47 = some (.invokespecial 28, 3, 38, 0, 5, 0, 1131) := (pg_81 47).trans rfl
theorem f_81_50 : fe0 81 50 = some (.putfield 29, 3, 8, 4, 1, 0, 2017) := (pg_81 50).trans rfl
theorem f_81_53 : fe0 81 53 = some (.aload_n 0, 1, 0, 0, 0, 0, 0) := (pg_81 53).trans rfl
theorem f_81_54 : fe0 81 54 = some (.new 33, 3, 3, 10, 1170, 1007, 1169) := (pg_81 54).trans rfl
theorem f_81_57 : fe0 81 57 = some (.dup, 1, 0, 0, 0, 0, 0) := (pg_81 57).trans rfl
theorem f_81_58 : fe0 81 58 = some (.invokespecial 35, 3, 20, 0, 5, 0, 1171) := (pg_81 58).trans rfl
theorem f_81_61 : fe0 81 61 = some (.putfield 36, 3, 8, 5, 1, 0, 2018) := (pg_81 61).trans rfl
theorem f_81_64 : fe0 81 64 = some (.aload_n 0, 1, 0, 0, 0, 0, 0) := (pg_81 64).trans rfl
theorem f_81_65 : fe0 81 65 = some (.bipush 96, 2, 0, 0, 0, 0, 0) := (pg_81 65).trans rfl
theorem f_81_67 : fe0 81 67 = some (.newarray .int, 2, 10, 0, 0, 0, 0) := (pg_81 67).trans rfl
theorem f_81_69 : fe0 81 69 = some (.putfield 40, 3, 8, 6, 1, 0, 2019) := (pg_81 69).trans rfl
theorem f_81_72 : fe0 81 72 = some (.aload_n 0, 1, 0, 0, 0, 0, 0) := (pg_81 72).trans rfl
theorem f_81_73 : fe0 81 73 = some (.iconst 0, 1, 0, 0, 0, 0, 0) := (pg_81 73).trans rfl
theorem f_81_74 : fe0 81 74 = some (.putfield 44, 3, 8, 7, 0, 0, 2020) := (pg_81 74).trans rfl
theorem f_81_77 : fe0 81 77 = some (.aload_n 0, 1, 0, 0, 0, 0, 0) := (pg_81 77).trans rfl
theorem f_81_78 : fe0 81 78 = some (.bipush 60, 2, 0, 0, 0, 0, 0) := (pg_81 78).trans rfl
theorem f_81_80 : fe0 81 80 = some (.newarray .int, 2, 10, 0, 0, 0, 0) := (pg_81 80).trans rfl
theorem f_81_82 : fe0 81 82 = some (.putfield 48, 3, 8, 8, 1, 0, 2021) := (pg_81 82).trans rfl
theorem f_81_85 : fe0 81 85 = some (.aload_n 0, 1, 0, 0, 0, 0, 0) := (pg_81 85).trans rfl
theorem f_81_86 : fe0 81 86 = some (.iconst 0, 1, 0, 0, 0, 0, 0) := (pg_81 86).trans rfl
theorem f_81_87 : fe0 81 87 = some (.putfield 51, 3, 8, 9, 0, 0, 2022) := (pg_81 87).trans rfl
theorem f_81_90 : fe0 81 90 = some (.aload_n 0, 1, 0, 0, 0, 0, 0) := (pg_81 90).trans rfl
theorem f_81_91 : fe0 81 91 = some (.iconst 4, 1, 0, 0, 0, 0, 0) := (pg_81 91).trans rfl
theorem f_81_92 : fe0 81 92 = some (.anewarray 54, 3, 13, 0, 0, 0, 1206) := (pg_81 92).trans rfl
theorem f_81_95 : fe0 81 95 = some (.putfield 56, 3, 8, 10, 1, 0, 2023) := (pg_81 95).trans rfl
theorem f_81_98 : fe0 81 98 = some (.iconst 0, 1, 0, 0, 0, 0, 0) := (pg_81 98).trans rfl
theorem f_81_99 : fe0 81 99 = some (.istore_n 1, 1, 0, 0, 0, 0, 0) := (pg_81 99).trans rfl
theorem f_81_100 : fe0 81 100 = some (.iload_n 1, 1, 0, 0, 0, 0, 0) := (pg_81 100).trans rfl
theorem f_81_101 : fe0 81 101 = some (.iconst 4, 1, 0, 0, 0, 0, 0) := (pg_81 101).trans rfl
theorem f_81_102 : fe0 81 102 = some (.if_icmp .ge 22, 3, 0, 0, 0, 0, 0) := (pg_81 102).trans rfl
theorem f_81_105 : fe0 81 105 = some (.aload_n 0, 1, 0, 0, 0, 0, 0) := (pg_81 105).trans rfl
theorem f_81_106 : fe0 81 106 = some (.getfield 56, 3, 8, 10, 1, 0, 2023) := (pg_81 106).trans rfl
theorem f_81_109 : fe0 81 109 = some (.iload_n 1, 1, 0, 0, 0, 0, 0) := (pg_81 109).trans rfl
theorem f_81_110 : fe0 81 110 = some (.new 54, 3, 5, 3, 1208, 1008, 1206) := (pg_81 110).trans rfl
theorem f_81_113 : fe0 81 113 = some (.dup, 1, 0, 0, 0, 0, 0) := (pg_81 113).trans rfl
theorem f_81_114 : fe0 81 114 = some (.invokespecial 60, 3, 66, 0, 5, 0, 1209) := (pg_81 114).trans rfl
theorem f_81_117 : fe0 81 117 = some (.aastore, 1, 0, 0, 0, 0, 0) := (pg_81 117).trans rfl
theorem f_81_118 : fe0 81 118 = some (.iinc 1 1, 3, 0, 0, 0, 0, 0) := (pg_81 118).trans rfl
theorem f_81_121 : fe0 81 121 = some (.goto (-21), 3, 0, 0, 0, 0, 0) := (pg_81 121).trans rfl
theorem f_81_124 : fe0 81 124 = some (.aload_n 0, 1, 0, 0, 0, 0, 0) := (pg_81 124).trans rfl
theorem f_81_125 : fe0 81 125 = some (.iconst 5, 1, 0, 0, 0, 0, 0) := (pg_81 125).trans rfl
theorem f_81_126 : fe0 81 126 = some (.anewarray 61, 3, 14, 0, 0, 0, 1226) := (pg_81 126).trans rfl
theorem f_81_129 : fe0 81 129 = some (.putfield 63, 3, 8, 11, 1, 0, 2024) := (pg_81 129).trans rfl
theorem f_81_132 : fe0 81 132 = some (.iconst 0, 1, 0, 0, 0, 0, 0) := (pg_81 132).trans rfl
theorem f_81_133 : fe0 81 133 = some (.istore_n 1, 1, 0, 0, 0, 0, 0) := (pg_81 133).trans rfl
theorem f_81_134 : fe0 81 134 = some (.iload_n 1, 1, 0, 0, 0, 0, 0) := (pg_81 134).trans rfl
theorem f_81_135 : fe0 81 135 = some (.iconst 5, 1, 0, 0, 0, 0, 0) := (pg_81 135).trans rfl
theorem f_81_136 : fe0 81 136 = some (.if_icmp .ge 22, 3, 0, 0, 0, 0, 0) := (pg_81 136).trans rfl
theorem f_81_139 : fe0 81 139 = some (.aload_n 0, 1, 0, 0, 0, 0, 0) := (pg_81 139).trans rfl
theorem f_81_140 : fe0 81 140 = some (.getfield 63, 3, 8, 11, 1, 0, 2024) := (pg_81 140).trans rfl
theorem f_81_143 : fe0 81 143 = some (.iload_n 1, 1, 0, 0, 0, 0, 0) := (pg_81 143).trans rfl
theorem f_81_144 : fe0 81 144 = some (.new 61, 3, 6, 4, 1228, 1009, 1226) := (pg_81 144).trans rfl
theorem f_81_147 : fe0 81 147 = some (.dup, 1, 0, 0, 0, 0, 0) := (pg_81 147).trans rfl
theorem f_81_148 : fe0 81 148 = some (.invokespecial 67, 3, 79, 0, 5, 0, 1229) := (pg_81 148).trans rfl
theorem f_81_151 : fe0 81 151 = some (.aastore, 1, 0, 0, 0, 0, 0) := (pg_81 151).trans rfl
theorem f_81_152 : fe0 81 152 = some (.iinc 1 1, 3, 0, 0, 0, 0, 0) := (pg_81 152).trans rfl
theorem f_81_155 : fe0 81 155 = some (.goto (-21), 3, 0, 0, 0, 0, 0) := (pg_81 155).trans rfl
theorem f_81_158 : fe0 81 158 = some (.return_, 1, 0, 0, 0, 0, 0) := (pg_81 158).trans rfl
theorem q_81_0 (d : Nat) (l0 : Nat) (μ : aMem) : Rn (d + 1) 81 (0, [.ref l0, un], [], μ) = if l0 < 999999 then (if mN μ < 900000 then (if (mN μ) < 999999 then ((cV d 11 [.ref (mN μ)] (newC μ 2 7)).bind fun p3 => if (mS p3 l0).1 = 8 ∧ (mN μ) ≤ 999999 then (Rn (d + 1) 81 (15, [.ref l0, un], [], setR p3 l0 0 (mN μ))) else none) else none) else none) else none :=
  (e_nx f_81_0 rfl).trans ((e_gd (L := [.ref l0, un]) (st := [.ref l0]) (μ := μ) f_81_1 rfl).trans (g_congr (oi_iff (Nat.le_of_ble_eq_true rfl)) (fun h1 => (e_nx f_81_4 rfl).trans ((e_gd (L := [.ref l0, un]) (st := [.ref l0]) (μ := μ) f_81_5 rfl).trans (g_congr (nw_iff (by decide)) (fun h2 => (e_nx f_81_8 rfl).trans ((e_gV (L := [.ref l0, un]) (st := [.ref (mN μ), .ref (mN μ), .ref l0]) (μ := newC μ 2 7) (L' := [.ref l0, un]) (st' := [.ref (mN μ), .ref l0]) f_81_9 rfl rfl).trans (g_congr (v_c3 rfl (Nat.le_of_ble_eq_true rfl)) (fun h4 => m_congr fun p3 => (e_gd f_81_12 rfl).trans (g_congr (pr_iff rfl) (fun h5 => rfl)))))))))))
theorem q_81_15 (d : Nat) (l0 : Nat) (w1 : Value) (μ : aMem) : Rn (d + 1) 81 (15, [.ref l0, w1], [], μ) = if mN μ < 900000 then (if (mN μ) < 999999 then ((cV d 11 [.ref (mN μ)] (newC μ 2 7)).bind fun p2 => if (mS p2 l0).1 = 8 ∧ (mN μ) ≤ 999999 then (Rn (d + 1) 81 (26, [.ref l0, w1], [], setR p2 l0 1 (mN μ))) else none) else none) else none :=
  (e_nx f_81_15 rfl).trans ((e_gd (L := [.ref l0, w1]) (st := [.ref l0]) (μ := μ) f_81_16 rfl).trans (g_congr (nw_iff (by decide)) (fun h1 => (e_nx f_81_19 rfl).trans ((e_gV (L := [.ref l0, w1]) (st := [.ref (mN μ), .ref (mN μ), .ref l0]) (μ := newC μ 2 7) (L' := [.ref l0, w1]) (st' := [.ref (mN μ), .ref l0]) f_81_20 rfl rfl).trans (g_congr (v_c3 rfl (Nat.le_of_ble_eq_true rfl)) (fun h3 => m_congr fun p2 => (e_gd f_81_23 rfl).trans (g_congr (pr_iff rfl) (fun h4 => rfl))))))))
theorem q_81_26 (d : Nat) (l0 : Nat) (w1 : Value) (μ : aMem) : Rn (d + 1) 81 (26, [.ref l0, w1], [], μ) = if mN μ < 900000 then (if (mN μ) < 999999 then ((cV d 11 [.ref (mN μ)] (newC μ 2 7)).bind fun p2 => if (mS p2 l0).1 = 8 ∧ (mN μ) ≤ 999999 then (Rn (d + 1) 81 (37, [.ref l0, w1], [], setR p2 l0 2 (mN μ))) else none) else none) else none :=
  (e_nx f_81_26 rfl).trans ((e_gd (L := [.ref l0, w1]) (st := [.ref l0]) (μ := μ) f_81_27 rfl).trans (g_congr (nw_iff (by decide)) (fun h1 => (e_nx f_81_30 rfl).trans ((e_gV (L := [.ref l0, w1]) (st := [.ref (mN μ), .ref (mN μ), .ref l0]) (μ := newC μ 2 7) (L' := [.ref l0, w1]) (st' := [.ref (mN μ), .ref l0]) f_81_31 rfl rfl).trans (g_congr (v_c3 rfl (Nat.le_of_ble_eq_true rfl)) (fun h3 => m_congr fun p2 => (e_gd f_81_34 rfl).trans (g_congr (pr_iff rfl) (fun h4 => rfl))))))))
theorem q_81_37 (d : Nat) (l0 : Nat) (w1 : Value) (μ : aMem) : Rn (d + 1) 81 (37, [.ref l0, w1], [], μ) = if (mS μ l0).1 = 8 then (Rn (d + 1) 81 (42, [.ref l0, w1], [], setF μ l0 3 0)) else none :=
  (e_nx f_81_37 rfl).trans ((e_nx (q := (_, _, .int 0 :: _, _)) f_81_38 rfl).trans ((e_gd (L := [.ref l0, w1]) (st := [.int 0, .ref l0]) (μ := μ) f_81_39 rfl).trans (g_congr (pb_iff rfl (by decide)) (fun h1 => rfl))))
theorem q_81_42 (d : Nat) (l0 : Nat) (w1 : Value) (μ : aMem) : Rn (d + 1) 81 (42, [.ref l0, w1], [], μ) = if mN μ < 900000 then (if (mN μ) < 999999 then ((cV d 38 [.ref (mN μ)] (newC μ 4 10)).bind fun p2 => if (mS p2 l0).1 = 8 ∧ (mN μ) ≤ 999999 then (Rn (d + 1) 81 (53, [.ref l0, w1], [], setR p2 l0 4 (mN μ))) else none) else none) else none :=
  (e_nx f_81_42 rfl).trans ((e_gd (L := [.ref l0, w1]) (st := [.ref l0]) (μ := μ) f_81_43 rfl).trans (g_congr (nw_iff (by decide)) (fun h1 => (e_nx f_81_46 rfl).trans ((e_gV (L := [.ref l0, w1]) (st := [.ref (mN μ), .ref (mN μ), .ref l0]) (μ := newC μ 4 10) (L' := [.ref l0, w1]) (st' := [.ref (mN μ), .ref l0]) f_81_47 rfl rfl).trans (g_congr (v_c3 rfl (Nat.le_of_ble_eq_true rfl)) (fun h3 => m_congr fun p2 => (e_gd f_81_50 rfl).trans (g_congr (pr_iff rfl) (fun h4 => rfl))))))))
theorem q_81_53 (d : Nat) (l0 : Nat) (w1 : Value) (μ : aMem) : Rn (d + 1) 81 (53, [.ref l0, w1], [], μ) = if mN μ < 900000 then (if (mN μ) < 999999 then ((cV d 20 [.ref (mN μ)] (newC μ 3 10)).bind fun p2 => if (mS p2 l0).1 = 8 ∧ (mN μ) ≤ 999999 then (Rn (d + 1) 81 (64, [.ref l0, w1], [], setR p2 l0 5 (mN μ))) else none) else none) else none :=
  (e_nx f_81_53 rfl).trans ((e_gd (L := [.ref l0, w1]) (st := [.ref l0]) (μ := μ) f_81_54 rfl).trans (g_congr (nw_iff (by decide)) (fun h1 => (e_nx f_81_57 rfl).trans ((e_gV (L := [.ref l0, w1]) (st := [.ref (mN μ), .ref (mN μ), .ref l0]) (μ := newC μ 3 10) (L' := [.ref l0, w1]) (st' := [.ref (mN μ), .ref l0]) f_81_58 rfl rfl).trans (g_congr (v_c3 rfl (Nat.le_of_ble_eq_true rfl)) (fun h3 => m_congr fun p2 => (e_gd f_81_61 rfl).trans (g_congr (pr_iff rfl) (fun h4 => rfl))))))))
theorem q_81_64 (d : Nat) (l0 : Nat) (w1 : Value) (μ : aMem) : Rn (d + 1) 81 (64, [.ref l0, w1], [], μ) = if mN μ < 900000 then (if (mS (newC μ 10 (ix 96)) l0).1 = 8 ∧ (mN μ) ≤ 999999 then (Rn (d + 1) 81 (72, [.ref l0, w1], [], setR (newC μ 10 (ix 96)) l0 6 (mN μ))) else none) else none :=
  (e_nx f_81_64 rfl).trans ((e_nx (q := (_, _, .int 96 :: _, _)) f_81_65 rfl).trans ((e_gd (L := [.ref l0, w1]) (st := [.int 96, .ref l0]) (μ := μ) f_81_67 rfl).trans (g_congr (na_iff (by decide)) (fun h1 => (e_gd f_81_69 rfl).trans (g_congr (pr_iff rfl) (fun h2 => rfl))))))
theorem q_81_72 (d : Nat) (l0 : Nat) (w1 : Value) (μ : aMem) : Rn (d + 1) 81 (72, [.ref l0, w1], [], μ) = if (mS μ l0).1 = 8 then (Rn (d + 1) 81 (77, [.ref l0, w1], [], setF μ l0 7 0)) else none :=
  (e_nx f_81_72 rfl).trans ((e_nx (q := (_, _, .int 0 :: _, _)) f_81_73 rfl).trans ((e_gd (L := [.ref l0, w1]) (st := [.int 0, .ref l0]) (μ := μ) f_81_74 rfl).trans (g_congr (pi_iff rfl) (fun h1 => rfl))))
theorem q_81_77 (d : Nat) (l0 : Nat) (w1 : Value) (μ : aMem) : Rn (d + 1) 81 (77, [.ref l0, w1], [], μ) = if mN μ < 900000 then (if (mS (newC μ 10 (ix 60)) l0).1 = 8 ∧ (mN μ) ≤ 999999 then (Rn (d + 1) 81 (85, [.ref l0, w1], [], setR (newC μ 10 (ix 60)) l0 8 (mN μ))) else none) else none :=
  (e_nx f_81_77 rfl).trans ((e_nx (q := (_, _, .int 60 :: _, _)) f_81_78 rfl).trans ((e_gd (L := [.ref l0, w1]) (st := [.int 60, .ref l0]) (μ := μ) f_81_80 rfl).trans (g_congr (na_iff (by decide)) (fun h1 => (e_gd f_81_82 rfl).trans (g_congr (pr_iff rfl) (fun h2 => rfl))))))
theorem q_81_85 (d : Nat) (l0 : Nat) (w1 : Value) (μ : aMem) : Rn (d + 1) 81 (85, [.ref l0, w1], [], μ) = if (mS μ l0).1 = 8 then (Rn (d + 1) 81 (90, [.ref l0, w1], [], setF μ l0 9 0)) else none :=
  (e_nx f_81_85 rfl).trans ((e_nx (q := (_, _, .int 0 :: _, _)) f_81_86 rfl).trans ((e_gd (L := [.ref l0, w1]) (st := [.int 0, .ref l0]) (μ := μ) f_81_87 rfl).trans (g_congr (pi_iff rfl) (fun h1 => rfl))))
theorem q_81_90 (d : Nat) (l0 : Nat) (w1 : Value) (μ : aMem) : Rn (d + 1) 81 (90, [.ref l0, w1], [], μ) = if mN μ < 900000 then (if (mS (newC μ 13 (ix 4)) l0).1 = 8 ∧ (mN μ) ≤ 999999 then (Rn (d + 1) 81 (98, [.ref l0, w1], [], setR (newC μ 13 (ix 4)) l0 10 (mN μ))) else none) else none :=
  (e_nx f_81_90 rfl).trans ((e_nx (q := (_, _, .int 4 :: _, _)) f_81_91 rfl).trans ((e_gd (L := [.ref l0, w1]) (st := [.int 4, .ref l0]) (μ := μ) f_81_92 rfl).trans (g_congr (na_iff (by decide)) (fun h1 => (e_gd f_81_95 rfl).trans (g_congr (pr_iff rfl) (fun h2 => rfl))))))
theorem q_81_98 (d : Nat) (l0 : Nat) (w1 : Value) (μ : aMem) : Rn (d + 1) 81 (98, [.ref l0, w1], [], μ) = Rn (d + 1) 81 (100, [.ref l0, .int 0], [], μ) :=
  (e_nx (q := (_, _, .int 0 :: _, _)) f_81_98 rfl).trans (e_nx (q := (_, [.ref l0, .int 0], _, _)) f_81_99 rfl)
theorem q_81_100 (d : Nat) (l0 : Nat) (x1 : Int32) (μ : aMem) : Rn (d + 1) 81 (100, [.ref l0, .int x1], [], μ) = if 4 ≤ x1 then (if mN μ < 900000 then (if (mS (newC μ 14 (ix 5)) l0).1 = 8 ∧ (mN μ) ≤ 999999 then (Rn (d + 1) 81 (132, [.ref l0, .int x1], [], setR (newC μ 14 (ix 5)) l0 11 (mN μ))) else none) else none) else (if (mS μ l0).1 = 8 then (if mN μ < 900000 then (if (mN μ) < 999999 then ((cV d 66 [.ref (mN μ)] (newC μ 5 3)).bind fun p6 => if 12 ≤ (mS p6 (mR μ l0 10)).1 ∧ (mS p6 (mR μ l0 10)).1 < 16 ∧ inb x1 (mS p6 (mR μ l0 10)).2 ∧ ((mN μ) = 999999 ∨ ((mN μ) < 999999 ∧ (mS p6 (mN μ)).1 = ecl (mS p6 (mR μ l0 10)).1)) then (Rn (d + 1) 81 (100, [.ref l0, .int (x1 + 1)], [], setR p6 (mR μ l0 10) (ix x1) (mN μ))) else none) else none) else none) else none) :=
  (e_nx f_81_100 rfl).trans ((e_nx (q := (_, _, .int 4 :: _, _)) f_81_101 rfl).trans ((e_ge f_81_102 rfl).trans (b_congr (fun h1 => (e_nx f_81_124 rfl).trans ((e_nx (q := (_, _, .int 5 :: _, _)) f_81_125 rfl).trans ((e_gd (L := [.ref l0, .int x1]) (st := [.int 5, .ref l0]) (μ := μ) f_81_126 rfl).trans (g_congr (na_iff (by decide)) (fun h2 => (e_gd f_81_129 rfl).trans (g_congr (pr_iff rfl) (fun h3 => rfl))))))) (fun h1 => (e_nx f_81_105 rfl).trans ((e_gd f_81_106 rfl).trans (g_congr (Iff.rfl) (fun h4 => (e_nx f_81_109 rfl).trans ((e_gd (L := [.ref l0, .int x1]) (st := [.int x1, .ref (mR μ l0 10)]) (μ := μ) f_81_110 rfl).trans (g_congr (nw_iff (by decide)) (fun h5 => (e_nx f_81_113 rfl).trans ((e_gV (L := [.ref l0, .int x1]) (st := [.ref (mN μ), .ref (mN μ), .int x1, .ref (mR μ l0 10)]) (μ := newC μ 5 3) (L' := [.ref l0, .int x1]) (st' := [.ref (mN μ), .int x1, .ref (mR μ l0 10)]) f_81_114 rfl rfl).trans (g_congr (v_c3 rfl (Nat.le_of_ble_eq_true rfl)) (fun h7 => m_congr fun p6 => (e_gd f_81_117 rfl).trans (g_congr (Iff.rfl) (fun h8 => (e_nx (q := (_, [.ref l0, .int (x1 + 1)], _, _)) f_81_118 rfl).trans (e_nx f_81_121 rfl))))))))))))))))
theorem q_81_132 (d : Nat) (l0 : Nat) (x1 : Int32) (μ : aMem) : Rn (d + 1) 81 (132, [.ref l0, .int x1], [], μ) = Rn (d + 1) 81 (134, [.ref l0, .int 0], [], μ) :=
  (e_nx (q := (_, _, .int 0 :: _, _)) f_81_132 rfl).trans (e_nx (q := (_, [.ref l0, .int 0], _, _)) f_81_133 rfl)
theorem q_81_134 (d : Nat) (l0 : Nat) (x1 : Int32) (μ : aMem) : Rn (d + 1) 81 (134, [.ref l0, .int x1], [], μ) = if 5 ≤ x1 then (some (none, μ)) else (if (mS μ l0).1 = 8 then (if mN μ < 900000 then (if (mN μ) < 999999 then ((cV d 79 [.ref (mN μ)] (newC μ 6 4)).bind fun p4 => if 12 ≤ (mS p4 (mR μ l0 11)).1 ∧ (mS p4 (mR μ l0 11)).1 < 16 ∧ inb x1 (mS p4 (mR μ l0 11)).2 ∧ ((mN μ) = 999999 ∨ ((mN μ) < 999999 ∧ (mS p4 (mN μ)).1 = ecl (mS p4 (mR μ l0 11)).1)) then (Rn (d + 1) 81 (134, [.ref l0, .int (x1 + 1)], [], setR p4 (mR μ l0 11) (ix x1) (mN μ))) else none) else none) else none) else none) :=
  (e_nx f_81_134 rfl).trans ((e_nx (q := (_, _, .int 5 :: _, _)) f_81_135 rfl).trans ((e_ge f_81_136 rfl).trans (b_congr (fun h1 => e_rt f_81_158 rfl) (fun h1 => (e_nx f_81_139 rfl).trans ((e_gd f_81_140 rfl).trans (g_congr (Iff.rfl) (fun h2 => (e_nx f_81_143 rfl).trans ((e_gd (L := [.ref l0, .int x1]) (st := [.int x1, .ref (mR μ l0 11)]) (μ := μ) f_81_144 rfl).trans (g_congr (nw_iff (by decide)) (fun h3 => (e_nx f_81_147 rfl).trans ((e_gV (L := [.ref l0, .int x1]) (st := [.ref (mN μ), .ref (mN μ), .int x1, .ref (mR μ l0 11)]) (μ := newC μ 6 4) (L' := [.ref l0, .int x1]) (st' := [.ref (mN μ), .int x1, .ref (mR μ l0 11)]) f_81_148 rfl rfl).trans (g_congr (v_c3 rfl (Nat.le_of_ble_eq_true rfl)) (fun h5 => m_congr fun p4 => (e_gd f_81_151 rfl).trans (g_congr (Iff.rfl) (fun h6 => (e_nx (q := (_, [.ref l0, .int (x1 + 1)], _, _)) f_81_152 rfl).trans (e_nx f_81_155 rfl))))))))))))))))
theorem pg_82 (pc : Nat) : fe0 82 pc = lk prg_82 pc := rfl
theorem f_82_0 : fe0 82 0 = some (.iload_n 1, 1, 0, 0, 0, 0, 0) := (pg_82 0).trans rfl
theorem f_82_1 : fe0 82 1 = some (.invokestatic 68, 3, 124, 1, 2, 0, 2054) := (pg_82 1).trans rfl
theorem f_82_4 : fe0 82 4 = some (.ifCond .eq 31, 3, 0, 0, 0, 0, 0) := (pg_82 4).trans rfl
theorem f_82_7 : fe0 82 7 = some (.iload_n 2, 1, 0, 0, 0, 0, 0) := (pg_82 7).trans rfl
theorem f_82_8 : fe0 82 8 = some (.iconst 0, 1, 0, 0, 0, 0, 0) := (pg_82 8).trans rfl
theorem f_82_9 : fe0 82 9 = some (.bipush 99, 2, 0, 0, 0, 0, 0) := (pg_82 9).trans rfl
theorem f_82_11 : fe0 82 11 = some (.invokestatic 72, 3, 122, 3, 2, 0, 2057) := (pg_82 11).trans rfl
theorem f_82_14 : fe0 82 14 = some (.ifCond .eq 21, 3, 0, 0, 0, 0, 0) := (pg_82 14).trans rfl
theorem f_82_17 : fe0 82 17 = some (.iload_n 3, 1, 0, 0, 0, 0, 0) := (pg_82 17).trans rfl
theorem f_82_18 : fe0 82 18 = some (.iconst 0, 1, 0, 0, 0, 0, 0) := (pg_82 18).trans rfl
theorem f_82_19 : fe0 82 19 = some (.bipush 10, 2, 0, 0, 0, 0, 0) := (pg_82 19).trans rfl
theorem f_82_21 : fe0 82 21 = some (.invokestatic 72, 3, 122, 3, 2, 0, 2057) := (pg_82 21).trans rfl
theorem f_82_24 : fe0 82 24 = some (.ifCond .eq 11, 3, 0, 0, 0, 0, 0) := (pg_82 24).trans rfl
theorem f_82_27 : fe0 82 27 = some (.iload 4, 2, 0, 0, 0, 0, 0) := (pg_82 27).trans rfl
theorem f_82_29 : fe0 82 29 = some (.invokestatic 76, 3, 125, 1, 2, 0, 2060) := (pg_82 29).trans rfl
theorem f_82_32 : fe0 82 32 = some (.ifCond .ne 6, 3, 0, 0, 0, 0, 0) := (pg_82 32).trans rfl
theorem f_82_35 : fe0 82 35 = some (.ldc 79, 2, 0, 0, 3294967295, 0, 2063) := (pg_82 35).trans rfl
theorem f_82_37 : fe0 82 37 = some (.ireturn, 1, 0, 0, 0, 0, 0) := (pg_82 37).trans rfl
theorem f_82_38 : fe0 82 38 = some (.aload_n 0, 1, 0, 0, 0, 0, 0) := (pg_82 38).trans rfl
theorem f_82_39 : fe0 82 39 = some (.getfield 12, 3, 8, 0, 1, 0, 2013) := (pg_82 39).trans rfl
theorem f_82_42 : fe0 82 42 = some (.iload_n 1, 1, 0, 0, 0, 0, 0) := (pg_82 42).trans rfl
theorem f_82_43 : fe0 82 43 = some (.iload_n 2, 1, 0, 0, 0, 0, 0) := (pg_82 43).trans rfl
theorem f_82_44 : fe0 82 44 = some (.iload_n 3, 1, 0, 0, 0, 0, 0) := (pg_82 44).trans rfl
theorem f_82_45 : fe0 82 45 = some (.iload 4, 2, 0, 0, 0, 0, 0) := (pg_82 45).trans rfl
theorem f_82_47 : fe0 82 47 = some (.invokevirtual 80, 3, 14, 4, 0, 2, 2064) := (pg_82 47).trans rfl
theorem f_82_50 : fe0 82 50 = some (.ireturn, 1, 0, 0, 0, 0, 0) := (pg_82 50).trans rfl
theorem q_82_0 (d : Nat) (l0 : Nat) (x1 : Int32) (x2 : Int32) (x3 : Int32) (x4 : Int32) (μ : aMem) : Rn (d + 1) 82 (0, [.ref l0, .int x1, .int x2, .int x3, .int x4], [], μ) = (cI d 124 [.int x1] μ).bind fun p1 => if p1.1 = 0 then (some (some (.int (-1000000001)), p1.2)) else ((cI d 122 [.int x2, .int 0, .int 99] p1.2).bind fun p3 => if p3.1 = 0 then (some (some (.int (-1000000001)), p3.2)) else ((cI d 122 [.int x3, .int 0, .int 10] p3.2).bind fun p5 => if p5.1 = 0 then (some (some (.int (-1000000001)), p5.2)) else ((cI d 125 [.int x4] p5.2).bind fun p7 => if p7.1 = 0 then (some (some (.int (-1000000001)), p7.2)) else (if (mS p7.2 l0).1 = 8 then (if (mS p7.2 (mR p7.2 l0 0)).1 = 2 ∧ (mR p7.2 l0 0) < 999999 then ((cI d 14 [.ref (mR p7.2 l0 0), .int x1, .int x2, .int x3, .int x4] p7.2).bind fun p10 => some (some (.int p10.1), p10.2)) else none) else none)))) :=
  (e_nx f_82_0 rfl).trans ((e_cI (L := [.ref l0, .int x1, .int x2, .int x3, .int x4]) (st := [.int x1]) (μ := μ) (L' := [.ref l0, .int x1, .int x2, .int x3, .int x4]) (st' := []) f_82_1 rfl rfl).trans (m_congr fun p1 => (e_eq f_82_4 rfl).trans (b_congr (fun h2 => (e_nx (q := (_, _, .int (-1000000001) :: _, _)) f_82_35 rfl).trans (e_rt f_82_37 rfl)) (fun h2 => (e_nx f_82_7 rfl).trans ((e_nx (q := (_, _, .int 0 :: _, _)) f_82_8 rfl).trans ((e_nx (q := (_, _, .int 99 :: _, _)) f_82_9 rfl).trans ((e_cI (L := [.ref l0, .int x1, .int x2, .int x3, .int x4]) (st := [.int 99, .int 0, .int x2]) (μ := p1.2) (L' := [.ref l0, .int x1, .int x2, .int x3, .int x4]) (st' := []) f_82_11 rfl rfl).trans (m_congr fun p3 => (e_eq f_82_14 rfl).trans (b_congr (fun h4 => (e_nx (q := (_, _, .int (-1000000001) :: _, _)) f_82_35 rfl).trans (e_rt f_82_37 rfl)) (fun h4 => (e_nx f_82_17 rfl).trans ((e_nx (q := (_, _, .int 0 :: _, _)) f_82_18 rfl).trans ((e_nx (q := (_, _, .int 10 :: _, _)) f_82_19 rfl).trans ((e_cI (L := [.ref l0, .int x1, .int x2, .int x3, .int x4]) (st := [.int 10, .int 0, .int x3]) (μ := p3.2) (L' := [.ref l0, .int x1, .int x2, .int x3, .int x4]) (st' := []) f_82_21 rfl rfl).trans (m_congr fun p5 => (e_eq f_82_24 rfl).trans (b_congr (fun h6 => (e_nx (q := (_, _, .int (-1000000001) :: _, _)) f_82_35 rfl).trans (e_rt f_82_37 rfl)) (fun h6 => (e_nx f_82_27 rfl).trans ((e_cI (L := [.ref l0, .int x1, .int x2, .int x3, .int x4]) (st := [.int x4]) (μ := p5.2) (L' := [.ref l0, .int x1, .int x2, .int x3, .int x4]) (st' := []) f_82_29 rfl rfl).trans (m_congr fun p7 => (e_ne f_82_32 rfl).trans (b_congr (fun h8 => (e_nx (q := (_, _, .int (-1000000001) :: _, _)) f_82_35 rfl).trans (e_rt f_82_37 rfl)) (fun h8 => (e_nx f_82_38 rfl).trans ((e_gd f_82_39 rfl).trans (g_congr (Iff.rfl) (fun h9 => (e_nx f_82_42 rfl).trans ((e_nx f_82_43 rfl).trans ((e_nx f_82_44 rfl).trans ((e_nx f_82_45 rfl).trans ((e_gI (L := [.ref l0, .int x1, .int x2, .int x3, .int x4]) (st := [.int x4, .int x3, .int x2, .int x1, .ref (mR p7.2 l0 0)]) (μ := p7.2) (L' := [.ref l0, .int x1, .int x2, .int x3, .int x4]) (st' := []) f_82_47 rfl rfl).trans (g_congr (v_c2 rfl (Nat.le_of_ble_eq_true rfl)) (fun h11 => m_congr fun p10 => e_rt f_82_50 rfl)))))))))))))))))))))))))))))
theorem pg_83 (pc : Nat) : fe0 83 pc = lk prg_83 pc := rfl
theorem f_83_0 : fe0 83 0 = some (.aload_n 0, 1, 0, 0, 0, 0, 0) := (pg_83 0).trans rfl
theorem f_83_1 : fe0 83 1 = some (.getfield 12, 3, 8, 0, 1, 0, 2013) := (pg_83 1).trans rfl
theorem f_83_4 : fe0 83 4 = some (.iload_n 1, 1, 0, 0, 0, 0, 0) := (pg_83 4).trans rfl
theorem f_83_5 : fe0 83 5 = some (.invokevirtual 84, 3, 12, 1, 0, 2, 2073) := (pg_83 5).trans rfl
theorem f_83_8 : fe0 83 8 = some (.astore_n 3, 1, 0, 0, 0, 0, 0) := (pg_83 8).trans rfl
theorem f_83_9 : fe0 83 9 = some (.aload_n 3, 1, 0, 0, 0, 0, 0) := (pg_83 9).trans rfl
theorem f_83_10 : fe0 83 10 = some (.ifnonnull 6, 3, 0, 0, 0, 0, 0) := (pg_83 10).trans rfl
theorem f_83_13 : fe0 83 13 = some (.ldc 79, 2, 0, 0, 3294967295, 0, 2063) := (pg_83 13).trans rfl
theorem f_83_15 : fe0 83 15 = some (.ireturn, 1, 0, 0, 0, 0, 0) := (pg_83 15).trans rfl
theorem f_83_16 : fe0 83 16 = some (.iload_n 2, 1, 0, 0, 0, 0, 0) := (pg_83 16).trans rfl
theorem f_83_17 : fe0 83 17 = some (.tableswitch 154 0 10 #[59, 64, 69, 74, 79, 84, 97, 110, 115, 128, 141], 59, 0, 0, 0, 0, 0) := (pg_83 17).trans rfl
theorem f_83_76 : fe0 83 76 = some (.aload_n 3, 1, 0, 0, 0, 0, 0) := (pg_83 76).trans rfl
theorem f_83_77 : fe0 83 77 = some (.getfield 88, 3, 1, 0, 0, 0, 1065) := (pg_83 77).trans rfl
theorem f_83_80 : fe0 83 80 = some (.ireturn, 1, 0, 0, 0, 0, 0) := (pg_83 80).trans rfl
theorem f_83_81 : fe0 83 81 = some (.aload_n 3, 1, 0, 0, 0, 0, 0) := (pg_83 81).trans rfl
theorem f_83_82 : fe0 83 82 = some (.getfield 93, 3, 1, 1, 0, 0, 1069) := (pg_83 82).trans rfl
theorem f_83_85 : fe0 83 85 = some (.ireturn, 1, 0, 0, 0, 0, 0) := (pg_83 85).trans rfl
theorem f_83_86 : fe0 83 86 = some (.aload_n 3, 1, 0, 0, 0, 0, 0) := (pg_83 86).trans rfl
theorem f_83_87 : fe0 83 87 = some (.getfield 96, 3, 1, 2, 0, 0, 1073) := (pg_83 87).trans rfl
theorem f_83_90 : fe0 83 90 = some (.ireturn, 1, 0, 0, 0, 0, 0) := (pg_83 90).trans rfl
theorem f_83_91 : fe0 83 91 = some (.aload_n 3, 1, 0, 0, 0, 0, 0) := (pg_83 91).trans rfl
theorem f_83_92 : fe0 83 92 = some (.getfield 99, 3, 1, 3, 0, 0, 1077) := (pg_83 92).trans rfl
theorem f_83_95 : fe0 83 95 = some (.ireturn, 1, 0, 0, 0, 0, 0) := (pg_83 95).trans rfl
theorem f_83_96 : fe0 83 96 = some (.aload_n 3, 1, 0, 0, 0, 0, 0) := (pg_83 96).trans rfl
theorem f_83_97 : fe0 83 97 = some (.getfield 102, 3, 1, 4, 0, 0, 1081) := (pg_83 97).trans rfl
theorem f_83_100 : fe0 83 100 = some (.ireturn, 1, 0, 0, 0, 0, 0) := (pg_83 100).trans rfl
theorem f_83_101 : fe0 83 101 = some (.aload_n 0, 1, 0, 0, 0, 0, 0) := (pg_83 101).trans rfl
theorem f_83_102 : fe0 83 102 = some (.getfield 29, 3, 8, 4, 1, 0, 2017) := (pg_83 102).trans rfl
theorem f_83_105 : fe0 83 105 = some (.aload_n 0, 1, 0, 0, 0, 0, 0) := (pg_83 105).trans rfl
theorem f_83_106 : fe0 83 106 = some (.getfield 12, 3, 8, 0, 1, 0, 2013) := (pg_83 106).trans rfl
theorem f_83_109 : fe0 83 109 = some (.aload_n 3, 1, 0, 0, 0, 0, 0) := (pg_83 109).trans rfl
theorem f_83_110 : fe0 83 110 = some (.invokevirtual 105, 3, 42, 2, 0, 4, 2077) := (pg_83 110).trans rfl
theorem f_83_113 : fe0 83 113 = some (.ireturn, 1, 0, 0, 0, 0, 0) := (pg_83 113).trans rfl
theorem f_83_114 : fe0 83 114 = some (.aload_n 0, 1, 0, 0, 0, 0, 0) := (pg_83 114).trans rfl
theorem f_83_115 : fe0 83 115 = some (.getfield 29, 3, 8, 4, 1, 0, 2017) := (pg_83 115).trans rfl
theorem f_83_118 : fe0 83 118 = some (.aload_n 0, 1, 0, 0, 0, 0, 0) := (pg_83 118).trans rfl
theorem f_83_119 : fe0 83 119 = some (.getfield 12, 3, 8, 0, 1, 0, 2013) := (pg_83 119).trans rfl
theorem f_83_122 : fe0 83 122 = some (.aload_n 3, 1, 0, 0, 0, 0, 0) := (pg_83 122).trans rfl
theorem f_83_123 : fe0 83 123 = some (.invokevirtual 109, 3, 44, 2, 0, 4, 2116) := (pg_83 123).trans rfl
theorem f_83_126 : fe0 83 126 = some (.ireturn, 1, 0, 0, 0, 0, 0) := (pg_83 126).trans rfl
theorem f_83_127 : fe0 83 127 = some (.aload_n 3, 1, 0, 0, 0, 0, 0) := (pg_83 127).trans rfl
theorem f_83_128 : fe0 83 128 = some (.invokevirtual 112, 3, 8, 0, 0, 1, 2126) := (pg_83 128).trans rfl
theorem f_83_131 : fe0 83 131 = some (.ireturn, 1, 0, 0, 0, 0, 0) := (pg_83 131).trans rfl
theorem f_83_132 : fe0 83 132 = some (.aload_n 0, 1, 0, 0, 0, 0, 0) := (pg_83 132).trans rfl
theorem f_83_133 : fe0 83 133 = some (.getfield 29, 3, 8, 4, 1, 0, 2017) := (pg_83 133).trans rfl
theorem f_83_136 : fe0 83 136 = some (.aload_n 0, 1, 0, 0, 0, 0, 0) := (pg_83 136).trans rfl
theorem f_83_137 : fe0 83 137 = some (.getfield 12, 3, 8, 0, 1, 0, 2013) := (pg_83 137).trans rfl
theorem f_83_140 : fe0 83 140 = some (.iload_n 1, 1, 0, 0, 0, 0, 0) := (pg_83 140).trans rfl
theorem f_83_141 : fe0 83 141 = some (.invokevirtual 116, 3, 48, 2, 0, 4, 2130) := (pg_83 141).trans rfl
theorem f_83_144 : fe0 83 144 = some (.ireturn, 1, 0, 0, 0, 0, 0) := (pg_83 144).trans rfl
theorem f_83_145 : fe0 83 145 = some (.aload_n 0, 1, 0, 0, 0, 0, 0) := (pg_83 145).trans rfl
theorem f_83_146 : fe0 83 146 = some (.getfield 29, 3, 8, 4, 1, 0, 2017) := (pg_83 146).trans rfl
theorem f_83_149 : fe0 83 149 = some (.aload_n 0, 1, 0, 0, 0, 0, 0) := (pg_83 149).trans rfl
theorem f_83_150 : fe0 83 150 = some (.getfield 12, 3, 8, 0, 1, 0, 2013) := (pg_83 150).trans rfl
theorem f_83_153 : fe0 83 153 = some (.iload_n 1, 1, 0, 0, 0, 0, 0) := (pg_83 153).trans rfl
theorem f_83_154 : fe0 83 154 = some (.invokevirtual 120, 3, 49, 2, 0, 4, 2151) := (pg_83 154).trans rfl
theorem f_83_157 : fe0 83 157 = some (.ireturn, 1, 0, 0, 0, 0, 0) := (pg_83 157).trans rfl
theorem f_83_158 : fe0 83 158 = some (.aload_n 0, 1, 0, 0, 0, 0, 0) := (pg_83 158).trans rfl
theorem f_83_159 : fe0 83 159 = some (.getfield 29, 3, 8, 4, 1, 0, 2017) := (pg_83 159).trans rfl
theorem f_83_162 : fe0 83 162 = some (.aload_n 0, 1, 0, 0, 0, 0, 0) := (pg_83 162).trans rfl
theorem f_83_163 : fe0 83 163 = some (.getfield 12, 3, 8, 0, 1, 0, 2013) := (pg_83 163).trans rfl
theorem f_83_166 : fe0 83 166 = some (.iload_n 1, 1, 0, 0, 0, 0, 0) := (pg_83 166).trans rfl
theorem f_83_167 : fe0 83 167 = some (.invokevirtual 123, 3, 51, 2, 0, 4, 2155) := (pg_83 167).trans rfl
theorem f_83_170 : fe0 83 170 = some (.ireturn, 1, 0, 0, 0, 0, 0) := (pg_83 170).trans rfl
theorem f_83_171 : fe0 83 171 = some (.ldc 79, 2, 0, 0, 3294967295, 0, 2063) := (pg_83 171).trans rfl
theorem f_83_173 : fe0 83 173 = some (.ireturn, 1, 0, 0, 0, 0, 0) := (pg_83 173).trans rfl
theorem q_83_0 (d : Nat) (l0 : Nat) (x1 : Int32) (x2 : Int32) (μ : aMem) : Rn (d + 1) 83 (0, [.ref l0, .int x1, .int x2, un], [], μ) = if (mS μ l0).1 = 8 then (if (mS μ (mR μ l0 0)).1 = 2 ∧ (mR μ l0 0) < 999999 then ((cR d 12 [.ref (mR μ l0 0), .int x1] μ).bind fun p2 => if p2.1 ≤ 999999 then (if p2.1 = 999999 then (some (some (.int (-1000000001)), p2.2)) else (if x2 = 0 then (if (mS p2.2 p2.1).1 = 1 then (some (some (.int (mF p2.2 p2.1 0)), p2.2)) else none) else (if x2 = 1 then (if (mS p2.2 p2.1).1 = 1 then (some (some (.int (mF p2.2 p2.1 1)), p2.2)) else none) else (if x2 = 2 then (if (mS p2.2 p2.1).1 = 1 then (some (some (.int (mF p2.2 p2.1 2)), p2.2)) else none) else (if x2 = 3 then (if (mS p2.2 p2.1).1 = 1 then (some (some (.int (mF p2.2 p2.1 3)), p2.2)) else none) else (if x2 = 4 then (if (mS p2.2 p2.1).1 = 1 then (some (some (.int (mF p2.2 p2.1 4)), p2.2)) else none) else (if x2 = 5 then (if (mS p2.2 l0).1 = 8 then (if (mS p2.2 (mR p2.2 l0 4)).1 = 4 ∧ (mR p2.2 l0 4) < 999999 then ((cI d 42 [.ref (mR p2.2 l0 4), .ref (mR p2.2 l0 0), .ref p2.1] p2.2).bind fun p12 => some (some (.int p12.1), p12.2)) else none) else none) else (if x2 = 6 then (if (mS p2.2 l0).1 = 8 then (if (mS p2.2 (mR p2.2 l0 4)).1 = 4 ∧ (mR p2.2 l0 4) < 999999 then ((cI d 44 [.ref (mR p2.2 l0 4), .ref (mR p2.2 l0 0), .ref p2.1] p2.2).bind fun p15 => some (some (.int p15.1), p15.2)) else none) else none) else (if x2 = 7 then (if (mS p2.2 p2.1).1 = 1 ∧ p2.1 < 999999 then ((cI d 8 [.ref p2.1] p2.2).bind fun p17 => some (some (.int p17.1), p17.2)) else none) else (if x2 = 8 then (if (mS p2.2 l0).1 = 8 then (if (mS p2.2 (mR p2.2 l0 4)).1 = 4 ∧ (mR p2.2 l0 4) < 999999 then ((cI d 48 [.ref (mR p2.2 l0 4), .ref (mR p2.2 l0 0), .int x1] p2.2).bind fun p20 => some (some (.int p20.1), p20.2)) else none) else none) else (if x2 = 9 then (if (mS p2.2 l0).1 = 8 then (if (mS p2.2 (mR p2.2 l0 4)).1 = 4 ∧ (mR p2.2 l0 4) < 999999 then ((cI d 49 [.ref (mR p2.2 l0 4), .ref (mR p2.2 l0 0), .int x1] p2.2).bind fun p23 => some (some (.int p23.1), p23.2)) else none) else none) else (if x2 = 10 then (if (mS p2.2 l0).1 = 8 then (if (mS p2.2 (mR p2.2 l0 4)).1 = 4 ∧ (mR p2.2 l0 4) < 999999 then ((cI d 51 [.ref (mR p2.2 l0 4), .ref (mR p2.2 l0 0), .int x1] p2.2).bind fun p26 => some (some (.int p26.1), p26.2)) else none) else none) else (some (some (.int (-1000000001)), p2.2)))))))))))))) else none) else none) else none :=
  (e_nx f_83_0 rfl).trans ((e_gd f_83_1 rfl).trans (g_congr (Iff.rfl) (fun h1 => (e_nx f_83_4 rfl).trans ((e_gR (L := [.ref l0, .int x1, .int x2, un]) (st := [.int x1, .ref (mR μ l0 0)]) (μ := μ) (L' := [.ref l0, .int x1, .int x2, un]) (st' := []) f_83_5 rfl rfl).trans (g_congr (v_c2 rfl (Nat.le_of_ble_eq_true rfl)) (fun h3 => m_congr fun p2 => (e_nx (q := (_, [.ref l0, .int x1, .int x2, .ref p2.1], _, _)) f_83_8 rfl).trans ((e_nx f_83_9 rfl).trans ((e_gb f_83_10 rfl).trans (g_congr Iff.rfl (fun h5 => b_congr (fun h4 => (e_nx (q := (_, _, .int (-1000000001) :: _, _)) f_83_13 rfl).trans (e_rt f_83_15 rfl)) (fun h4 => (e_nx f_83_16 rfl).trans ((e_tab f_83_17 (ts := [76, 81, 86, 91, 96, 101, 114, 127, 132, 145, 158]) (df := 171) (lo := 0) rfl rfl rfl (by decide) (by decide)).trans (b_congr (fun _ => (e_nx f_83_76 rfl).trans ((e_gd f_83_77 rfl).trans (g_congr (Iff.rfl) (fun h6 => e_rt f_83_80 rfl)))) (fun _ => b_congr (fun _ => (e_nx f_83_81 rfl).trans ((e_gd f_83_82 rfl).trans (g_congr (Iff.rfl) (fun h7 => e_rt f_83_85 rfl)))) (fun _ => b_congr (fun _ => (e_nx f_83_86 rfl).trans ((e_gd f_83_87 rfl).trans (g_congr (Iff.rfl) (fun h8 => e_rt f_83_90 rfl)))) (fun _ => b_congr (fun _ => (e_nx f_83_91 rfl).trans ((e_gd f_83_92 rfl).trans (g_congr (Iff.rfl) (fun h9 => e_rt f_83_95 rfl)))) (fun _ => b_congr (fun _ => (e_nx f_83_96 rfl).trans ((e_gd f_83_97 rfl).trans (g_congr (Iff.rfl) (fun h10 => e_rt f_83_100 rfl)))) (fun _ => b_congr (fun _ => (e_nx f_83_101 rfl).trans ((e_gd f_83_102 rfl).trans (g_congr (Iff.rfl) (fun h11 => (e_nx f_83_105 rfl).trans ((e_gk f_83_106 (h11) rfl).trans ((e_nx f_83_109 rfl).trans ((e_gI (L := [.ref l0, .int x1, .int x2, .ref p2.1]) (st := [.ref p2.1, .ref (mR p2.2 l0 0), .ref (mR p2.2 l0 4)]) (μ := p2.2) (L' := [.ref l0, .int x1, .int x2, .ref p2.1]) (st' := []) f_83_110 rfl rfl).trans (g_congr (v_c2 rfl (Nat.le_of_ble_eq_true rfl)) (fun h13 => m_congr fun p12 => e_rt f_83_113 rfl))))))))) (fun _ => b_congr (fun _ => (e_nx f_83_114 rfl).trans ((e_gd f_83_115 rfl).trans (g_congr (Iff.rfl) (fun h14 => (e_nx f_83_118 rfl).trans ((e_gk f_83_119 (h14) rfl).trans ((e_nx f_83_122 rfl).trans ((e_gI (L := [.ref l0, .int x1, .int x2, .ref p2.1]) (st := [.ref p2.1, .ref (mR p2.2 l0 0), .ref (mR p2.2 l0 4)]) (μ := p2.2) (L' := [.ref l0, .int x1, .int x2, .ref p2.1]) (st' := []) f_83_123 rfl rfl).trans (g_congr (v_c2 rfl (Nat.le_of_ble_eq_true rfl)) (fun h16 => m_congr fun p15 => e_rt f_83_126 rfl))))))))) (fun _ => b_congr (fun _ => (e_nx f_83_127 rfl).trans ((e_gI (L := [.ref l0, .int x1, .int x2, .ref p2.1]) (st := [.ref p2.1]) (μ := p2.2) (L' := [.ref l0, .int x1, .int x2, .ref p2.1]) (st' := []) f_83_128 rfl rfl).trans (g_congr (v_c2 rfl (Nat.le_of_ble_eq_true rfl)) (fun h18 => m_congr fun p17 => e_rt f_83_131 rfl)))) (fun _ => b_congr (fun _ => (e_nx f_83_132 rfl).trans ((e_gd f_83_133 rfl).trans (g_congr (Iff.rfl) (fun h19 => (e_nx f_83_136 rfl).trans ((e_gk f_83_137 (h19) rfl).trans ((e_nx f_83_140 rfl).trans ((e_gI (L := [.ref l0, .int x1, .int x2, .ref p2.1]) (st := [.int x1, .ref (mR p2.2 l0 0), .ref (mR p2.2 l0 4)]) (μ := p2.2) (L' := [.ref l0, .int x1, .int x2, .ref p2.1]) (st' := []) f_83_141 rfl rfl).trans (g_congr (v_c2 rfl (Nat.le_of_ble_eq_true rfl)) (fun h21 => m_congr fun p20 => e_rt f_83_144 rfl))))))))) (fun _ => b_congr (fun _ => (e_nx f_83_145 rfl).trans ((e_gd f_83_146 rfl).trans (g_congr (Iff.rfl) (fun h22 => (e_nx f_83_149 rfl).trans ((e_gk f_83_150 (h22) rfl).trans ((e_nx f_83_153 rfl).trans ((e_gI (L := [.ref l0, .int x1, .int x2, .ref p2.1]) (st := [.int x1, .ref (mR p2.2 l0 0), .ref (mR p2.2 l0 4)]) (μ := p2.2) (L' := [.ref l0, .int x1, .int x2, .ref p2.1]) (st' := []) f_83_154 rfl rfl).trans (g_congr (v_c2 rfl (Nat.le_of_ble_eq_true rfl)) (fun h24 => m_congr fun p23 => e_rt f_83_157 rfl))))))))) (fun _ => b_congr (fun _ => (e_nx f_83_158 rfl).trans ((e_gd f_83_159 rfl).trans (g_congr (Iff.rfl) (fun h25 => (e_nx f_83_162 rfl).trans ((e_gk f_83_163 (h25) rfl).trans ((e_nx f_83_166 rfl).trans ((e_gI (L := [.ref l0, .int x1, .int x2, .ref p2.1]) (st := [.int x1, .ref (mR p2.2 l0 0), .ref (mR p2.2 l0 4)]) (μ := p2.2) (L' := [.ref l0, .int x1, .int x2, .ref p2.1]) (st' := []) f_83_167 rfl rfl).trans (g_congr (v_c2 rfl (Nat.le_of_ble_eq_true rfl)) (fun h27 => m_congr fun p26 => e_rt f_83_170 rfl))))))))) (fun _ => (e_nx (q := (_, _, .int (-1000000001) :: _, _)) f_83_171 rfl).trans (e_rt f_83_173 rfl)))))))))))))))))))))))))
theorem pg_84 (pc : Nat) : fe0 84 pc = lk prg_84 pc := rfl
theorem f_84_0 : fe0 84 0 = some (.aload_n 0, 1, 0, 0, 0, 0, 0) := (pg_84 0).trans rfl
theorem f_84_1 : fe0 84 1 = some (.getfield 12, 3, 8, 0, 1, 0, 2013) := (pg_84 1).trans rfl
theorem f_84_4 : fe0 84 4 = some (.iload_n 1, 1, 0, 0, 0, 0, 0) := (pg_84 4).trans rfl
theorem f_84_5 : fe0 84 5 = some (.invokevirtual 84, 3, 12, 1, 0, 2, 2073) := (pg_84 5).trans rfl
theorem f_84_8 : fe0 84 8 = some (.astore_n 3, 1, 0, 0, 0, 0, 0) := (pg_84 8).trans rfl
theorem f_84_9 : fe0 84 9 = some (.aload_n 3, 1, 0, 0, 0, 0, 0) := (pg_84 9).trans rfl
theorem f_84_10 : fe0 84 10 = some (.ifnull 10, 3, 0, 0, 0, 0, 0) := (pg_84 10).trans rfl
theorem f_84_13 : fe0 84 13 = some (.iload_n 2, 1, 0, 0, 0, 0, 0) := (pg_84 13).trans rfl
theorem f_84_14 : fe0 84 14 = some (.invokestatic 68, 3, 124, 1, 2, 0, 2054) := (pg_84 14).trans rfl
theorem f_84_17 : fe0 84 17 = some (.ifCond .ne 6, 3, 0, 0, 0, 0, 0) := (pg_84 17).trans rfl
theorem f_84_20 : fe0 84 20 = some (.ldc 79, 2, 0, 0, 3294967295, 0, 2063) := (pg_84 20).trans rfl
theorem f_84_22 : fe0 84 22 = some (.ireturn, 1, 0, 0, 0, 0, 0) := (pg_84 22).trans rfl
theorem f_84_23 : fe0 84 23 = some (.aload_n 3, 1, 0, 0, 0, 0, 0) := (pg_84 23).trans rfl
theorem f_84_24 : fe0 84 24 = some (.iload_n 2, 1, 0, 0, 0, 0, 0) := (pg_84 24).trans rfl
theorem f_84_25 : fe0 84 25 = some (.invokevirtual 126, 3, 7, 1, 0, 1, 2167) := (pg_84 25).trans rfl
theorem f_84_28 : fe0 84 28 = some (.ifCond .eq 10, 3, 0, 0, 0, 0, 0) := (pg_84 28).trans rfl
theorem f_84_31 : fe0 84 31 = some (.aload_n 3, 1, 0, 0, 0, 0, 0) := (pg_84 31).trans rfl
theorem f_84_32 : fe0 84 32 = some (.getfield 93, 3, 1, 1, 0, 0, 1069) := (pg_84 32).trans rfl
theorem f_84_35 : fe0 84 35 = some (.goto 5, 3, 0, 0, 0, 0, 0) := (pg_84 35).trans rfl
theorem f_84_38 : fe0 84 38 = some (.ldc 129, 2, 0, 0, 3294967284, 0, 2173) := (pg_84 38).trans rfl
theorem f_84_40 : fe0 84 40 = some (.ireturn, 1, 0, 0, 0, 0, 0) := (pg_84 40).trans rfl
theorem q_84_0 (d : Nat) (l0 : Nat) (x1 : Int32) (x2 : Int32) (μ : aMem) : Rn (d + 1) 84 (0, [.ref l0, .int x1, .int x2, un], [], μ) = if (mS μ l0).1 = 8 then (if (mS μ (mR μ l0 0)).1 = 2 ∧ (mR μ l0 0) < 999999 then ((cR d 12 [.ref (mR μ l0 0), .int x1] μ).bind fun p2 => if p2.1 ≤ 999999 then (if p2.1 = 999999 then (some (some (.int (-1000000001)), p2.2)) else ((cI d 124 [.int x2] p2.2).bind fun p6 => if p6.1 = 0 then (some (some (.int (-1000000001)), p6.2)) else (if (mS p6.2 p2.1).1 = 1 ∧ p2.1 < 999999 then ((cI d 7 [.ref p2.1, .int x2] p6.2).bind fun p8 => if p8.1 = 0 then (some (some (.int (-1000000012)), p8.2)) else (if (mS p8.2 p2.1).1 = 1 then (some (some (.int (mF p8.2 p2.1 1)), p8.2)) else none)) else none))) else none) else none) else none :=
  (e_nx f_84_0 rfl).trans ((e_gd f_84_1 rfl).trans (g_congr (Iff.rfl) (fun h1 => (e_nx f_84_4 rfl).trans ((e_gR (L := [.ref l0, .int x1, .int x2, un]) (st := [.int x1, .ref (mR μ l0 0)]) (μ := μ) (L' := [.ref l0, .int x1, .int x2, un]) (st' := []) f_84_5 rfl rfl).trans (g_congr (v_c2 rfl (Nat.le_of_ble_eq_true rfl)) (fun h3 => m_congr fun p2 => (e_nx (q := (_, [.ref l0, .int x1, .int x2, .ref p2.1], _, _)) f_84_8 rfl).trans ((e_nx f_84_9 rfl).trans ((e_gb f_84_10 rfl).trans (g_congr Iff.rfl (fun h5 => b_congr (fun h4 => (e_nx (q := (_, _, .int (-1000000001) :: _, _)) f_84_20 rfl).trans (e_rt f_84_22 rfl)) (fun h4 => (e_nx f_84_13 rfl).trans ((e_cI (L := [.ref l0, .int x1, .int x2, .ref p2.1]) (st := [.int x2]) (μ := p2.2) (L' := [.ref l0, .int x1, .int x2, .ref p2.1]) (st' := []) f_84_14 rfl rfl).trans (m_congr fun p6 => (e_ne f_84_17 rfl).trans (b_congr (fun h7 => (e_nx (q := (_, _, .int (-1000000001) :: _, _)) f_84_20 rfl).trans (e_rt f_84_22 rfl)) (fun h7 => (e_nx f_84_23 rfl).trans ((e_nx f_84_24 rfl).trans ((e_gI (L := [.ref l0, .int x1, .int x2, .ref p2.1]) (st := [.int x2, .ref p2.1]) (μ := p6.2) (L' := [.ref l0, .int x1, .int x2, .ref p2.1]) (st' := []) f_84_25 rfl rfl).trans (g_congr (v_c2 rfl (Nat.le_of_ble_eq_true rfl)) (fun h9 => m_congr fun p8 => (e_eq f_84_28 rfl).trans (b_congr (fun h10 => (e_nx (q := (_, _, .int (-1000000012) :: _, _)) f_84_38 rfl).trans (e_rt f_84_40 rfl)) (fun h10 => (e_nx f_84_31 rfl).trans ((e_gd f_84_32 rfl).trans (g_congr (Iff.rfl) (fun h11 => (e_nx f_84_35 rfl).trans (e_rt f_84_40 rfl)))))))))))))))))))))))))
theorem pg_85 (pc : Nat) : fe0 85 pc = lk prg_85 pc := rfl
theorem f_85_0 : fe0 85 0 = some (.aload_n 0, 1, 0, 0, 0, 0, 0) := (pg_85 0).trans rfl
theorem f_85_1 : fe0 85 1 = some (.getfield 12, 3, 8, 0, 1, 0, 2013) := (pg_85 1).trans rfl
theorem f_85_4 : fe0 85 4 = some (.iload_n 1, 1, 0, 0, 0, 0, 0) := (pg_85 4).trans rfl
theorem f_85_5 : fe0 85 5 = some (.invokevirtual 84, 3, 12, 1, 0, 2, 2073) := (pg_85 5).trans rfl
theorem f_85_8 : fe0 85 8 = some (.astore_n 3, 1, 0, 0, 0, 0, 0) := (pg_85 8).trans rfl
theorem f_85_9 : fe0 85 9 = some (.aload_n 3, 1, 0, 0, 0, 0, 0) := (pg_85 9).trans rfl
theorem f_85_10 : fe0 85 10 = some (.ifnull 10, 3, 0, 0, 0, 0, 0) := (pg_85 10).trans rfl
theorem f_85_13 : fe0 85 13 = some (.iload_n 2, 1, 0, 0, 0, 0, 0) := (pg_85 13).trans rfl
theorem f_85_14 : fe0 85 14 = some (.invokestatic 68, 3, 124, 1, 2, 0, 2054) := (pg_85 14).trans rfl
theorem f_85_17 : fe0 85 17 = some (.ifCond .ne 6, 3, 0, 0, 0, 0, 0) := (pg_85 17).trans rfl
theorem f_85_20 : fe0 85 20 = some (.ldc 79, 2, 0, 0, 3294967295, 0, 2063) := (pg_85 20).trans rfl
theorem f_85_22 : fe0 85 22 = some (.ireturn, 1, 0, 0, 0, 0, 0) := (pg_85 22).trans rfl
theorem f_85_23 : fe0 85 23 = some (.aload_n 3, 1, 0, 0, 0, 0, 0) := (pg_85 23).trans rfl
theorem f_85_24 : fe0 85 24 = some (.getfield 88, 3, 1, 0, 0, 0, 1065) := (pg_85 24).trans rfl
theorem f_85_27 : fe0 85 27 = some (.istore 4, 2, 0, 0, 0, 0, 0) := (pg_85 27).trans rfl
theorem f_85_29 : fe0 85 29 = some (.aload_n 3, 1, 0, 0, 0, 0, 0) := (pg_85 29).trans rfl
theorem f_85_30 : fe0 85 30 = some (.iload_n 2, 1, 0, 0, 0, 0, 0) := (pg_85 30).trans rfl
theorem f_85_31 : fe0 85 31 = some (.putfield 88, 3, 1, 0, 0, 0, 1065) := (pg_85 31).trans rfl
theorem f_85_34 : fe0 85 34 = some (.iload 4, 2, 0, 0, 0, 0, 0) := (pg_85 34).trans rfl
theorem f_85_36 : fe0 85 36 = some (.ireturn, 1, 0, 0, 0, 0, 0) := (pg_85 36).trans rfl
theorem q_85_0 (d : Nat) (l0 : Nat) (x1 : Int32) (x2 : Int32) (μ : aMem) : Rn (d + 1) 85 (0, [.ref l0, .int x1, .int x2, un, un], [], μ) = if (mS μ l0).1 = 8 then (if (mS μ (mR μ l0 0)).1 = 2 ∧ (mR μ l0 0) < 999999 then ((cR d 12 [.ref (mR μ l0 0), .int x1] μ).bind fun p2 => if p2.1 ≤ 999999 then (if p2.1 = 999999 then (some (some (.int (-1000000001)), p2.2)) else ((cI d 124 [.int x2] p2.2).bind fun p6 => if p6.1 = 0 then (some (some (.int (-1000000001)), p6.2)) else (if (mS p6.2 p2.1).1 = 1 then (some (some (.int (mF p6.2 p2.1 0)), setF p6.2 p2.1 0 x2)) else none))) else none) else none) else none :=
  (e_nx f_85_0 rfl).trans ((e_gd f_85_1 rfl).trans (g_congr (Iff.rfl) (fun h1 => (e_nx f_85_4 rfl).trans ((e_gR (L := [.ref l0, .int x1, .int x2, un, un]) (st := [.int x1, .ref (mR μ l0 0)]) (μ := μ) (L' := [.ref l0, .int x1, .int x2, un, un]) (st' := []) f_85_5 rfl rfl).trans (g_congr (v_c2 rfl (Nat.le_of_ble_eq_true rfl)) (fun h3 => m_congr fun p2 => (e_nx (q := (_, [.ref l0, .int x1, .int x2, .ref p2.1, un], _, _)) f_85_8 rfl).trans ((e_nx f_85_9 rfl).trans ((e_gb f_85_10 rfl).trans (g_congr Iff.rfl (fun h5 => b_congr (fun h4 => (e_nx (q := (_, _, .int (-1000000001) :: _, _)) f_85_20 rfl).trans (e_rt f_85_22 rfl)) (fun h4 => (e_nx f_85_13 rfl).trans ((e_cI (L := [.ref l0, .int x1, .int x2, .ref p2.1, un]) (st := [.int x2]) (μ := p2.2) (L' := [.ref l0, .int x1, .int x2, .ref p2.1, un]) (st' := []) f_85_14 rfl rfl).trans (m_congr fun p6 => (e_ne f_85_17 rfl).trans (b_congr (fun h7 => (e_nx (q := (_, _, .int (-1000000001) :: _, _)) f_85_20 rfl).trans (e_rt f_85_22 rfl)) (fun h7 => (e_nx f_85_23 rfl).trans ((e_gd f_85_24 rfl).trans (g_congr (Iff.rfl) (fun h8 => (e_nx (q := (_, [.ref l0, .int x1, .int x2, .ref p2.1, .int (mF p6.2 p2.1 0)], _, _)) f_85_27 rfl).trans ((e_nx f_85_29 rfl).trans ((e_nx f_85_30 rfl).trans ((e_gk (L := [.ref l0, .int x1, .int x2, .ref p2.1, .int (mF p6.2 p2.1 0)]) (st := [.int x2, .ref p2.1]) (μ := p6.2) f_85_31 ((pi_iff rfl).mpr h8) rfl).trans ((e_nx f_85_34 rfl).trans (e_rt f_85_36 rfl)))))))))))))))))))))))
theorem pg_86 (pc : Nat) : fe0 86 pc = lk prg_86 pc := rfl
theorem f_86_0 : fe0 86 0 = some (.aload_n 0, 1, 0, 0, 0, 0, 0) := (pg_86 0).trans rfl
theorem f_86_1 : fe0 86 1 = some (.getfield 12, 3, 8, 0, 1, 0, 2013) := (pg_86 1).trans rfl
theorem f_86_4 : fe0 86 4 = some (.iload_n 1, 1, 0, 0, 0, 0, 0) := (pg_86 4).trans rfl
theorem f_86_5 : fe0 86 5 = some (.invokevirtual 84, 3, 12, 1, 0, 2, 2073) := (pg_86 5).trans rfl
theorem f_86_8 : fe0 86 8 = some (.astore 4, 2, 0, 0, 0, 0, 0) := (pg_86 8).trans rfl
theorem f_86_10 : fe0 86 10 = some (.aload 4, 2, 0, 0, 0, 0, 0) := (pg_86 10).trans rfl
theorem f_86_12 : fe0 86 12 = some (.ifnonnull 6, 3, 0, 0, 0, 0, 0) := (pg_86 12).trans rfl
theorem f_86_15 : fe0 86 15 = some (.ldc 79, 2, 0, 0, 3294967295, 0, 2063) := (pg_86 15).trans rfl
theorem f_86_17 : fe0 86 17 = some (.ireturn, 1, 0, 0, 0, 0, 0) := (pg_86 17).trans rfl
theorem f_86_18 : fe0 86 18 = some (.ldc 79, 2, 0, 0, 3294967295, 0, 2063) := (pg_86 18).trans rfl
theorem f_86_20 : fe0 86 20 = some (.istore 5, 2, 0, 0, 0, 0, 0) := (pg_86 20).trans rfl
theorem f_86_22 : fe0 86 22 = some (.iload_n 2, 1, 0, 0, 0, 0, 0) := (pg_86 22).trans rfl
theorem f_86_23 : fe0 86 23 = some (.iconst 1, 1, 0, 0, 0, 0, 0) := (pg_86 23).trans rfl
theorem f_86_24 : fe0 86 24 = some (.if_icmp .ne 29, 3, 0, 0, 0, 0, 0) := (pg_86 24).trans rfl
theorem f_86_27 : fe0 86 27 = some (.iload_n 3, 1, 0, 0, 0, 0, 0) := (pg_86 27).trans rfl
theorem f_86_28 : fe0 86 28 = some (.iconst 0, 1, 0, 0, 0, 0, 0) := (pg_86 28).trans rfl
theorem f_86_29 : fe0 86 29 = some (.bipush 99, 2, 0, 0, 0, 0, 0) := (pg_86 29).trans rfl
theorem f_86_31 : fe0 86 31 = some (.invokestatic 72, 3, 122, 3, 2, 0, 2057) := (pg_86 31).trans rfl
theorem f_86_34 : fe0 86 34 = some (.ifCond .eq 19, 3, 0, 0, 0, 0, 0) := (pg_86 34).trans rfl
theorem f_86_37 : fe0 86 37 = some (.aload 4, 2, 0, 0, 0, 0, 0) := (pg_86 37).trans rfl
theorem f_86_39 : fe0 86 39 = some (.getfield 93, 3, 1, 1, 0, 0, 1069) := (pg_86 39).trans rfl
theorem f_86_42 : fe0 86 42 = some (.istore 5, 2, 0, 0, 0, 0, 0) := (pg_86 42).trans rfl
theorem f_86_44 : fe0 86 44 = some (.aload 4, 2, 0, 0, 0, 0, 0) := (pg_86 44).trans rfl
theorem f_86_46 : fe0 86 46 = some (.iload_n 3, 1, 0, 0, 0, 0, 0) := (pg_86 46).trans rfl
theorem f_86_47 : fe0 86 47 = some (.putfield 93, 3, 1, 1, 0, 0, 1069) := (pg_86 47).trans rfl
theorem f_86_50 : fe0 86 50 = some (.goto 59, 3, 0, 0, 0, 0, 0) := (pg_86 50).trans rfl
theorem f_86_53 : fe0 86 53 = some (.iload_n 2, 1, 0, 0, 0, 0, 0) := (pg_86 53).trans rfl
theorem f_86_54 : fe0 86 54 = some (.iconst 2, 1, 0, 0, 0, 0, 0) := (pg_86 54).trans rfl
theorem f_86_55 : fe0 86 55 = some (.if_icmp .ne 29, 3, 0, 0, 0, 0, 0) := (pg_86 55).trans rfl
theorem f_86_58 : fe0 86 58 = some (.iload_n 3, 1, 0, 0, 0, 0, 0) := (pg_86 58).trans rfl
theorem f_86_59 : fe0 86 59 = some (.iconst 0, 1, 0, 0, 0, 0, 0) := (pg_86 59).trans rfl
theorem f_86_60 : fe0 86 60 = some (.bipush 10, 2, 0, 0, 0, 0, 0) := (pg_86 60).trans rfl
theorem f_86_62 : fe0 86 62 = some (.invokestatic 72, 3, 122, 3, 2, 0, 2057) := (pg_86 62).trans rfl
theorem f_86_65 : fe0 86 65 = some (.ifCond .eq 19, 3, 0, 0, 0, 0, 0) := (pg_86 65).trans rfl
theorem f_86_68 : fe0 86 68 = some (.aload 4, 2, 0, 0, 0, 0, 0) := (pg_86 68).trans rfl
theorem f_86_70 : fe0 86 70 = some (.getfield 96, 3, 1, 2, 0, 0, 1073) := (pg_86 70).trans rfl
theorem f_86_73 : fe0 86 73 = some (.istore 5, 2, 0, 0, 0, 0, 0) := (pg_86 73).trans rfl
theorem f_86_75 : fe0 86 75 = some (.aload 4, 2, 0, 0, 0, 0, 0) := (pg_86 75).trans rfl
theorem f_86_77 : fe0 86 77 = some (.iload_n 3, 1, 0, 0, 0, 0, 0) := (pg_86 77).trans rfl
theorem f_86_78 : fe0 86 78 = some (.putfield 96, 3, 1, 2, 0, 0, 1073) := (pg_86 78).trans rfl
theorem f_86_81 : fe0 86 81 = some (.goto 28, 3, 0, 0, 0, 0, 0) := (pg_86 81).trans rfl
theorem f_86_84 : fe0 86 84 = some (.iload_n 2, 1, 0, 0, 0, 0, 0) := (pg_86 84).trans rfl
theorem f_86_85 : fe0 86 85 = some (.iconst 3, 1, 0, 0, 0, 0, 0) := (pg_86 85).trans rfl
theorem f_86_86 : fe0 86 86 = some (.if_icmp .ne 23, 3, 0, 0, 0, 0, 0) := (pg_86 86).trans rfl
theorem f_86_89 : fe0 86 89 = some (.iload_n 3, 1, 0, 0, 0, 0, 0) := (pg_86 89).trans rfl
theorem f_86_90 : fe0 86 90 = some (.invokestatic 76, 3, 125, 1, 2, 0, 2060) := (pg_86 90).trans rfl
theorem f_86_93 : fe0 86 93 = some (.ifCond .eq 16, 3, 0, 0, 0, 0, 0) := (pg_86 93).trans rfl
theorem f_86_96 : fe0 86 96 = some (.aload 4, 2, 0, 0, 0, 0, 0) := (pg_86 96).trans rfl
theorem f_86_98 : fe0 86 98 = some (.getfield 99, 3, 1, 3, 0, 0, 1077) := (pg_86 98).trans rfl
theorem f_86_101 : fe0 86 101 = some (.istore 5, 2, 0, 0, 0, 0, 0) := (pg_86 101).trans rfl
theorem f_86_103 : fe0 86 103 = some (.aload 4, 2, 0, 0, 0, 0, 0) := (pg_86 103).trans rfl
theorem f_86_105 : fe0 86 105 = some (.iload_n 3, 1, 0, 0, 0, 0, 0) := (pg_86 105).trans rfl
theorem f_86_106 : fe0 86 106 = some (.putfield 99, 3, 1, 3, 0, 0, 1077) := (pg_86 106).trans rfl
theorem f_86_109 : fe0 86 109 = some (.iload 5, 2, 0, 0, 0, 0, 0) := (pg_86 109).trans rfl
theorem f_86_111 : fe0 86 111 = some (.ireturn, 1, 0, 0, 0, 0, 0) := (pg_86 111).trans rfl
theorem q_86_0 (d : Nat) (l0 : Nat) (x1 : Int32) (x2 : Int32) (x3 : Int32) (μ : aMem) : Rn (d + 1) 86 (0, [.ref l0, .int x1, .int x2, .int x3, un, un], [], μ) = if (mS μ l0).1 = 8 then (if (mS μ (mR μ l0 0)).1 = 2 ∧ (mR μ l0 0) < 999999 then ((cR d 12 [.ref (mR μ l0 0), .int x1] μ).bind fun p2 => if p2.1 ≤ 999999 then (if p2.1 = 999999 then (some (some (.int (-1000000001)), p2.2)) else (if x2 = 1 then ((cI d 122 [.int x3, .int 0, .int 99] p2.2).bind fun p7 => if p7.1 = 0 then (if x2 = 2 then ((cI d 122 [.int x3, .int 0, .int 10] p7.2).bind fun p10 => if p10.1 = 0 then (if x2 = 3 then ((cI d 125 [.int x3] p10.2).bind fun p13 => if p13.1 = 0 then (some (some (.int (-1000000001)), p13.2)) else (if (mS p13.2 p2.1).1 = 1 then (some (some (.int (mF p13.2 p2.1 3)), setF p13.2 p2.1 3 x3)) else none)) else (some (some (.int (-1000000001)), p10.2))) else (if (mS p10.2 p2.1).1 = 1 then (some (some (.int (mF p10.2 p2.1 2)), setF p10.2 p2.1 2 x3)) else none)) else (if x2 = 3 then ((cI d 125 [.int x3] p7.2).bind fun p18 => if p18.1 = 0 then (some (some (.int (-1000000001)), p18.2)) else (if (mS p18.2 p2.1).1 = 1 then (some (some (.int (mF p18.2 p2.1 3)), setF p18.2 p2.1 3 x3)) else none)) else (some (some (.int (-1000000001)), p7.2)))) else (if (mS p7.2 p2.1).1 = 1 then (some (some (.int (mF p7.2 p2.1 1)), setF p7.2 p2.1 1 x3)) else none)) else (if x2 = 2 then ((cI d 122 [.int x3, .int 0, .int 10] p2.2).bind fun p23 => if p23.1 = 0 then (if x2 = 3 then ((cI d 125 [.int x3] p23.2).bind fun p26 => if p26.1 = 0 then (some (some (.int (-1000000001)), p26.2)) else (if (mS p26.2 p2.1).1 = 1 then (some (some (.int (mF p26.2 p2.1 3)), setF p26.2 p2.1 3 x3)) else none)) else (some (some (.int (-1000000001)), p23.2))) else (if (mS p23.2 p2.1).1 = 1 then (some (some (.int (mF p23.2 p2.1 2)), setF p23.2 p2.1 2 x3)) else none)) else (if x2 = 3 then ((cI d 125 [.int x3] p2.2).bind fun p31 => if p31.1 = 0 then (some (some (.int (-1000000001)), p31.2)) else (if (mS p31.2 p2.1).1 = 1 then (some (some (.int (mF p31.2 p2.1 3)), setF p31.2 p2.1 3 x3)) else none)) else (some (some (.int (-1000000001)), p2.2)))))) else none) else none) else none :=
  (e_nx f_86_0 rfl).trans ((e_gd f_86_1 rfl).trans (g_congr (Iff.rfl) (fun h1 => (e_nx f_86_4 rfl).trans ((e_gR (L := [.ref l0, .int x1, .int x2, .int x3, un, un]) (st := [.int x1, .ref (mR μ l0 0)]) (μ := μ) (L' := [.ref l0, .int x1, .int x2, .int x3, un, un]) (st' := []) f_86_5 rfl rfl).trans (g_congr (v_c2 rfl (Nat.le_of_ble_eq_true rfl)) (fun h3 => m_congr fun p2 => (e_nx (q := (_, [.ref l0, .int x1, .int x2, .int x3, .ref p2.1, un], _, _)) f_86_8 rfl).trans ((e_nx f_86_10 rfl).trans ((e_gb f_86_12 rfl).trans (g_congr Iff.rfl (fun h5 => b_congr (fun h4 => (e_nx (q := (_, _, .int (-1000000001) :: _, _)) f_86_15 rfl).trans (e_rt f_86_17 rfl)) (fun h4 => (e_nx (q := (_, _, .int (-1000000001) :: _, _)) f_86_18 rfl).trans ((e_nx (q := (_, [.ref l0, .int x1, .int x2, .int x3, .ref p2.1, .int (-1000000001)], _, _)) f_86_20 rfl).trans ((e_nx f_86_22 rfl).trans ((e_nx (q := (_, _, .int 1 :: _, _)) f_86_23 rfl).trans ((e_ne f_86_24 rfl).trans (b_congr (fun h6 => (e_nx f_86_27 rfl).trans ((e_nx (q := (_, _, .int 0 :: _, _)) f_86_28 rfl).trans ((e_nx (q := (_, _, .int 99 :: _, _)) f_86_29 rfl).trans ((e_cI (L := [.ref l0, .int x1, .int x2, .int x3, .ref p2.1, .int (-1000000001)]) (st := [.int 99, .int 0, .int x3]) (μ := p2.2) (L' := [.ref l0, .int x1, .int x2, .int x3, .ref p2.1, .int (-1000000001)]) (st' := []) f_86_31 rfl rfl).trans (m_congr fun p7 => (e_eq f_86_34 rfl).trans (b_congr (fun h8 => (e_nx f_86_53 rfl).trans ((e_nx (q := (_, _, .int 2 :: _, _)) f_86_54 rfl).trans ((e_ne f_86_55 rfl).trans (b_congr (fun h9 => (e_nx f_86_58 rfl).trans ((e_nx (q := (_, _, .int 0 :: _, _)) f_86_59 rfl).trans ((e_nx (q := (_, _, .int 10 :: _, _)) f_86_60 rfl).trans ((e_cI (L := [.ref l0, .int x1, .int x2, .int x3, .ref p2.1, .int (-1000000001)]) (st := [.int 10, .int 0, .int x3]) (μ := p7.2) (L' := [.ref l0, .int x1, .int x2, .int x3, .ref p2.1, .int (-1000000001)]) (st' := []) f_86_62 rfl rfl).trans (m_congr fun p10 => (e_eq f_86_65 rfl).trans (b_congr (fun h11 => (e_nx f_86_84 rfl).trans ((e_nx (q := (_, _, .int 3 :: _, _)) f_86_85 rfl).trans ((e_ne f_86_86 rfl).trans (b_congr (fun h12 => (e_nx f_86_89 rfl).trans ((e_cI (L := [.ref l0, .int x1, .int x2, .int x3, .ref p2.1, .int (-1000000001)]) (st := [.int x3]) (μ := p10.2) (L' := [.ref l0, .int x1, .int x2, .int x3, .ref p2.1, .int (-1000000001)]) (st' := []) f_86_90 rfl rfl).trans (m_congr fun p13 => (e_eq f_86_93 rfl).trans (b_congr (fun h14 => (e_nx f_86_109 rfl).trans (e_rt f_86_111 rfl)) (fun h14 => (e_nx f_86_96 rfl).trans ((e_gd f_86_98 rfl).trans (g_congr (Iff.rfl) (fun h15 => (e_nx (q := (_, [.ref l0, .int x1, .int x2, .int x3, .ref p2.1, .int (mF p13.2 p2.1 3)], _, _)) f_86_101 rfl).trans ((e_nx f_86_103 rfl).trans ((e_nx f_86_105 rfl).trans ((e_gk (L := [.ref l0, .int x1, .int x2, .int x3, .ref p2.1, .int (mF p13.2 p2.1 3)]) (st := [.int x3, .ref p2.1]) (μ := p13.2) f_86_106 ((pi_iff rfl).mpr h15) rfl).trans ((e_nx f_86_109 rfl).trans (e_rt f_86_111 rfl))))))))))))) (fun h12 => (e_nx f_86_109 rfl).trans (e_rt f_86_111 rfl)))))) (fun h11 => (e_nx f_86_68 rfl).trans ((e_gd f_86_70 rfl).trans (g_congr (Iff.rfl) (fun h16 => (e_nx (q := (_, [.ref l0, .int x1, .int x2, .int x3, .ref p2.1, .int (mF p10.2 p2.1 2)], _, _)) f_86_73 rfl).trans ((e_nx f_86_75 rfl).trans ((e_nx f_86_77 rfl).trans ((e_gk (L := [.ref l0, .int x1, .int x2, .int x3, .ref p2.1, .int (mF p10.2 p2.1 2)]) (st := [.int x3, .ref p2.1]) (μ := p10.2) f_86_78 ((pi_iff rfl).mpr h16) rfl).trans ((e_nx f_86_81 rfl).trans ((e_nx f_86_109 rfl).trans (e_rt f_86_111 rfl)))))))))))))))) (fun h9 => (e_nx f_86_84 rfl).trans ((e_nx (q := (_, _, .int 3 :: _, _)) f_86_85 rfl).trans ((e_ne f_86_86 rfl).trans (b_congr (fun h17 => (e_nx f_86_89 rfl).trans ((e_cI (L := [.ref l0, .int x1, .int x2, .int x3, .ref p2.1, .int (-1000000001)]) (st := [.int x3]) (μ := p7.2) (L' := [.ref l0, .int x1, .int x2, .int x3, .ref p2.1, .int (-1000000001)]) (st' := []) f_86_90 rfl rfl).trans (m_congr fun p18 => (e_eq f_86_93 rfl).trans (b_congr (fun h19 => (e_nx f_86_109 rfl).trans (e_rt f_86_111 rfl)) (fun h19 => (e_nx f_86_96 rfl).trans ((e_gd f_86_98 rfl).trans (g_congr (Iff.rfl) (fun h20 => (e_nx (q := (_, [.ref l0, .int x1, .int x2, .int x3, .ref p2.1, .int (mF p18.2 p2.1 3)], _, _)) f_86_101 rfl).trans ((e_nx f_86_103 rfl).trans ((e_nx f_86_105 rfl).trans ((e_gk (L := [.ref l0, .int x1, .int x2, .int x3, .ref p2.1, .int (mF p18.2 p2.1 3)]) (st := [.int x3, .ref p2.1]) (μ := p18.2) f_86_106 ((pi_iff rfl).mpr h20) rfl).trans ((e_nx f_86_109 rfl).trans (e_rt f_86_111 rfl))))))))))))) (fun h17 => (e_nx f_86_109 rfl).trans (e_rt f_86_111 rfl)))))))))) (fun h8 => (e_nx f_86_37 rfl).trans ((e_gd f_86_39 rfl).trans (g_congr (Iff.rfl) (fun h21 => (e_nx (q := (_, [.ref l0, .int x1, .int x2, .int x3, .ref p2.1, .int (mF p7.2 p2.1 1)], _, _)) f_86_42 rfl).trans ((e_nx f_86_44 rfl).trans ((e_nx f_86_46 rfl).trans ((e_gk (L := [.ref l0, .int x1, .int x2, .int x3, .ref p2.1, .int (mF p7.2 p2.1 1)]) (st := [.int x3, .ref p2.1]) (μ := p7.2) f_86_47 ((pi_iff rfl).mpr h21) rfl).trans ((e_nx f_86_50 rfl).trans ((e_nx f_86_109 rfl).trans (e_rt f_86_111 rfl)))))))))))))))) (fun h6 => (e_nx f_86_53 rfl).trans ((e_nx (q := (_, _, .int 2 :: _, _)) f_86_54 rfl).trans ((e_ne f_86_55 rfl).trans (b_congr (fun h22 => (e_nx f_86_58 rfl).trans ((e_nx (q := (_, _, .int 0 :: _, _)) f_86_59 rfl).trans ((e_nx (q := (_, _, .int 10 :: _, _)) f_86_60 rfl).trans ((e_cI (L := [.ref l0, .int x1, .int x2, .int x3, .ref p2.1, .int (-1000000001)]) (st := [.int 10, .int 0, .int x3]) (μ := p2.2) (L' := [.ref l0, .int x1, .int x2, .int x3, .ref p2.1, .int (-1000000001)]) (st' := []) f_86_62 rfl rfl).trans (m_congr fun p23 => (e_eq f_86_65 rfl).trans (b_congr (fun h24 => (e_nx f_86_84 rfl).trans ((e_nx (q := (_, _, .int 3 :: _, _)) f_86_85 rfl).trans ((e_ne f_86_86 rfl).trans (b_congr (fun h25 => (e_nx f_86_89 rfl).trans ((e_cI (L := [.ref l0, .int x1, .int x2, .int x3, .ref p2.1, .int (-1000000001)]) (st := [.int x3]) (μ := p23.2) (L' := [.ref l0, .int x1, .int x2, .int x3, .ref p2.1, .int (-1000000001)]) (st' := []) f_86_90 rfl rfl).trans (m_congr fun p26 => (e_eq f_86_93 rfl).trans (b_congr (fun h27 => (e_nx f_86_109 rfl).trans (e_rt f_86_111 rfl)) (fun h27 => (e_nx f_86_96 rfl).trans ((e_gd f_86_98 rfl).trans (g_congr (Iff.rfl) (fun h28 => (e_nx (q := (_, [.ref l0, .int x1, .int x2, .int x3, .ref p2.1, .int (mF p26.2 p2.1 3)], _, _)) f_86_101 rfl).trans ((e_nx f_86_103 rfl).trans ((e_nx f_86_105 rfl).trans ((e_gk (L := [.ref l0, .int x1, .int x2, .int x3, .ref p2.1, .int (mF p26.2 p2.1 3)]) (st := [.int x3, .ref p2.1]) (μ := p26.2) f_86_106 ((pi_iff rfl).mpr h28) rfl).trans ((e_nx f_86_109 rfl).trans (e_rt f_86_111 rfl))))))))))))) (fun h25 => (e_nx f_86_109 rfl).trans (e_rt f_86_111 rfl)))))) (fun h24 => (e_nx f_86_68 rfl).trans ((e_gd f_86_70 rfl).trans (g_congr (Iff.rfl) (fun h29 => (e_nx (q := (_, [.ref l0, .int x1, .int x2, .int x3, .ref p2.1, .int (mF p23.2 p2.1 2)], _, _)) f_86_73 rfl).trans ((e_nx f_86_75 rfl).trans ((e_nx f_86_77 rfl).trans ((e_gk (L := [.ref l0, .int x1, .int x2, .int x3, .ref p2.1, .int (mF p23.2 p2.1 2)]) (st := [.int x3, .ref p2.1]) (μ := p23.2) f_86_78 ((pi_iff rfl).mpr h29) rfl).trans ((e_nx f_86_81 rfl).trans ((e_nx f_86_109 rfl).trans (e_rt f_86_111 rfl)))))))))))))))) (fun h22 => (e_nx f_86_84 rfl).trans ((e_nx (q := (_, _, .int 3 :: _, _)) f_86_85 rfl).trans ((e_ne f_86_86 rfl).trans (b_congr (fun h30 => (e_nx f_86_89 rfl).trans ((e_cI (L := [.ref l0, .int x1, .int x2, .int x3, .ref p2.1, .int (-1000000001)]) (st := [.int x3]) (μ := p2.2) (L' := [.ref l0, .int x1, .int x2, .int x3, .ref p2.1, .int (-1000000001)]) (st' := []) f_86_90 rfl rfl).trans (m_congr fun p31 => (e_eq f_86_93 rfl).trans (b_congr (fun h32 => (e_nx f_86_109 rfl).trans (e_rt f_86_111 rfl)) (fun h32 => (e_nx f_86_96 rfl).trans ((e_gd f_86_98 rfl).trans (g_congr (Iff.rfl) (fun h33 => (e_nx (q := (_, [.ref l0, .int x1, .int x2, .int x3, .ref p2.1, .int (mF p31.2 p2.1 3)], _, _)) f_86_101 rfl).trans ((e_nx f_86_103 rfl).trans ((e_nx f_86_105 rfl).trans ((e_gk (L := [.ref l0, .int x1, .int x2, .int x3, .ref p2.1, .int (mF p31.2 p2.1 3)]) (st := [.int x3, .ref p2.1]) (μ := p31.2) f_86_106 ((pi_iff rfl).mpr h33) rfl).trans ((e_nx f_86_109 rfl).trans (e_rt f_86_111 rfl))))))))))))) (fun h30 => (e_nx f_86_109 rfl).trans (e_rt f_86_111 rfl))))))))))))))))))))))))))
theorem pg_87 (pc : Nat) : fe0 87 pc = lk prg_87 pc := rfl
theorem f_87_0 : fe0 87 0 = some (.aload_n 0, 1, 0, 0, 0, 0, 0) := (pg_87 0).trans rfl
theorem f_87_1 : fe0 87 1 = some (.getfield 12, 3, 8, 0, 1, 0, 2013) := (pg_87 1).trans rfl
theorem f_87_4 : fe0 87 4 = some (.iload_n 2, 1, 0, 0, 0, 0, 0) := (pg_87 4).trans rfl
theorem f_87_5 : fe0 87 5 = some (.invokevirtual 84, 3, 12, 1, 0, 2, 2073) := (pg_87 5).trans rfl
theorem f_87_8 : fe0 87 8 = some (.astore 4, 2, 0, 0, 0, 0, 0) := (pg_87 8).trans rfl
theorem f_87_10 : fe0 87 10 = some (.aload_n 0, 1, 0, 0, 0, 0, 0) := (pg_87 10).trans rfl
theorem f_87_11 : fe0 87 11 = some (.getfield 12, 3, 8, 0, 1, 0, 2013) := (pg_87 11).trans rfl
theorem f_87_14 : fe0 87 14 = some (.iload_n 1, 1, 0, 0, 0, 0, 0) := (pg_87 14).trans rfl
theorem f_87_15 : fe0 87 15 = some (.invokevirtual 84, 3, 12, 1, 0, 2, 2073) := (pg_87 15).trans rfl
theorem f_87_18 : fe0 87 18 = some (.ifnull 22, 3, 0, 0, 0, 0, 0) := (pg_87 18).trans rfl
theorem f_87_21 : fe0 87 21 = some (.aload 4, 2, 0, 0, 0, 0, 0) := (pg_87 21).trans rfl
theorem f_87_23 : fe0 87 23 = some (.ifnull 17, 3, 0, 0, 0, 0, 0) := (pg_87 23).trans rfl
theorem f_87_26 : fe0 87 26 = some (.iload_n 1, 1, 0, 0, 0, 0, 0) := (pg_87 26).trans rfl
theorem f_87_27 : fe0 87 27 = some (.iload_n 2, 1, 0, 0, 0, 0, 0) := (pg_87 27).trans rfl
theorem f_87_28 : fe0 87 28 = some (.if_icmp .ge 12, 3, 0, 0, 0, 0, 0) := (pg_87 28).trans rfl
theorem f_87_31 : fe0 87 31 = some (.iload_n 3, 1, 0, 0, 0, 0, 0) := (pg_87 31).trans rfl
theorem f_87_32 : fe0 87 32 = some (.iconst 0, 1, 0, 0, 0, 0, 0) := (pg_87 32).trans rfl
theorem f_87_33 : fe0 87 33 = some (.iconst 1, 1, 0, 0, 0, 0, 0) := (pg_87 33).trans rfl
theorem f_87_34 : fe0 87 34 = some (.invokestatic 72, 3, 122, 3, 2, 0, 2057) := (pg_87 34).trans rfl
theorem f_87_37 : fe0 87 37 = some (.ifCond .ne 6, 3, 0, 0, 0, 0, 0) := (pg_87 37).trans rfl
theorem f_87_40 : fe0 87 40 = some (.ldc 79, 2, 0, 0, 3294967295, 0, 2063) := (pg_87 40).trans rfl
theorem f_87_42 : fe0 87 42 = some (.ireturn, 1, 0, 0, 0, 0, 0) := (pg_87 42).trans rfl
theorem f_87_43 : fe0 87 43 = some (.aload 4, 2, 0, 0, 0, 0, 0) := (pg_87 43).trans rfl
theorem f_87_45 : fe0 87 45 = some (.getfield 102, 3, 1, 4, 0, 0, 1081) := (pg_87 45).trans rfl
theorem f_87_48 : fe0 87 48 = some (.iload_n 1, 1, 0, 0, 0, 0, 0) := (pg_87 48).trans rfl
theorem f_87_49 : fe0 87 49 = some (.ishr, 1, 0, 0, 0, 0, 0) := (pg_87 49).trans rfl
theorem f_87_50 : fe0 87 50 = some (.iconst 1, 1, 0, 0, 0, 0, 0) := (pg_87 50).trans rfl
theorem f_87_51 : fe0 87 51 = some (.iand, 1, 0, 0, 0, 0, 0) := (pg_87 51).trans rfl
theorem f_87_52 : fe0 87 52 = some (.istore 5, 2, 0, 0, 0, 0, 0) := (pg_87 52).trans rfl
theorem f_87_54 : fe0 87 54 = some (.aload 4, 2, 0, 0, 0, 0, 0) := (pg_87 54).trans rfl
theorem f_87_56 : fe0 87 56 = some (.aload 4, 2, 0, 0, 0, 0, 0) := (pg_87 56).trans rfl
theorem f_87_58 : fe0 87 58 = some (.getfield 102, 3, 1, 4, 0, 0, 1081) := (pg_87 58).trans rfl
theorem f_87_61 : fe0 87 61 = some (.iconst 1, 1, 0, 0, 0, 0, 0) := (pg_87 61).trans rfl
theorem f_87_62 : fe0 87 62 = some (.iload_n 1, 1, 0, 0, 0, 0, 0) := (pg_87 62).trans rfl
theorem f_87_63 : fe0 87 63 = some (.ishl, 1, 0, 0, 0, 0, 0) := (pg_87 63).trans rfl
theorem f_87_64 : fe0 87 64 = some (.iconst (-1), 1, 0, 0, 0, 0, 0) := (pg_87 64).trans rfl
theorem f_87_65 : fe0 87 65 = some (.ixor, 1, 0, 0, 0, 0, 0) := (pg_87 65).trans rfl
theorem f_87_66 : fe0 87 66 = some (.iand, 1, 0, 0, 0, 0, 0) := (pg_87 66).trans rfl
theorem f_87_67 : fe0 87 67 = some (.iload_n 3, 1, 0, 0, 0, 0, 0) := (pg_87 67).trans rfl
theorem f_87_68 : fe0 87 68 = some (.iload_n 1, 1, 0, 0, 0, 0, 0) := (pg_87 68).trans rfl
theorem f_87_69 : fe0 87 69 = some (.ishl, 1, 0, 0, 0, 0, 0) := (pg_87 69).trans rfl
theorem f_87_70 : fe0 87 70 = some (.ior, 1, 0, 0, 0, 0, 0) := (pg_87 70).trans rfl
theorem f_87_71 : fe0 87 71 = some (.putfield 102, 3, 1, 4, 0, 0, 1081) := (pg_87 71).trans rfl
theorem f_87_74 : fe0 87 74 = some (.iload 5, 2, 0, 0, 0, 0, 0) := (pg_87 74).trans rfl
theorem f_87_76 : fe0 87 76 = some (.ireturn, 1, 0, 0, 0, 0, 0) := (pg_87 76).trans rfl
theorem q_87_0 (d : Nat) (l0 : Nat) (x1 : Int32) (x2 : Int32) (x3 : Int32) (μ : aMem) : Rn (d + 1) 87 (0, [.ref l0, .int x1, .int x2, .int x3, un, un], [], μ) = if (mS μ l0).1 = 8 then (if (mS μ (mR μ l0 0)).1 = 2 ∧ (mR μ l0 0) < 999999 then ((cR d 12 [.ref (mR μ l0 0), .int x2] μ).bind fun p2 => if (mS p2.2 l0).1 = 8 then (if (mS p2.2 (mR p2.2 l0 0)).1 = 2 ∧ (mR p2.2 l0 0) < 999999 then ((cR d 12 [.ref (mR p2.2 l0 0), .int x1] p2.2).bind fun p5 => if p5.1 ≤ 999999 then (if p5.1 = 999999 then (some (some (.int (-1000000001)), p5.2)) else (if p2.1 ≤ 999999 then (if p2.1 = 999999 then (some (some (.int (-1000000001)), p5.2)) else (if x2 ≤ x1 then (some (some (.int (-1000000001)), p5.2)) else ((cI d 122 [.int x3, .int 0, .int 1] p5.2).bind fun p12 => if p12.1 = 0 then (some (some (.int (-1000000001)), p12.2)) else (if (mS p12.2 p2.1).1 = 1 then (some (some (.int (((mF p12.2 p2.1 4) >>> (x1 &&& 31)) &&& 1)), setF p12.2 p2.1 4 (((mF p12.2 p2.1 4) &&& ((1 <<< (x1 &&& 31)) ^^^ (-1))) ||| (x3 <<< (x1 &&& 31))))) else none)))) else none)) else none) else none) else none) else none) else none :=
  (e_nx f_87_0 rfl).trans ((e_gd f_87_1 rfl).trans (g_congr (Iff.rfl) (fun h1 => (e_nx f_87_4 rfl).trans ((e_gR (L := [.ref l0, .int x1, .int x2, .int x3, un, un]) (st := [.int x2, .ref (mR μ l0 0)]) (μ := μ) (L' := [.ref l0, .int x1, .int x2, .int x3, un, un]) (st' := []) f_87_5 rfl rfl).trans (g_congr (v_c2 rfl (Nat.le_of_ble_eq_true rfl)) (fun h3 => m_congr fun p2 => (e_nx (q := (_, [.ref l0, .int x1, .int x2, .int x3, .ref p2.1, un], _, _)) f_87_8 rfl).trans ((e_nx f_87_10 rfl).trans ((e_gd f_87_11 rfl).trans (g_congr (Iff.rfl) (fun h4 => (e_nx f_87_14 rfl).trans ((e_gR (L := [.ref l0, .int x1, .int x2, .int x3, .ref p2.1, un]) (st := [.int x1, .ref (mR p2.2 l0 0)]) (μ := p2.2) (L' := [.ref l0, .int x1, .int x2, .int x3, .ref p2.1, un]) (st' := []) f_87_15 rfl rfl).trans (g_congr (v_c2 rfl (Nat.le_of_ble_eq_true rfl)) (fun h6 => m_congr fun p5 => (e_gb f_87_18 rfl).trans (g_congr Iff.rfl (fun h8 => b_congr (fun h7 => (e_nx (q := (_, _, .int (-1000000001) :: _, _)) f_87_40 rfl).trans (e_rt f_87_42 rfl)) (fun h7 => (e_nx f_87_21 rfl).trans ((e_gb f_87_23 rfl).trans (g_congr Iff.rfl (fun h10 => b_congr (fun h9 => (e_nx (q := (_, _, .int (-1000000001) :: _, _)) f_87_40 rfl).trans (e_rt f_87_42 rfl)) (fun h9 => (e_nx f_87_26 rfl).trans ((e_nx f_87_27 rfl).trans ((e_ge f_87_28 rfl).trans (b_congr (fun h11 => (e_nx (q := (_, _, .int (-1000000001) :: _, _)) f_87_40 rfl).trans (e_rt f_87_42 rfl)) (fun h11 => (e_nx f_87_31 rfl).trans ((e_nx (q := (_, _, .int 0 :: _, _)) f_87_32 rfl).trans ((e_nx (q := (_, _, .int 1 :: _, _)) f_87_33 rfl).trans ((e_cI (L := [.ref l0, .int x1, .int x2, .int x3, .ref p2.1, un]) (st := [.int 1, .int 0, .int x3]) (μ := p5.2) (L' := [.ref l0, .int x1, .int x2, .int x3, .ref p2.1, un]) (st' := []) f_87_34 rfl rfl).trans (m_congr fun p12 => (e_ne f_87_37 rfl).trans (b_congr (fun h13 => (e_nx (q := (_, _, .int (-1000000001) :: _, _)) f_87_40 rfl).trans (e_rt f_87_42 rfl)) (fun h13 => (e_nx f_87_43 rfl).trans ((e_gd f_87_45 rfl).trans (g_congr (Iff.rfl) (fun h14 => (e_nx f_87_48 rfl).trans ((e_nx f_87_49 rfl).trans ((e_nx (q := (_, _, .int 1 :: _, _)) f_87_50 rfl).trans ((e_nx f_87_51 rfl).trans ((e_nx (q := (_, [.ref l0, .int x1, .int x2, .int x3, .ref p2.1, .int (((mF p12.2 p2.1 4) >>> (x1 &&& 31)) &&& 1)], _, _)) f_87_52 rfl).trans ((e_nx f_87_54 rfl).trans ((e_nx f_87_56 rfl).trans ((e_gk f_87_58 (h14) rfl).trans ((e_nx (q := (_, _, .int 1 :: _, _)) f_87_61 rfl).trans ((e_nx f_87_62 rfl).trans ((e_nx f_87_63 rfl).trans ((e_nx (q := (_, _, .int (-1) :: _, _)) f_87_64 rfl).trans ((e_nx f_87_65 rfl).trans ((e_nx f_87_66 rfl).trans ((e_nx f_87_67 rfl).trans ((e_nx f_87_68 rfl).trans ((e_nx f_87_69 rfl).trans ((e_nx f_87_70 rfl).trans ((e_gk (L := [.ref l0, .int x1, .int x2, .int x3, .ref p2.1, .int (((mF p12.2 p2.1 4) >>> (x1 &&& 31)) &&& 1)]) (st := [.int (((mF p12.2 p2.1 4) &&& ((1 <<< (x1 &&& 31)) ^^^ (-1))) ||| (x3 <<< (x1 &&& 31))), .ref p2.1]) (μ := p12.2) f_87_71 ((pi_iff rfl).mpr h14) rfl).trans ((e_nx f_87_74 rfl).trans (e_rt f_87_76 rfl)))))))))))))))))))))))))))))))))))))))))))))))))))))
theorem pg_88 (pc : Nat) : fe0 88 pc = lk prg_88 pc := rfl
theorem f_88_0 : fe0 88 0 = some (.iload_n 1, 1, 0, 0, 0, 0, 0) := (pg_88 0).trans rfl
theorem f_88_1 : fe0 88 1 = some (.invokestatic 76, 3, 125, 1, 2, 0, 2060) := (pg_88 1).trans rfl
theorem f_88_4 : fe0 88 4 = some (.ifCond .eq 25, 3, 0, 0, 0, 0, 0) := (pg_88 4).trans rfl
theorem f_88_7 : fe0 88 7 = some (.iload_n 2, 1, 0, 0, 0, 0, 0) := (pg_88 7).trans rfl
theorem f_88_8 : fe0 88 8 = some (.iconst 0, 1, 0, 0, 0, 0, 0) := (pg_88 8).trans rfl
theorem f_88_9 : fe0 88 9 = some (.sipush 9999, 3, 0, 0, 0, 0, 0) := (pg_88 9).trans rfl
theorem f_88_12 : fe0 88 12 = some (.invokestatic 72, 3, 122, 3, 2, 0, 2057) := (pg_88 12).trans rfl
theorem f_88_15 : fe0 88 15 = some (.ifCond .eq 14, 3, 0, 0, 0, 0, 0) := (pg_88 15).trans rfl
theorem f_88_18 : fe0 88 18 = some (.iload_n 3, 1, 0, 0, 0, 0, 0) := (pg_88 18).trans rfl
theorem f_88_19 : fe0 88 19 = some (.iconst 0, 1, 0, 0, 0, 0, 0) := (pg_88 19).trans rfl
theorem f_88_20 : fe0 88 20 = some (.sipush 9999, 3, 0, 0, 0, 0, 0) := (pg_88 20).trans rfl
theorem f_88_23 : fe0 88 23 = some (.invokestatic 72, 3, 122, 3, 2, 0, 2057) := (pg_88 23).trans rfl
theorem f_88_26 : fe0 88 26 = some (.ifCond .ne 6, 3, 0, 0, 0, 0, 0) := (pg_88 26).trans rfl
theorem f_88_29 : fe0 88 29 = some (.ldc 79, 2, 0, 0, 3294967295, 0, 2063) := (pg_88 29).trans rfl
theorem f_88_31 : fe0 88 31 = some (.ireturn, 1, 0, 0, 0, 0, 0) := (pg_88 31).trans rfl
theorem f_88_32 : fe0 88 32 = some (.aload_n 0, 1, 0, 0, 0, 0, 0) := (pg_88 32).trans rfl
theorem f_88_33 : fe0 88 33 = some (.getfield 12, 3, 8, 0, 1, 0, 2013) := (pg_88 33).trans rfl
theorem f_88_36 : fe0 88 36 = some (.getfield 130, 3, 2, 2, 1, 0, 1106) := (pg_88 36).trans rfl
theorem f_88_39 : fe0 88 39 = some (.iload_n 1, 1, 0, 0, 0, 0, 0) := (pg_88 39).trans rfl
theorem f_88_40 : fe0 88 40 = some (.iload_n 2, 1, 0, 0, 0, 0, 0) := (pg_88 40).trans rfl
theorem f_88_41 : fe0 88 41 = some (.iload_n 3, 1, 0, 0, 0, 0, 0) := (pg_88 41).trans rfl
theorem f_88_42 : fe0 88 42 = some (.invokevirtual 134, 3, 1, 3, 0, 0, 2190) := (pg_88 42).trans rfl
theorem f_88_45 : fe0 88 45 = some (.aload_n 0, 1, 0, 0, 0, 0, 0) := (pg_88 45).trans rfl
theorem f_88_46 : fe0 88 46 = some (.getfield 12, 3, 8, 0, 1, 0, 2013) := (pg_88 46).trans rfl
theorem f_88_49 : fe0 88 49 = some (.getfield 130, 3, 2, 2, 1, 0, 1106) := (pg_88 49).trans rfl
theorem f_88_52 : fe0 88 52 = some (.getfield 140, 3, 0, 3, 0, 0, 1046) := (pg_88 52).trans rfl
theorem f_88_55 : fe0 88 55 = some (.ireturn, 1, 0, 0, 0, 0, 0) := (pg_88 55).trans rfl
theorem q_88_0 (d : Nat) (l0 : Nat) (x1 : Int32) (x2 : Int32) (x3 : Int32) (μ : aMem) : Rn (d + 1) 88 (0, [.ref l0, .int x1, .int x2, .int x3], [], μ) = (cI d 125 [.int x1] μ).bind fun p1 => if p1.1 = 0 then (some (some (.int (-1000000001)), p1.2)) else ((cI d 122 [.int x2, .int 0, .int 9999] p1.2).bind fun p3 => if p3.1 = 0 then (some (some (.int (-1000000001)), p3.2)) else ((cI d 122 [.int x3, .int 0, .int 9999] p3.2).bind fun p5 => if p5.1 = 0 then (some (some (.int (-1000000001)), p5.2)) else (if (mS p5.2 l0).1 = 8 then (if (mS p5.2 (mR p5.2 l0 0)).1 = 2 then (if (mS p5.2 (mR p5.2 (mR p5.2 l0 0) 2)).1 = 0 ∧ (mR p5.2 (mR p5.2 l0 0) 2) < 999999 then ((cV d 1 [.ref (mR p5.2 (mR p5.2 l0 0) 2), .int x1, .int x2, .int x3] p5.2).bind fun p9 => if (mS p9 l0).1 = 8 then (if (mS p9 (mR p9 l0 0)).1 = 2 then (if (mS p9 (mR p9 (mR p9 l0 0) 2)).1 = 0 then (some (some (.int (mF p9 (mR p9 (mR p9 l0 0) 2) 3)), p9)) else none) else none) else none) else none) else none) else none))) :=
  (e_nx f_88_0 rfl).trans ((e_cI (L := [.ref l0, .int x1, .int x2, .int x3]) (st := [.int x1]) (μ := μ) (L' := [.ref l0, .int x1, .int x2, .int x3]) (st' := []) f_88_1 rfl rfl).trans (m_congr fun p1 => (e_eq f_88_4 rfl).trans (b_congr (fun h2 => (e_nx (q := (_, _, .int (-1000000001) :: _, _)) f_88_29 rfl).trans (e_rt f_88_31 rfl)) (fun h2 => (e_nx f_88_7 rfl).trans ((e_nx (q := (_, _, .int 0 :: _, _)) f_88_8 rfl).trans ((e_nx (q := (_, _, .int 9999 :: _, _)) f_88_9 rfl).trans ((e_cI (L := [.ref l0, .int x1, .int x2, .int x3]) (st := [.int 9999, .int 0, .int x2]) (μ := p1.2) (L' := [.ref l0, .int x1, .int x2, .int x3]) (st' := []) f_88_12 rfl rfl).trans (m_congr fun p3 => (e_eq f_88_15 rfl).trans (b_congr (fun h4 => (e_nx (q := (_, _, .int (-1000000001) :: _, _)) f_88_29 rfl).trans (e_rt f_88_31 rfl)) (fun h4 => (e_nx f_88_18 rfl).trans ((e_nx (q := (_, _, .int 0 :: _, _)) f_88_19 rfl).trans ((e_nx (q := (_, _, .int 9999 :: _, _)) f_88_20 rfl).trans ((e_cI (L := [.ref l0, .int x1, .int x2, .int x3]) (st := [.int 9999, .int 0, .int x3]) (μ := p3.2) (L' := [.ref l0, .int x1, .int x2, .int x3]) (st' := []) f_88_23 rfl rfl).trans (m_congr fun p5 => (e_ne f_88_26 rfl).trans (b_congr (fun h6 => (e_nx (q := (_, _, .int (-1000000001) :: _, _)) f_88_29 rfl).trans (e_rt f_88_31 rfl)) (fun h6 => (e_nx f_88_32 rfl).trans ((e_gd f_88_33 rfl).trans (g_congr (Iff.rfl) (fun h7 => (e_gd f_88_36 rfl).trans (g_congr (Iff.rfl) (fun h8 => (e_nx f_88_39 rfl).trans ((e_nx f_88_40 rfl).trans ((e_nx f_88_41 rfl).trans ((e_gV (L := [.ref l0, .int x1, .int x2, .int x3]) (st := [.int x3, .int x2, .int x1, .ref (mR p5.2 (mR p5.2 l0 0) 2)]) (μ := p5.2) (L' := [.ref l0, .int x1, .int x2, .int x3]) (st' := []) f_88_42 rfl rfl).trans (g_congr (v_c2 rfl (Nat.le_of_ble_eq_true rfl)) (fun h10 => m_congr fun p9 => (e_nx f_88_45 rfl).trans ((e_gd f_88_46 rfl).trans (g_congr (Iff.rfl) (fun h11 => (e_gd f_88_49 rfl).trans (g_congr (Iff.rfl) (fun h12 => (e_gd f_88_52 rfl).trans (g_congr (Iff.rfl) (fun h13 => e_rt f_88_55 rfl)))))))))))))))))))))))))))))))))
theorem pg_89 (pc : Nat) : fe0 89 pc = lk prg_89 pc := rfl
theorem f_89_0 : fe0 89 0 = some (.iload_n 2, 1, 0, 0, 0, 0, 0) := (pg_89 0).trans rfl
theorem f_89_1 : fe0 89 1 = some (.iconst 0, 1, 0, 0, 0, 0, 0) := (pg_89 1).trans rfl
theorem f_89_2 : fe0 89 2 = some (.iconst 2, 1, 0, 0, 0, 0, 0) := (pg_89 2).trans rfl
theorem f_89_3 : fe0 89 3 = some (.invokestatic 72, 3, 122, 3, 2, 0, 2057) := (pg_89 3).trans rfl
theorem f_89_6 : fe0 89 6 = some (.ifCond .ne 6, 3, 0, 0, 0, 0, 0) := (pg_89 6).trans rfl
theorem f_89_9 : fe0 89 9 = some (.ldc 79, 2, 0, 0, 3294967295, 0, 2063) := (pg_89 9).trans rfl
theorem f_89_11 : fe0 89 11 = some (.ireturn, 1, 0, 0, 0, 0, 0) := (pg_89 11).trans rfl
theorem f_89_12 : fe0 89 12 = some (.aload_n 0, 1, 0, 0, 0, 0, 0) := (pg_89 12).trans rfl
theorem f_89_13 : fe0 89 13 = some (.getfield 12, 3, 8, 0, 1, 0, 2013) := (pg_89 13).trans rfl
theorem f_89_16 : fe0 89 16 = some (.getfield 130, 3, 2, 2, 1, 0, 1106) := (pg_89 16).trans rfl
theorem f_89_19 : fe0 89 19 = some (.iload_n 1, 1, 0, 0, 0, 0, 0) := (pg_89 19).trans rfl
theorem f_89_20 : fe0 89 20 = some (.iload_n 2, 1, 0, 0, 0, 0, 0) := (pg_89 20).trans rfl
theorem f_89_21 : fe0 89 21 = some (.invokevirtual 143, 3, 2, 2, 0, 0, 2201) := (pg_89 21).trans rfl
theorem f_89_24 : fe0 89 24 = some (.ireturn, 1, 0, 0, 0, 0, 0) := (pg_89 24).trans rfl
theorem q_89_0 (d : Nat) (l0 : Nat) (x1 : Int32) (x2 : Int32) (μ : aMem) : Rn (d + 1) 89 (0, [.ref l0, .int x1, .int x2], [], μ) = (cI d 122 [.int x2, .int 0, .int 2] μ).bind fun p1 => if p1.1 = 0 then (some (some (.int (-1000000001)), p1.2)) else (if (mS p1.2 l0).1 = 8 then (if (mS p1.2 (mR p1.2 l0 0)).1 = 2 then (if (mS p1.2 (mR p1.2 (mR p1.2 l0 0) 2)).1 = 0 ∧ (mR p1.2 (mR p1.2 l0 0) 2) < 999999 then ((cI d 2 [.ref (mR p1.2 (mR p1.2 l0 0) 2), .int x1, .int x2] p1.2).bind fun p5 => some (some (.int p5.1), p5.2)) else none) else none) else none) :=
  (e_nx f_89_0 rfl).trans ((e_nx (q := (_, _, .int 0 :: _, _)) f_89_1 rfl).trans ((e_nx (q := (_, _, .int 2 :: _, _)) f_89_2 rfl).trans ((e_cI (L := [.ref l0, .int x1, .int x2]) (st := [.int 2, .int 0, .int x2]) (μ := μ) (L' := [.ref l0, .int x1, .int x2]) (st' := []) f_89_3 rfl rfl).trans (m_congr fun p1 => (e_ne f_89_6 rfl).trans (b_congr (fun h2 => (e_nx (q := (_, _, .int (-1000000001) :: _, _)) f_89_9 rfl).trans (e_rt f_89_11 rfl)) (fun h2 => (e_nx f_89_12 rfl).trans ((e_gd f_89_13 rfl).trans (g_congr (Iff.rfl) (fun h3 => (e_gd f_89_16 rfl).trans (g_congr (Iff.rfl) (fun h4 => (e_nx f_89_19 rfl).trans ((e_nx f_89_20 rfl).trans ((e_gI (L := [.ref l0, .int x1, .int x2]) (st := [.int x2, .int x1, .ref (mR p1.2 (mR p1.2 l0 0) 2)]) (μ := p1.2) (L' := [.ref l0, .int x1, .int x2]) (st' := []) f_89_21 rfl rfl).trans (g_congr (v_c2 rfl (Nat.le_of_ble_eq_true rfl)) (fun h6 => m_congr fun p5 => e_rt f_89_24 rfl)))))))))))))))
theorem pg_90 (pc : Nat) : fe0 90 pc = lk prg_90 pc := rfl
theorem f_90_0 : fe0 90 0 = some (.iload_n 1, 1, 0, 0, 0, 0, 0) := (pg_90 0).trans rfl
theorem f_90_1 : fe0 90 1 = some (.iconst (-1), 1, 0, 0, 0, 0, 0) := (pg_90 1).trans rfl
theorem f_90_2 : fe0 90 2 = some (.if_icmp .eq 13, 3, 0, 0, 0, 0, 0) := (pg_90 2).trans rfl
theorem f_90_5 : fe0 90 5 = some (.iload_n 1, 1, 0, 0, 0, 0, 0) := (pg_90 5).trans rfl
theorem f_90_6 : fe0 90 6 = some (.invokestatic 76, 3, 125, 1, 2, 0, 2060) := (pg_90 6).trans rfl
theorem f_90_9 : fe0 90 9 = some (.ifCond .ne 6, 3, 0, 0, 0, 0, 0) := (pg_90 9).trans rfl
theorem f_90_12 : fe0 90 12 = some (.ldc 79, 2, 0, 0, 3294967295, 0, 2063) := (pg_90 12).trans rfl
theorem f_90_14 : fe0 90 14 = some (.ireturn, 1, 0, 0, 0, 0, 0) := (pg_90 14).trans rfl
theorem f_90_15 : fe0 90 15 = some (.aload_n 0, 1, 0, 0, 0, 0, 0) := (pg_90 15).trans rfl
theorem f_90_16 : fe0 90 16 = some (.getfield 12, 3, 8, 0, 1, 0, 2013) := (pg_90 16).trans rfl
theorem f_90_19 : fe0 90 19 = some (.getfield 130, 3, 2, 2, 1, 0, 1106) := (pg_90 19).trans rfl
theorem f_90_22 : fe0 90 22 = some (.iload_n 1, 1, 0, 0, 0, 0, 0) := (pg_90 22).trans rfl
theorem f_90_23 : fe0 90 23 = some (.invokevirtual 147, 3, 3, 1, 0, 0, 2210) := (pg_90 23).trans rfl
theorem f_90_26 : fe0 90 26 = some (.ireturn, 1, 0, 0, 0, 0, 0) := (pg_90 26).trans rfl
theorem q_90_0 (d : Nat) (l0 : Nat) (x1 : Int32) (μ : aMem) : Rn (d + 1) 90 (0, [.ref l0, .int x1], [], μ) = if x1 = (-1) then (if (mS μ l0).1 = 8 then (if (mS μ (mR μ l0 0)).1 = 2 then (if (mS μ (mR μ (mR μ l0 0) 2)).1 = 0 ∧ (mR μ (mR μ l0 0) 2) < 999999 then ((cI d 3 [.ref (mR μ (mR μ l0 0) 2), .int x1] μ).bind fun p4 => some (some (.int p4.1), p4.2)) else none) else none) else none) else ((cI d 125 [.int x1] μ).bind fun p6 => if p6.1 = 0 then (some (some (.int (-1000000001)), p6.2)) else (if (mS p6.2 l0).1 = 8 then (if (mS p6.2 (mR p6.2 l0 0)).1 = 2 then (if (mS p6.2 (mR p6.2 (mR p6.2 l0 0) 2)).1 = 0 ∧ (mR p6.2 (mR p6.2 l0 0) 2) < 999999 then ((cI d 3 [.ref (mR p6.2 (mR p6.2 l0 0) 2), .int x1] p6.2).bind fun p10 => some (some (.int p10.1), p10.2)) else none) else none) else none)) :=
  (e_nx f_90_0 rfl).trans ((e_nx (q := (_, _, .int (-1) :: _, _)) f_90_1 rfl).trans ((e_eq f_90_2 rfl).trans (b_congr (fun h1 => (e_nx f_90_15 rfl).trans ((e_gd f_90_16 rfl).trans (g_congr (Iff.rfl) (fun h2 => (e_gd f_90_19 rfl).trans (g_congr (Iff.rfl) (fun h3 => (e_nx f_90_22 rfl).trans ((e_gI (L := [.ref l0, .int x1]) (st := [.int x1, .ref (mR μ (mR μ l0 0) 2)]) (μ := μ) (L' := [.ref l0, .int x1]) (st' := []) f_90_23 rfl rfl).trans (g_congr (v_c2 rfl (Nat.le_of_ble_eq_true rfl)) (fun h5 => m_congr fun p4 => e_rt f_90_26 rfl))))))))) (fun h1 => (e_nx f_90_5 rfl).trans ((e_cI (L := [.ref l0, .int x1]) (st := [.int x1]) (μ := μ) (L' := [.ref l0, .int x1]) (st' := []) f_90_6 rfl rfl).trans (m_congr fun p6 => (e_ne f_90_9 rfl).trans (b_congr (fun h7 => (e_nx (q := (_, _, .int (-1000000001) :: _, _)) f_90_12 rfl).trans (e_rt f_90_14 rfl)) (fun h7 => (e_nx f_90_15 rfl).trans ((e_gd f_90_16 rfl).trans (g_congr (Iff.rfl) (fun h8 => (e_gd f_90_19 rfl).trans (g_congr (Iff.rfl) (fun h9 => (e_nx f_90_22 rfl).trans ((e_gI (L := [.ref l0, .int x1]) (st := [.int x1, .ref (mR p6.2 (mR p6.2 l0 0) 2)]) (μ := p6.2) (L' := [.ref l0, .int x1]) (st' := []) f_90_23 rfl rfl).trans (g_congr (v_c2 rfl (Nat.le_of_ble_eq_true rfl)) (fun h11 => m_congr fun p10 => e_rt f_90_26 rfl))))))))))))))))
theorem pg_91 (pc : Nat) : fe0 91 pc = lk prg_91 pc := rfl
theorem f_91_0 : fe0 91 0 = some (.iload_n 1, 1, 0, 0, 0, 0, 0) := (pg_91 0).trans rfl
theorem f_91_1 : fe0 91 1 = some (.iconst 1, 1, 0, 0, 0, 0, 0) := (pg_91 1).trans rfl
theorem f_91_2 : fe0 91 2 = some (.bipush 10, 2, 0, 0, 0, 0, 0) := (pg_91 2).trans rfl
theorem f_91_4 : fe0 91 4 = some (.invokestatic 72, 3, 122, 3, 2, 0, 2057) := (pg_91 4).trans rfl
theorem f_91_7 : fe0 91 7 = some (.ifCond .ne 6, 3, 0, 0, 0, 0, 0) := (pg_91 7).trans rfl
theorem f_91_10 : fe0 91 10 = some (.ldc 79, 2, 0, 0, 3294967295, 0, 2063) := (pg_91 10).trans rfl
theorem f_91_12 : fe0 91 12 = some (.ireturn, 1, 0, 0, 0, 0, 0) := (pg_91 12).trans rfl
theorem f_91_13 : fe0 91 13 = some (.iload_n 1, 1, 0, 0, 0, 0, 0) := (pg_91 13).trans rfl
theorem f_91_14 : fe0 91 14 = some (.bipush 10, 2, 0, 0, 0, 0, 0) := (pg_91 14).trans rfl
theorem f_91_16 : fe0 91 16 = some (.aload_n 0, 1, 0, 0, 0, 0, 0) := (pg_91 16).trans rfl
theorem f_91_17 : fe0 91 17 = some (.getfield 12, 3, 8, 0, 1, 0, 2013) := (pg_91 17).trans rfl
theorem f_91_20 : fe0 91 20 = some (.getfield 151, 3, 2, 1, 0, 0, 1103) := (pg_91 20).trans rfl
theorem f_91_23 : fe0 91 23 = some (.isub, 1, 0, 0, 0, 0, 0) := (pg_91 23).trans rfl
theorem f_91_24 : fe0 91 24 = some (.invokestatic 152, 3, 0, 0, 8, 0, 2215) := (pg_91 24).trans rfl
theorem f_91_27 : fe0 91 27 = some (.istore_n 2, 1, 0, 0, 0, 0, 0) := (pg_91 27).trans rfl
theorem f_91_28 : fe0 91 28 = some (.iconst 0, 1, 0, 0, 0, 0, 0) := (pg_91 28).trans rfl
theorem f_91_29 : fe0 91 29 = some (.istore_n 3, 1, 0, 0, 0, 0, 0) := (pg_91 29).trans rfl
theorem f_91_30 : fe0 91 30 = some (.iload_n 3, 1, 0, 0, 0, 0, 0) := (pg_91 30).trans rfl
theorem f_91_31 : fe0 91 31 = some (.iload_n 2, 1, 0, 0, 0, 0, 0) := (pg_91 31).trans rfl
theorem f_91_32 : fe0 91 32 = some (.if_icmp .ge 16, 3, 0, 0, 0, 0, 0) := (pg_91 32).trans rfl
theorem f_91_35 : fe0 91 35 = some (.aload_n 0, 1, 0, 0, 0, 0, 0) := (pg_91 35).trans rfl
theorem f_91_36 : fe0 91 36 = some (.getfield 12, 3, 8, 0, 1, 0, 2013) := (pg_91 36).trans rfl
theorem f_91_39 : fe0 91 39 = some (.invokevirtual 157, 3, 18, 0, 0, 2, 2216) := (pg_91 39).trans rfl
theorem f_91_42 : fe0 91 42 = some (.iinc 3 1, 3, 0, 0, 0, 0, 0) := (pg_91 42).trans rfl
theorem f_91_45 : fe0 91 45 = some (.goto (-15), 3, 0, 0, 0, 0, 0) := (pg_91 45).trans rfl
theorem f_91_48 : fe0 91 48 = some (.iload_n 2, 1, 0, 0, 0, 0, 0) := (pg_91 48).trans rfl
theorem f_91_49 : fe0 91 49 = some (.ireturn, 1, 0, 0, 0, 0, 0) := (pg_91 49).trans rfl
theorem q_91_0 (d : Nat) (l0 : Nat) (x1 : Int32) (μ : aMem) : Rn (d + 1) 91 (0, [.ref l0, .int x1, un, un], [], μ) = (cI d 122 [.int x1, .int 1, .int 10] μ).bind fun p1 => if p1.1 = 0 then (some (some (.int (-1000000001)), p1.2)) else (if (mS p1.2 l0).1 = 8 then (if (mS p1.2 (mR p1.2 l0 0)).1 = 2 then (Rn (d + 1) 91 (30, [.ref l0, .int x1, .int (if (10 - (mF p1.2 (mR p1.2 l0 0) 1)) < x1 then (10 - (mF p1.2 (mR p1.2 l0 0) 1)) else x1), .int 0], [], p1.2)) else none) else none) :=
  (e_nx f_91_0 rfl).trans ((e_nx (q := (_, _, .int 1 :: _, _)) f_91_1 rfl).trans ((e_nx (q := (_, _, .int 10 :: _, _)) f_91_2 rfl).trans ((e_cI (L := [.ref l0, .int x1, un, un]) (st := [.int 10, .int 1, .int x1]) (μ := μ) (L' := [.ref l0, .int x1, un, un]) (st' := []) f_91_4 rfl rfl).trans (m_congr fun p1 => (e_ne f_91_7 rfl).trans (b_congr (fun h2 => (e_nx (q := (_, _, .int (-1000000001) :: _, _)) f_91_10 rfl).trans (e_rt f_91_12 rfl)) (fun h2 => (e_nx f_91_13 rfl).trans ((e_nx (q := (_, _, .int 10 :: _, _)) f_91_14 rfl).trans ((e_nx f_91_16 rfl).trans ((e_gd f_91_17 rfl).trans (g_congr (Iff.rfl) (fun h3 => (e_gd f_91_20 rfl).trans (g_congr (Iff.rfl) (fun h4 => (e_nx f_91_23 rfl).trans ((e_nx f_91_24 rfl).trans ((e_nx (q := (_, [.ref l0, .int x1, .int (if (10 - (mF p1.2 (mR p1.2 l0 0) 1)) < x1 then (10 - (mF p1.2 (mR p1.2 l0 0) 1)) else x1), un], _, _)) f_91_27 rfl).trans ((e_nx (q := (_, _, .int 0 :: _, _)) f_91_28 rfl).trans (e_nx (q := (_, [.ref l0, .int x1, .int (if (10 - (mF p1.2 (mR p1.2 l0 0) 1)) < x1 then (10 - (mF p1.2 (mR p1.2 l0 0) 1)) else x1), .int 0], _, _)) f_91_29 rfl)))))))))))))))))
theorem q_91_30 (d : Nat) (l0 : Nat) (x1 : Int32) (x2 : Int32) (x3 : Int32) (μ : aMem) : Rn (d + 1) 91 (30, [.ref l0, .int x1, .int x2, .int x3], [], μ) = if x2 ≤ x3 then (some (some (.int x2), μ)) else (if (mS μ l0).1 = 8 then (if (mS μ (mR μ l0 0)).1 = 2 ∧ (mR μ l0 0) < 999999 then ((cV d 18 [.ref (mR μ l0 0)] μ).bind fun p3 => Rn (d + 1) 91 (30, [.ref l0, .int x1, .int x2, .int (x3 + 1)], [], p3)) else none) else none) :=
  (e_nx f_91_30 rfl).trans ((e_nx f_91_31 rfl).trans ((e_ge f_91_32 rfl).trans (b_congr (fun h1 => (e_nx f_91_48 rfl).trans (e_rt f_91_49 rfl)) (fun h1 => (e_nx f_91_35 rfl).trans ((e_gd f_91_36 rfl).trans (g_congr (Iff.rfl) (fun h2 => (e_gV (L := [.ref l0, .int x1, .int x2, .int x3]) (st := [.ref (mR μ l0 0)]) (μ := μ) (L' := [.ref l0, .int x1, .int x2, .int x3]) (st' := []) f_91_39 rfl rfl).trans (g_congr (v_c2 rfl (Nat.le_of_ble_eq_true rfl)) (fun h4 => m_congr fun p3 => (e_nx (q := (_, [.ref l0, .int x1, .int x2, .int (x3 + 1)], _, _)) f_91_42 rfl).trans (e_nx f_91_45 rfl))))))))))
theorem pg_92 (pc : Nat) : fe0 92 pc = lk prg_92 pc := rfl
theorem f_92_0 : fe0 92 0 = some (.aload_n 0, 1, 0, 0, 0, 0, 0) := (pg_92 0).trans rfl
theorem f_92_1 : fe0 92 1 = some (.getfield 12, 3, 8, 0, 1, 0, 2013) := (pg_92 1).trans rfl
theorem f_92_4 : fe0 92 4 = some (.getfield 160, 3, 2, 6, 0, 0, 1113) := (pg_92 4).trans rfl
theorem f_92_7 : fe0 92 7 = some (.istore_n 2, 1, 0, 0, 0, 0, 0) := (pg_92 7).trans rfl
theorem f_92_8 : fe0 92 8 = some (.aload_n 0, 1, 0, 0, 0, 0, 0) := (pg_92 8).trans rfl
theorem f_92_9 : fe0 92 9 = some (.getfield 12, 3, 8, 0, 1, 0, 2013) := (pg_92 9).trans rfl
theorem f_92_12 : fe0 92 12 = some (.iload_n 1, 1, 0, 0, 0, 0, 0) := (pg_92 12).trans rfl
theorem f_92_13 : fe0 92 13 = some (.putfield 160, 3, 2, 6, 0, 0, 1113) := (pg_92 13).trans rfl
theorem f_92_16 : fe0 92 16 = some (.iload_n 2, 1, 0, 0, 0, 0, 0) := (pg_92 16).trans rfl
theorem f_92_17 : fe0 92 17 = some (.ireturn, 1, 0, 0, 0, 0, 0) := (pg_92 17).trans rfl
theorem q_92_0 (d : Nat) (l0 : Nat) (x1 : Int32) (μ : aMem) : Rn d 92 (0, [.ref l0, .int x1, un], [], μ) = if (mS μ l0).1 = 8 then (if (mS μ (mR μ l0 0)).1 = 2 then (some (some (.int (mF μ (mR μ l0 0) 6)), setF μ (mR μ l0 0) 6 x1)) else none) else none :=
  (e_nx f_92_0 rfl).trans ((e_gd f_92_1 rfl).trans (g_congr (Iff.rfl) (fun h1 => (e_gd f_92_4 rfl).trans (g_congr (Iff.rfl) (fun h2 => (e_nx (q := (_, [.ref l0, .int x1, .int (mF μ (mR μ l0 0) 6)], _, _)) f_92_7 rfl).trans ((e_nx f_92_8 rfl).trans ((e_gk f_92_9 (h1) rfl).trans ((e_nx f_92_12 rfl).trans ((e_gk (L := [.ref l0, .int x1, .int (mF μ (mR μ l0 0) 6)]) (st := [.int x1, .ref (mR μ l0 0)]) (μ := μ) f_92_13 ((pi_iff rfl).mpr h2) rfl).trans ((e_nx f_92_16 rfl).trans (e_rt f_92_17 rfl)))))))))))
theorem pg_93 (pc : Nat) : fe0 93 pc = lk prg_93 pc := rfl
theorem f_93_0 : fe0 93 0 = some (.aload_n 0, 1, 0, 0, 0, 0, 0) := (pg_93 0).trans rfl
theorem f_93_1 : fe0 93 1 = some (.getfield 29, 3, 8, 4, 1, 0, 2017) := (pg_93 1).trans rfl
theorem f_93_4 : fe0 93 4 = some (.aload_n 0, 1, 0, 0, 0, 0, 0) := (pg_93 4).trans rfl
theorem f_93_5 : fe0 93 5 = some (.getfield 12, 3, 8, 0, 1, 0, 2013) := (pg_93 5).trans rfl
theorem f_93_8 : fe0 93 8 = some (.invokevirtual 163, 3, 53, 1, 0, 4, 2234) := (pg_93 8).trans rfl
theorem f_93_11 : fe0 93 11 = some (.ireturn, 1, 0, 0, 0, 0, 0) := (pg_93 11).trans rfl
theorem q_93_0 (d : Nat) (l0 : Nat) (μ : aMem) : Rn (d + 1) 93 (0, [.ref l0], [], μ) = if (mS μ l0).1 = 8 then (if (mS μ (mR μ l0 4)).1 = 4 ∧ (mR μ l0 4) < 999999 then ((cI d 53 [.ref (mR μ l0 4), .ref (mR μ l0 0)] μ).bind fun p2 => some (some (.int p2.1), p2.2)) else none) else none :=
  (e_nx f_93_0 rfl).trans ((e_gd f_93_1 rfl).trans (g_congr (Iff.rfl) (fun h1 => (e_nx f_93_4 rfl).trans ((e_gk f_93_5 (h1) rfl).trans ((e_gI (L := [.ref l0]) (st := [.ref (mR μ l0 0), .ref (mR μ l0 4)]) (μ := μ) (L' := [.ref l0]) (st' := []) f_93_8 rfl rfl).trans (g_congr (v_c2 rfl (Nat.le_of_ble_eq_true rfl)) (fun h3 => m_congr fun p2 => e_rt f_93_11 rfl)))))))
theorem pg_94 (pc : Nat) : fe0 94 pc = lk prg_94 pc := rfl
theorem f_94_0 : fe0 94 0 = some (.aload_n 0, 1, 0, 0, 0, 0, 0) := (pg_94 0).trans rfl
theorem f_94_1 : fe0 94 1 = some (.getfield 29, 3, 8, 4, 1, 0, 2017) := (pg_94 1).trans rfl
theorem f_94_4 : fe0 94 4 = some (.aload_n 0, 1, 0, 0, 0, 0, 0) := (pg_94 4).trans rfl
theorem f_94_5 : fe0 94 5 = some (.getfield 12, 3, 8, 0, 1, 0, 2013) := (pg_94 5).trans rfl
theorem f_94_8 : fe0 94 8 = some (.invokevirtual 167, 3, 47, 1, 0, 4, 3002) := (pg_94 8).trans rfl
theorem f_94_11 : fe0 94 11 = some (.ireturn, 1, 0, 0, 0, 0, 0) := (pg_94 11).trans rfl
theorem q_94_0 (d : Nat) (l0 : Nat) (μ : aMem) : Rn (d + 1) 94 (0, [.ref l0], [], μ) = if (mS μ l0).1 = 8 then (if (mS μ (mR μ l0 4)).1 = 4 ∧ (mR μ l0 4) < 999999 then ((cI d 47 [.ref (mR μ l0 4), .ref (mR μ l0 0)] μ).bind fun p2 => some (some (.int p2.1), p2.2)) else none) else none :=
  (e_nx f_94_0 rfl).trans ((e_gd f_94_1 rfl).trans (g_congr (Iff.rfl) (fun h1 => (e_nx f_94_4 rfl).trans ((e_gk f_94_5 (h1) rfl).trans ((e_gI (L := [.ref l0]) (st := [.ref (mR μ l0 0), .ref (mR μ l0 4)]) (μ := μ) (L' := [.ref l0]) (st' := []) f_94_8 rfl rfl).trans (g_congr (v_c2 rfl (Nat.le_of_ble_eq_true rfl)) (fun h3 => m_congr fun p2 => e_rt f_94_11 rfl)))))))
theorem pg_95 (pc : Nat) : fe0 95 pc = lk prg_95 pc := rfl
theorem f_95_0 : fe0 95 0 = some (.aload_n 0, 1, 0, 0, 0, 0, 0) := (pg_95 0).trans rfl
theorem f_95_1 : fe0 95 1 = some (.getfield 29, 3, 8, 4, 1, 0, 2017) := (pg_95 1).trans rfl
theorem f_95_4 : fe0 95 4 = some (.aload_n 0, 1, 0, 0, 0, 0, 0) := (pg_95 4).trans rfl
theorem f_95_5 : fe0 95 5 = some (.getfield 12, 3, 8, 0, 1, 0, 2013) := (pg_95 5).trans rfl
theorem f_95_8 : fe0 95 8 = some (.invokevirtual 170, 3, 52, 1, 0, 4, 3007) := (pg_95 8).trans rfl
theorem f_95_11 : fe0 95 11 = some (.ireturn, 1, 0, 0, 0, 0, 0) := (pg_95 11).trans rfl
theorem q_95_0 (d : Nat) (l0 : Nat) (μ : aMem) : Rn (d + 1) 95 (0, [.ref l0], [], μ) = if (mS μ l0).1 = 8 then (if (mS μ (mR μ l0 4)).1 = 4 ∧ (mR μ l0 4) < 999999 then ((cI d 52 [.ref (mR μ l0 4), .ref (mR μ l0 0)] μ).bind fun p2 => some (some (.int p2.1), p2.2)) else none) else none :=
  (e_nx f_95_0 rfl).trans ((e_gd f_95_1 rfl).trans (g_congr (Iff.rfl) (fun h1 => (e_nx f_95_4 rfl).trans ((e_gk f_95_5 (h1) rfl).trans ((e_gI (L := [.ref l0]) (st := [.ref (mR μ l0 0), .ref (mR μ l0 4)]) (μ := μ) (L' := [.ref l0]) (st' := []) f_95_8 rfl rfl).trans (g_congr (v_c2 rfl (Nat.le_of_ble_eq_true rfl)) (fun h3 => m_congr fun p2 => e_rt f_95_11 rfl)))))))
theorem pg_96 (pc : Nat) : fe0 96 pc = lk prg_96 pc := rfl
theorem f_96_0 : fe0 96 0 = some (.iload_n 1, 1, 0, 0, 0, 0, 0) := (pg_96 0).trans rfl
theorem f_96_1 : fe0 96 1 = some (.iconst 1, 1, 0, 0, 0, 0, 0) := (pg_96 1).trans rfl
theorem f_96_2 : fe0 96 2 = some (.bipush 9, 2, 0, 0, 0, 0, 0) := (pg_96 2).trans rfl
theorem f_96_4 : fe0 96 4 = some (.invokestatic 72, 3, 122, 3, 2, 0, 2057) := (pg_96 4).trans rfl
theorem f_96_7 : fe0 96 7 = some (.ifCond .ne 6, 3, 0, 0, 0, 0, 0) := (pg_96 7).trans rfl
theorem f_96_10 : fe0 96 10 = some (.ldc 79, 2, 0, 0, 3294967295, 0, 2063) := (pg_96 10).trans rfl
theorem f_96_12 : fe0 96 12 = some (.ireturn, 1, 0, 0, 0, 0, 0) := (pg_96 12).trans rfl
theorem f_96_13 : fe0 96 13 = some (.aload_n 0, 1, 0, 0, 0, 0, 0) := (pg_96 13).trans rfl
theorem f_96_14 : fe0 96 14 = some (.getfield 29, 3, 8, 4, 1, 0, 2017) := (pg_96 14).trans rfl
theorem f_96_17 : fe0 96 17 = some (.aload_n 0, 1, 0, 0, 0, 0, 0) := (pg_96 17).trans rfl
theorem f_96_18 : fe0 96 18 = some (.getfield 12, 3, 8, 0, 1, 0, 2013) := (pg_96 18).trans rfl
theorem f_96_21 : fe0 96 21 = some (.iload_n 1, 1, 0, 0, 0, 0, 0) := (pg_96 21).trans rfl
theorem f_96_22 : fe0 96 22 = some (.iconst 0, 1, 0, 0, 0, 0, 0) := (pg_96 22).trans rfl
theorem f_96_23 : fe0 96 23 = some (.ldc 173, 2, 0, 0, 1000000, 0, 3015) := (pg_96 23).trans rfl
theorem f_96_25 : fe0 96 25 = some (.invokevirtual 174, 3, 55, 4, 0, 4, 3016) := (pg_96 25).trans rfl
theorem f_96_28 : fe0 96 28 = some (.ireturn, 1, 0, 0, 0, 0, 0) := (pg_96 28).trans rfl
theorem q_96_0 (d : Nat) (l0 : Nat) (x1 : Int32) (μ : aMem) : Rn (d + 1) 96 (0, [.ref l0, .int x1], [], μ) = (cI d 122 [.int x1, .int 1, .int 9] μ).bind fun p1 => if p1.1 = 0 then (some (some (.int (-1000000001)), p1.2)) else (if (mS p1.2 l0).1 = 8 then (if (mS p1.2 (mR p1.2 l0 4)).1 = 4 ∧ (mR p1.2 l0 4) < 999999 then ((cI d 55 [.ref (mR p1.2 l0 4), .ref (mR p1.2 l0 0), .int x1, .int 0, .int 1000000] p1.2).bind fun p4 => some (some (.int p4.1), p4.2)) else none) else none) :=
  (e_nx f_96_0 rfl).trans ((e_nx (q := (_, _, .int 1 :: _, _)) f_96_1 rfl).trans ((e_nx (q := (_, _, .int 9 :: _, _)) f_96_2 rfl).trans ((e_cI (L := [.ref l0, .int x1]) (st := [.int 9, .int 1, .int x1]) (μ := μ) (L' := [.ref l0, .int x1]) (st' := []) f_96_4 rfl rfl).trans (m_congr fun p1 => (e_ne f_96_7 rfl).trans (b_congr (fun h2 => (e_nx (q := (_, _, .int (-1000000001) :: _, _)) f_96_10 rfl).trans (e_rt f_96_12 rfl)) (fun h2 => (e_nx f_96_13 rfl).trans ((e_gd f_96_14 rfl).trans (g_congr (Iff.rfl) (fun h3 => (e_nx f_96_17 rfl).trans ((e_gk f_96_18 (h3) rfl).trans ((e_nx f_96_21 rfl).trans ((e_nx (q := (_, _, .int 0 :: _, _)) f_96_22 rfl).trans ((e_nx (q := (_, _, .int 1000000 :: _, _)) f_96_23 rfl).trans ((e_gI (L := [.ref l0, .int x1]) (st := [.int 1000000, .int 0, .int x1, .ref (mR p1.2 l0 0), .ref (mR p1.2 l0 4)]) (μ := p1.2) (L' := [.ref l0, .int x1]) (st' := []) f_96_25 rfl rfl).trans (g_congr (v_c2 rfl (Nat.le_of_ble_eq_true rfl)) (fun h5 => m_congr fun p4 => e_rt f_96_28 rfl))))))))))))))))
theorem pg_97 (pc : Nat) : fe0 97 pc = lk prg_97 pc := rfl
theorem f_97_0 : fe0 97 0 = some (.iload_n 1, 1, 0, 0, 0, 0, 0) := (pg_97 0).trans rfl
theorem f_97_1 : fe0 97 1 = some (.iconst 1, 1, 0, 0, 0, 0, 0) := (pg_97 1).trans rfl
theorem f_97_2 : fe0 97 2 = some (.bipush 9, 2, 0, 0, 0, 0, 0) := (pg_97 2).trans rfl
theorem f_97_4 : fe0 97 4 = some (.invokestatic 72, 3, 122, 3, 2, 0, 2057) := (pg_97 4).trans rfl
theorem f_97_7 : fe0 97 7 = some (.ifCond .eq 24, 3, 0, 0, 0, 0, 0) := (pg_97 7).trans rfl
theorem f_97_10 : fe0 97 10 = some (.iload_n 2, 1, 0, 0, 0, 0, 0) := (pg_97 10).trans rfl
theorem f_97_11 : fe0 97 11 = some (.iconst 0, 1, 0, 0, 0, 0, 0) := (pg_97 11).trans rfl
theorem f_97_12 : fe0 97 12 = some (.bipush 9, 2, 0, 0, 0, 0, 0) := (pg_97 12).trans rfl
theorem f_97_14 : fe0 97 14 = some (.invokestatic 72, 3, 122, 3, 2, 0, 2057) := (pg_97 14).trans rfl
theorem f_97_17 : fe0 97 17 = some (.ifCond .eq 14, 3, 0, 0, 0, 0, 0) := (pg_97 17).trans rfl
theorem f_97_20 : fe0 97 20 = some (.iload_n 3, 1, 0, 0, 0, 0, 0) := (pg_97 20).trans rfl
theorem f_97_21 : fe0 97 21 = some (.iconst 0, 1, 0, 0, 0, 0, 0) := (pg_97 21).trans rfl
theorem f_97_22 : fe0 97 22 = some (.sipush 999, 3, 0, 0, 0, 0, 0) := (pg_97 22).trans rfl
theorem f_97_25 : fe0 97 25 = some (.invokestatic 72, 3, 122, 3, 2, 0, 2057) := (pg_97 25).trans rfl
theorem f_97_28 : fe0 97 28 = some (.ifCond .ne 6, 3, 0, 0, 0, 0, 0) := (pg_97 28).trans rfl
theorem f_97_31 : fe0 97 31 = some (.ldc 79, 2, 0, 0, 3294967295, 0, 2063) := (pg_97 31).trans rfl
theorem f_97_33 : fe0 97 33 = some (.ireturn, 1, 0, 0, 0, 0, 0) := (pg_97 33).trans rfl
theorem f_97_34 : fe0 97 34 = some (.aload_n 0, 1, 0, 0, 0, 0, 0) := (pg_97 34).trans rfl
theorem f_97_35 : fe0 97 35 = some (.getfield 29, 3, 8, 4, 1, 0, 2017) := (pg_97 35).trans rfl
theorem f_97_38 : fe0 97 38 = some (.aload_n 0, 1, 0, 0, 0, 0, 0) := (pg_97 38).trans rfl
theorem f_97_39 : fe0 97 39 = some (.getfield 12, 3, 8, 0, 1, 0, 2013) := (pg_97 39).trans rfl
theorem f_97_42 : fe0 97 42 = some (.iload_n 1, 1, 0, 0, 0, 0, 0) := (pg_97 42).trans rfl
theorem f_97_43 : fe0 97 43 = some (.iload_n 2, 1, 0, 0, 0, 0, 0) := (pg_97 43).trans rfl
theorem f_97_44 : fe0 97 44 = some (.iload_n 3, 1, 0, 0, 0, 0, 0) := (pg_97 44).trans rfl
theorem f_97_45 : fe0 97 45 = some (.invokevirtual 174, 3, 55, 4, 0, 4, 3016) := (pg_97 45).trans rfl
theorem f_97_48 : fe0 97 48 = some (.ireturn, 1, 0, 0, 0, 0, 0) := (pg_97 48).trans rfl
theorem q_97_0 (d : Nat) (l0 : Nat) (x1 : Int32) (x2 : Int32) (x3 : Int32) (μ : aMem) : Rn (d + 1) 97 (0, [.ref l0, .int x1, .int x2, .int x3], [], μ) = (cI d 122 [.int x1, .int 1, .int 9] μ).bind fun p1 => if p1.1 = 0 then (some (some (.int (-1000000001)), p1.2)) else ((cI d 122 [.int x2, .int 0, .int 9] p1.2).bind fun p3 => if p3.1 = 0 then (some (some (.int (-1000000001)), p3.2)) else ((cI d 122 [.int x3, .int 0, .int 999] p3.2).bind fun p5 => if p5.1 = 0 then (some (some (.int (-1000000001)), p5.2)) else (if (mS p5.2 l0).1 = 8 then (if (mS p5.2 (mR p5.2 l0 4)).1 = 4 ∧ (mR p5.2 l0 4) < 999999 then ((cI d 55 [.ref (mR p5.2 l0 4), .ref (mR p5.2 l0 0), .int x1, .int x2, .int x3] p5.2).bind fun p8 => some (some (.int p8.1), p8.2)) else none) else none))) :=
  (e_nx f_97_0 rfl).trans ((e_nx (q := (_, _, .int 1 :: _, _)) f_97_1 rfl).trans ((e_nx (q := (_, _, .int 9 :: _, _)) f_97_2 rfl).trans ((e_cI (L := [.ref l0, .int x1, .int x2, .int x3]) (st := [.int 9, .int 1, .int x1]) (μ := μ) (L' := [.ref l0, .int x1, .int x2, .int x3]) (st' := []) f_97_4 rfl rfl).trans (m_congr fun p1 => (e_eq f_97_7 rfl).trans (b_congr (fun h2 => (e_nx (q := (_, _, .int (-1000000001) :: _, _)) f_97_31 rfl).trans (e_rt f_97_33 rfl)) (fun h2 => (e_nx f_97_10 rfl).trans ((e_nx (q := (_, _, .int 0 :: _, _)) f_97_11 rfl).trans ((e_nx (q := (_, _, .int 9 :: _, _)) f_97_12 rfl).trans ((e_cI (L := [.ref l0, .int x1, .int x2, .int x3]) (st := [.int 9, .int 0, .int x2]) (μ := p1.2) (L' := [.ref l0, .int x1, .int x2, .int x3]) (st' := []) f_97_14 rfl rfl).trans (m_congr fun p3 => (e_eq f_97_17 rfl).trans (b_congr (fun h4 => (e_nx (q := (_, _, .int (-1000000001) :: _, _)) f_97_31 rfl).trans (e_rt f_97_33 rfl)) (fun h4 => (e_nx f_97_20 rfl).trans ((e_nx (q := (_, _, .int 0 :: _, _)) f_97_21 rfl).trans ((e_nx (q := (_, _, .int 999 :: _, _)) f_97_22 rfl).trans ((e_cI (L := [.ref l0, .int x1, .int x2, .int x3]) (st := [.int 999, .int 0, .int x3]) (μ := p3.2) (L' := [.ref l0, .int x1, .int x2, .int x3]) (st' := []) f_97_25 rfl rfl).trans (m_congr fun p5 => (e_ne f_97_28 rfl).trans (b_congr (fun h6 => (e_nx (q := (_, _, .int (-1000000001) :: _, _)) f_97_31 rfl).trans (e_rt f_97_33 rfl)) (fun h6 => (e_nx f_97_34 rfl).trans ((e_gd f_97_35 rfl).trans (g_congr (Iff.rfl) (fun h7 => (e_nx f_97_38 rfl).trans ((e_gk f_97_39 (h7) rfl).trans ((e_nx f_97_42 rfl).trans ((e_nx f_97_43 rfl).trans ((e_nx f_97_44 rfl).trans ((e_gI (L := [.ref l0, .int x1, .int x2, .int x3]) (st := [.int x3, .int x2, .int x1, .ref (mR p5.2 l0 0), .ref (mR p5.2 l0 4)]) (μ := p5.2) (L' := [.ref l0, .int x1, .int x2, .int x3]) (st' := []) f_97_45 rfl rfl).trans (g_congr (v_c2 rfl (Nat.le_of_ble_eq_true rfl)) (fun h9 => m_congr fun p8 => e_rt f_97_48 rfl))))))))))))))))))))))))))))
theorem pg_98 (pc : Nat) : fe0 98 pc = lk prg_98 pc := rfl
theorem f_98_0 : fe0 98 0 = some (.iload_n 1, 1, 0, 0, 0, 0, 0) := (pg_98 0).trans rfl
theorem f_98_1 : fe0 98 1 = some (.iconst 0, 1, 0, 0, 0, 0, 0) := (pg_98 1).trans rfl
theorem f_98_2 : fe0 98 2 = some (.sipush 9999, 3, 0, 0, 0, 0, 0) := (pg_98 2).trans rfl
theorem f_98_5 : fe0 98 5 = some (.invokestatic 72, 3, 122, 3, 2, 0, 2057) := (pg_98 5).trans rfl
theorem f_98_8 : fe0 98 8 = some (.ifCond .eq 12, 3, 0, 0, 0, 0, 0) := (pg_98 8).trans rfl
theorem f_98_11 : fe0 98 11 = some (.iload_n 2, 1, 0, 0, 0, 0, 0) := (pg_98 11).trans rfl
theorem f_98_12 : fe0 98 12 = some (.iconst 0, 1, 0, 0, 0, 0, 0) := (pg_98 12).trans rfl
theorem f_98_13 : fe0 98 13 = some (.iconst 1, 1, 0, 0, 0, 0, 0) := (pg_98 13).trans rfl
theorem f_98_14 : fe0 98 14 = some (.invokestatic 72, 3, 122, 3, 2, 0, 2057) := (pg_98 14).trans rfl
theorem f_98_17 : fe0 98 17 = some (.ifCond .ne 7, 3, 0, 0, 0, 0, 0) := (pg_98 17).trans rfl
theorem f_98_20 : fe0 98 20 = some (.ldc2_w 178, 3, 0, 0, 18446744072709551615, 0, 3041) := (pg_98 20).trans rfl
theorem f_98_23 : fe0 98 23 = some (.lreturn, 1, 0, 0, 0, 0, 0) := (pg_98 23).trans rfl
theorem f_98_24 : fe0 98 24 = some (.aload_n 0, 1, 0, 0, 0, 0, 0) := (pg_98 24).trans rfl
theorem f_98_25 : fe0 98 25 = some (.getfield 29, 3, 8, 4, 1, 0, 2017) := (pg_98 25).trans rfl
theorem f_98_28 : fe0 98 28 = some (.aload_n 0, 1, 0, 0, 0, 0, 0) := (pg_98 28).trans rfl
theorem f_98_29 : fe0 98 29 = some (.getfield 12, 3, 8, 0, 1, 0, 2013) := (pg_98 29).trans rfl
theorem f_98_32 : fe0 98 32 = some (.iload_n 1, 1, 0, 0, 0, 0, 0) := (pg_98 32).trans rfl
theorem f_98_33 : fe0 98 33 = some (.invokevirtual 180, 3, 62, 2, 0, 4, 3042) := (pg_98 33).trans rfl
theorem f_98_36 : fe0 98 36 = some (.aload_n 0, 1, 0, 0, 0, 0, 0) := (pg_98 36).trans rfl
theorem f_98_37 : fe0 98 37 = some (.getfield 29, 3, 8, 4, 1, 0, 2017) := (pg_98 37).trans rfl
theorem f_98_40 : fe0 98 40 = some (.aload_n 0, 1, 0, 0, 0, 0, 0) := (pg_98 40).trans rfl
theorem f_98_41 : fe0 98 41 = some (.getfield 12, 3, 8, 0, 1, 0, 2013) := (pg_98 41).trans rfl
theorem f_98_44 : fe0 98 44 = some (.invokevirtual 184, 3, 61, 1, 0, 4, 3064) := (pg_98 44).trans rfl
theorem f_98_47 : fe0 98 47 = some (.iload_n 2, 1, 0, 0, 0, 0, 0) := (pg_98 47).trans rfl
theorem f_98_48 : fe0 98 48 = some (.invokestatic 188, 3, 130, 3, 2, 0, 3069) := (pg_98 48).trans rfl
theorem f_98_51 : fe0 98 51 = some (.lreturn, 1, 0, 0, 0, 0, 0) := (pg_98 51).trans rfl
theorem q_98_0 (d : Nat) (l0 : Nat) (x1 : Int32) (x2 : Int32) (μ : aMem) : Rn (d + 1) 98 (0, [.ref l0, .int x1, .int x2], [], μ) = (cI d 122 [.int x1, .int 0, .int 9999] μ).bind fun p1 => if p1.1 = 0 then (some (some (.long (-1000000001)), p1.2)) else ((cI d 122 [.int x2, .int 0, .int 1] p1.2).bind fun p3 => if p3.1 = 0 then (some (some (.long (-1000000001)), p3.2)) else (if (mS p3.2 l0).1 = 8 then (if (mS p3.2 (mR p3.2 l0 4)).1 = 4 ∧ (mR p3.2 l0 4) < 999999 then ((cJ d 62 [.ref (mR p3.2 l0 4), .ref (mR p3.2 l0 0), .int x1] p3.2).bind fun p6 => if (mS p6.2 l0).1 = 8 then (if (mS p6.2 (mR p6.2 l0 4)).1 = 4 ∧ (mR p6.2 l0 4) < 999999 then ((cJ d 61 [.ref (mR p6.2 l0 4), .ref (mR p6.2 l0 0)] p6.2).bind fun p9 => (cJ d 130 [.long p6.1, .long p9.1, .int x2] p9.2).bind fun p11 => some (some (.long p11.1), p11.2)) else none) else none) else none) else none)) :=
  (e_nx f_98_0 rfl).trans ((e_nx (q := (_, _, .int 0 :: _, _)) f_98_1 rfl).trans ((e_nx (q := (_, _, .int 9999 :: _, _)) f_98_2 rfl).trans ((e_cI (L := [.ref l0, .int x1, .int x2]) (st := [.int 9999, .int 0, .int x1]) (μ := μ) (L' := [.ref l0, .int x1, .int x2]) (st' := []) f_98_5 rfl rfl).trans (m_congr fun p1 => (e_eq f_98_8 rfl).trans (b_congr (fun h2 => (e_nx (q := (_, _, .long (-1000000001) :: _, _)) f_98_20 rfl).trans (e_rt f_98_23 rfl)) (fun h2 => (e_nx f_98_11 rfl).trans ((e_nx (q := (_, _, .int 0 :: _, _)) f_98_12 rfl).trans ((e_nx (q := (_, _, .int 1 :: _, _)) f_98_13 rfl).trans ((e_cI (L := [.ref l0, .int x1, .int x2]) (st := [.int 1, .int 0, .int x2]) (μ := p1.2) (L' := [.ref l0, .int x1, .int x2]) (st' := []) f_98_14 rfl rfl).trans (m_congr fun p3 => (e_ne f_98_17 rfl).trans (b_congr (fun h4 => (e_nx (q := (_, _, .long (-1000000001) :: _, _)) f_98_20 rfl).trans (e_rt f_98_23 rfl)) (fun h4 => (e_nx f_98_24 rfl).trans ((e_gd f_98_25 rfl).trans (g_congr (Iff.rfl) (fun h5 => (e_nx f_98_28 rfl).trans ((e_gk f_98_29 (h5) rfl).trans ((e_nx f_98_32 rfl).trans ((e_gJ (L := [.ref l0, .int x1, .int x2]) (st := [.int x1, .ref (mR p3.2 l0 0), .ref (mR p3.2 l0 4)]) (μ := p3.2) (L' := [.ref l0, .int x1, .int x2]) (st' := []) f_98_33 rfl rfl).trans (g_congr (v_c2 rfl (Nat.le_of_ble_eq_true rfl)) (fun h7 => m_congr fun p6 => (e_nx f_98_36 rfl).trans ((e_gd f_98_37 rfl).trans (g_congr (Iff.rfl) (fun h8 => (e_nx f_98_40 rfl).trans ((e_gk f_98_41 (h8) rfl).trans ((e_gJ (L := [.ref l0, .int x1, .int x2]) (st := [.ref (mR p6.2 l0 0), .ref (mR p6.2 l0 4), .long p6.1]) (μ := p6.2) (L' := [.ref l0, .int x1, .int x2]) (st' := [.long p6.1]) f_98_44 rfl rfl).trans (g_congr (v_c2 rfl (Nat.le_of_ble_eq_true rfl)) (fun h10 => m_congr fun p9 => (e_nx f_98_47 rfl).trans ((e_cJ (L := [.ref l0, .int x1, .int x2]) (st := [.int x2, .long p9.1, .long p6.1]) (μ := p9.2) (L' := [.ref l0, .int x1, .int x2]) (st' := []) f_98_48 rfl rfl).trans (m_congr fun p11 => e_rt f_98_51 rfl)))))))))))))))))))))))))))))
theorem pg_99 (pc : Nat) : fe0 99 pc = lk prg_99 pc := rfl
theorem f_99_0 : fe0 99 0 = some (.iload_n 1, 1, 0, 0, 0, 0, 0) := (pg_99 0).trans rfl
theorem f_99_1 : fe0 99 1 = some (.iconst 1, 1, 0, 0, 0, 0, 0) := (pg_99 1).trans rfl
theorem f_99_2 : fe0 99 2 = some (.bipush 100, 2, 0, 0, 0, 0, 0) := (pg_99 2).trans rfl
theorem f_99_4 : fe0 99 4 = some (.invokestatic 72, 3, 122, 3, 2, 0, 2057) := (pg_99 4).trans rfl
theorem f_99_7 : fe0 99 7 = some (.ifCond .ne 6, 3, 0, 0, 0, 0, 0) := (pg_99 7).trans rfl
theorem f_99_10 : fe0 99 10 = some (.ldc 79, 2, 0, 0, 3294967295, 0, 2063) := (pg_99 10).trans rfl
theorem f_99_12 : fe0 99 12 = some (.ireturn, 1, 0, 0, 0, 0, 0) := (pg_99 12).trans rfl
theorem f_99_13 : fe0 99 13 = some (.aload_n 0, 1, 0, 0, 0, 0, 0) := (pg_99 13).trans rfl
theorem f_99_14 : fe0 99 14 = some (.getfield 29, 3, 8, 4, 1, 0, 2017) := (pg_99 14).trans rfl
theorem f_99_17 : fe0 99 17 = some (.aload_n 0, 1, 0, 0, 0, 0, 0) := (pg_99 17).trans rfl
theorem f_99_18 : fe0 99 18 = some (.getfield 12, 3, 8, 0, 1, 0, 2013) := (pg_99 18).trans rfl
theorem f_99_21 : fe0 99 21 = some (.iload_n 1, 1, 0, 0, 0, 0, 0) := (pg_99 21).trans rfl
theorem f_99_22 : fe0 99 22 = some (.invokevirtual 192, 3, 63, 2, 0, 4, 3079) := (pg_99 22).trans rfl
theorem f_99_25 : fe0 99 25 = some (.ireturn, 1, 0, 0, 0, 0, 0) := (pg_99 25).trans rfl
theorem q_99_0 (d : Nat) (l0 : Nat) (x1 : Int32) (μ : aMem) : Rn (d + 1) 99 (0, [.ref l0, .int x1], [], μ) = (cI d 122 [.int x1, .int 1, .int 100] μ).bind fun p1 => if p1.1 = 0 then (some (some (.int (-1000000001)), p1.2)) else (if (mS p1.2 l0).1 = 8 then (if (mS p1.2 (mR p1.2 l0 4)).1 = 4 ∧ (mR p1.2 l0 4) < 999999 then ((cI d 63 [.ref (mR p1.2 l0 4), .ref (mR p1.2 l0 0), .int x1] p1.2).bind fun p4 => some (some (.int p4.1), p4.2)) else none) else none) :=
  (e_nx f_99_0 rfl).trans ((e_nx (q := (_, _, .int 1 :: _, _)) f_99_1 rfl).trans ((e_nx (q := (_, _, .int 100 :: _, _)) f_99_2 rfl).trans ((e_cI (L := [.ref l0, .int x1]) (st := [.int 100, .int 1, .int x1]) (μ := μ) (L' := [.ref l0, .int x1]) (st' := []) f_99_4 rfl rfl).trans (m_congr fun p1 => (e_ne f_99_7 rfl).trans (b_congr (fun h2 => (e_nx (q := (_, _, .int (-1000000001) :: _, _)) f_99_10 rfl).trans (e_rt f_99_12 rfl)) (fun h2 => (e_nx f_99_13 rfl).trans ((e_gd f_99_14 rfl).trans (g_congr (Iff.rfl) (fun h3 => (e_nx f_99_17 rfl).trans ((e_gk f_99_18 (h3) rfl).trans ((e_nx f_99_21 rfl).trans ((e_gI (L := [.ref l0, .int x1]) (st := [.int x1, .ref (mR p1.2 l0 0), .ref (mR p1.2 l0 4)]) (μ := p1.2) (L' := [.ref l0, .int x1]) (st' := []) f_99_22 rfl rfl).trans (g_congr (v_c2 rfl (Nat.le_of_ble_eq_true rfl)) (fun h5 => m_congr fun p4 => e_rt f_99_25 rfl))))))))))))))
theorem pg_100 (pc : Nat) : fe0 100 pc = lk prg_100 pc := rfl
theorem f_100_0 : fe0 100 0 = some (.iload_n 1, 1, 0, 0, 0, 0, 0) := (pg_100 0).trans rfl
theorem f_100_1 : fe0 100 1 = some (.iconst 0, 1, 0, 0, 0, 0, 0) := (pg_100 1).trans rfl
theorem f_100_2 : fe0 100 2 = some (.iconst 1, 1, 0, 0, 0, 0, 0) := (pg_100 2).trans rfl
theorem f_100_3 : fe0 100 3 = some (.invokestatic 72, 3, 122, 3, 2, 0, 2057) := (pg_100 3).trans rfl
theorem f_100_6 : fe0 100 6 = some (.ifCond .ne 7, 3, 0, 0, 0, 0, 0) := (pg_100 6).trans rfl
theorem f_100_9 : fe0 100 9 = some (.ldc2_w 178, 3, 0, 0, 18446744072709551615, 0, 3041) := (pg_100 9).trans rfl
theorem f_100_12 : fe0 100 12 = some (.lreturn, 1, 0, 0, 0, 0, 0) := (pg_100 12).trans rfl
theorem f_100_13 : fe0 100 13 = some (.aload_n 0, 1, 0, 0, 0, 0, 0) := (pg_100 13).trans rfl
theorem f_100_14 : fe0 100 14 = some (.getfield 29, 3, 8, 4, 1, 0, 2017) := (pg_100 14).trans rfl
theorem f_100_17 : fe0 100 17 = some (.aload_n 0, 1, 0, 0, 0, 0, 0) := (pg_100 17).trans rfl
theorem f_100_18 : fe0 100 18 = some (.getfield 12, 3, 8, 0, 1, 0, 2013) := (pg_100 18).trans rfl
theorem f_100_21 : fe0 100 21 = some (.invokevirtual 195, 3, 64, 1, 0, 4, 3089) := (pg_100 21).trans rfl
theorem f_100_24 : fe0 100 24 = some (.aload_n 0, 1, 0, 0, 0, 0, 0) := (pg_100 24).trans rfl
theorem f_100_25 : fe0 100 25 = some (.getfield 29, 3, 8, 4, 1, 0, 2017) := (pg_100 25).trans rfl
theorem f_100_28 : fe0 100 28 = some (.aload_n 0, 1, 0, 0, 0, 0, 0) := (pg_100 28).trans rfl
theorem f_100_29 : fe0 100 29 = some (.getfield 12, 3, 8, 0, 1, 0, 2013) := (pg_100 29).trans rfl
theorem f_100_32 : fe0 100 32 = some (.invokevirtual 184, 3, 61, 1, 0, 4, 3064) := (pg_100 32).trans rfl
theorem f_100_35 : fe0 100 35 = some (.iload_n 1, 1, 0, 0, 0, 0, 0) := (pg_100 35).trans rfl
theorem f_100_36 : fe0 100 36 = some (.invokestatic 188, 3, 130, 3, 2, 0, 3069) := (pg_100 36).trans rfl
theorem f_100_39 : fe0 100 39 = some (.lreturn, 1, 0, 0, 0, 0, 0) := (pg_100 39).trans rfl
theorem q_100_0 (d : Nat) (l0 : Nat) (x1 : Int32) (μ : aMem) : Rn (d + 1) 100 (0, [.ref l0, .int x1], [], μ) = (cI d 122 [.int x1, .int 0, .int 1] μ).bind fun p1 => if p1.1 = 0 then (some (some (.long (-1000000001)), p1.2)) else (if (mS p1.2 l0).1 = 8 then (if (mS p1.2 (mR p1.2 l0 4)).1 = 4 ∧ (mR p1.2 l0 4) < 999999 then ((cJ d 64 [.ref (mR p1.2 l0 4), .ref (mR p1.2 l0 0)] p1.2).bind fun p4 => if (mS p4.2 l0).1 = 8 then (if (mS p4.2 (mR p4.2 l0 4)).1 = 4 ∧ (mR p4.2 l0 4) < 999999 then ((cJ d 61 [.ref (mR p4.2 l0 4), .ref (mR p4.2 l0 0)] p4.2).bind fun p7 => (cJ d 130 [.long p4.1, .long p7.1, .int x1] p7.2).bind fun p9 => some (some (.long p9.1), p9.2)) else none) else none) else none) else none) :=
  (e_nx f_100_0 rfl).trans ((e_nx (q := (_, _, .int 0 :: _, _)) f_100_1 rfl).trans ((e_nx (q := (_, _, .int 1 :: _, _)) f_100_2 rfl).trans ((e_cI (L := [.ref l0, .int x1]) (st := [.int 1, .int 0, .int x1]) (μ := μ) (L' := [.ref l0, .int x1]) (st' := []) f_100_3 rfl rfl).trans (m_congr fun p1 => (e_ne f_100_6 rfl).trans (b_congr (fun h2 => (e_nx (q := (_, _, .long (-1000000001) :: _, _)) f_100_9 rfl).trans (e_rt f_100_12 rfl)) (fun h2 => (e_nx f_100_13 rfl).trans ((e_gd f_100_14 rfl).trans (g_congr (Iff.rfl) (fun h3 => (e_nx f_100_17 rfl).trans ((e_gk f_100_18 (h3) rfl).trans ((e_gJ (L := [.ref l0, .int x1]) (st := [.ref (mR p1.2 l0 0), .ref (mR p1.2 l0 4)]) (μ := p1.2) (L' := [.ref l0, .int x1]) (st' := []) f_100_21 rfl rfl).trans (g_congr (v_c2 rfl (Nat.le_of_ble_eq_true rfl)) (fun h5 => m_congr fun p4 => (e_nx f_100_24 rfl).trans ((e_gd f_100_25 rfl).trans (g_congr (Iff.rfl) (fun h6 => (e_nx f_100_28 rfl).trans ((e_gk f_100_29 (h6) rfl).trans ((e_gJ (L := [.ref l0, .int x1]) (st := [.ref (mR p4.2 l0 0), .ref (mR p4.2 l0 4), .long p4.1]) (μ := p4.2) (L' := [.ref l0, .int x1]) (st' := [.long p4.1]) f_100_32 rfl rfl).trans (g_congr (v_c2 rfl (Nat.le_of_ble_eq_true rfl)) (fun h8 => m_congr fun p7 => (e_nx f_100_35 rfl).trans ((e_cJ (L := [.ref l0, .int x1]) (st := [.int x1, .long p7.1, .long p4.1]) (μ := p7.2) (L' := [.ref l0, .int x1]) (st' := []) f_100_36 rfl rfl).trans (m_congr fun p9 => e_rt f_100_39 rfl))))))))))))))))))))))
theorem pg_101 (pc : Nat) : fe0 101 pc = lk prg_101 pc := rfl
theorem f_101_0 : fe0 101 0 = some (.iload_n 1, 1, 0, 0, 0, 0, 0) := (pg_101 0).trans rfl
theorem f_101_1 : fe0 101 1 = some (.invokestatic 76, 3, 125, 1, 2, 0, 2060) := (pg_101 1).trans rfl
theorem f_101_4 : fe0 101 4 = some (.ifCond .eq 13, 3, 0, 0, 0, 0, 0) := (pg_101 4).trans rfl
theorem f_101_7 : fe0 101 7 = some (.iload_n 2, 1, 0, 0, 0, 0, 0) := (pg_101 7).trans rfl
theorem f_101_8 : fe0 101 8 = some (.iconst 1, 1, 0, 0, 0, 0, 0) := (pg_101 8).trans rfl
theorem f_101_9 : fe0 101 9 = some (.bipush 40, 2, 0, 0, 0, 0, 0) := (pg_101 9).trans rfl
theorem f_101_11 : fe0 101 11 = some (.invokestatic 72, 3, 122, 3, 2, 0, 2057) := (pg_101 11).trans rfl
theorem f_101_14 : fe0 101 14 = some (.ifCond .ne 6, 3, 0, 0, 0, 0, 0) := (pg_101 14).trans rfl
theorem f_101_17 : fe0 101 17 = some (.ldc 79, 2, 0, 0, 3294967295, 0, 2063) := (pg_101 17).trans rfl
theorem f_101_19 : fe0 101 19 = some (.ireturn, 1, 0, 0, 0, 0, 0) := (pg_101 19).trans rfl
theorem f_101_20 : fe0 101 20 = some (.iconst 0, 1, 0, 0, 0, 0, 0) := (pg_101 20).trans rfl
theorem f_101_21 : fe0 101 21 = some (.istore_n 3, 1, 0, 0, 0, 0, 0) := (pg_101 21).trans rfl
theorem f_101_22 : fe0 101 22 = some (.iconst 0, 1, 0, 0, 0, 0, 0) := (pg_101 22).trans rfl
theorem f_101_23 : fe0 101 23 = some (.istore 4, 2, 0, 0, 0, 0, 0) := (pg_101 23).trans rfl
theorem f_101_25 : fe0 101 25 = some (.iload 4, 2, 0, 0, 0, 0, 0) := (pg_101 25).trans rfl
theorem f_101_27 : fe0 101 27 = some (.iload_n 2, 1, 0, 0, 0, 0, 0) := (pg_101 27).trans rfl
theorem f_101_28 : fe0 101 28 = some (.if_icmp .ge 41, 3, 0, 0, 0, 0, 0) := (pg_101 28).trans rfl
theorem f_101_31 : fe0 101 31 = some (.aload_n 0, 1, 0, 0, 0, 0, 0) := (pg_101 31).trans rfl
theorem f_101_32 : fe0 101 32 = some (.getfield 29, 3, 8, 4, 1, 0, 2017) := (pg_101 32).trans rfl
theorem f_101_35 : fe0 101 35 = some (.aload_n 0, 1, 0, 0, 0, 0, 0) := (pg_101 35).trans rfl
theorem f_101_36 : fe0 101 36 = some (.getfield 12, 3, 8, 0, 1, 0, 2013) := (pg_101 36).trans rfl
theorem f_101_39 : fe0 101 39 = some (.iload_n 1, 1, 0, 0, 0, 0, 0) := (pg_101 39).trans rfl
theorem f_101_40 : fe0 101 40 = some (.invokevirtual 198, 3, 65, 2, 0, 4, 3097) := (pg_101 40).trans rfl
theorem f_101_43 : fe0 101 43 = some (.aload_n 0, 1, 0, 0, 0, 0, 0) := (pg_101 43).trans rfl
theorem f_101_44 : fe0 101 44 = some (.getfield 29, 3, 8, 4, 1, 0, 2017) := (pg_101 44).trans rfl
theorem f_101_47 : fe0 101 47 = some (.getfield 202, 3, 4, 9, 0, 0, 1145) := (pg_101 47).trans rfl
theorem f_101_50 : fe0 101 50 = some (.aload_n 0, 1, 0, 0, 0, 0, 0) := (pg_101 50).trans rfl
theorem f_101_51 : fe0 101 51 = some (.getfield 29, 3, 8, 4, 1, 0, 2017) := (pg_101 51).trans rfl
theorem f_101_54 : fe0 101 54 = some (.getfield 205, 3, 4, 8, 0, 0, 1143) := (pg_101 54).trans rfl
theorem f_101_57 : fe0 101 57 = some (.if_icmp .gt 6, 3, 0, 0, 0, 0, 0) := (pg_101 57).trans rfl
theorem f_101_60 : fe0 101 60 = some (.iinc 3 1, 3, 0, 0, 0, 0, 0) := (pg_101 60).trans rfl
theorem f_101_63 : fe0 101 63 = some (.iinc 4 1, 3, 0, 0, 0, 0, 0) := (pg_101 63).trans rfl
theorem f_101_66 : fe0 101 66 = some (.goto (-41), 3, 0, 0, 0, 0, 0) := (pg_101 66).trans rfl
theorem f_101_69 : fe0 101 69 = some (.iload_n 3, 1, 0, 0, 0, 0, 0) := (pg_101 69).trans rfl
theorem f_101_70 : fe0 101 70 = some (.ireturn, 1, 0, 0, 0, 0, 0) := (pg_101 70).trans rfl
theorem q_101_0 (d : Nat) (l0 : Nat) (x1 : Int32) (x2 : Int32) (μ : aMem) : Rn (d + 1) 101 (0, [.ref l0, .int x1, .int x2, un, un], [], μ) = (cI d 125 [.int x1] μ).bind fun p1 => if p1.1 = 0 then (some (some (.int (-1000000001)), p1.2)) else ((cI d 122 [.int x2, .int 1, .int 40] p1.2).bind fun p3 => if p3.1 = 0 then (some (some (.int (-1000000001)), p3.2)) else (Rn (d + 1) 101 (25, [.ref l0, .int x1, .int x2, .int 0, .int 0], [], p3.2))) :=
  (e_nx f_101_0 rfl).trans ((e_cI (L := [.ref l0, .int x1, .int x2, un, un]) (st := [.int x1]) (μ := μ) (L' := [.ref l0, .int x1, .int x2, un, un]) (st' := []) f_101_1 rfl rfl).trans (m_congr fun p1 => (e_eq f_101_4 rfl).trans (b_congr (fun h2 => (e_nx (q := (_, _, .int (-1000000001) :: _, _)) f_101_17 rfl).trans (e_rt f_101_19 rfl)) (fun h2 => (e_nx f_101_7 rfl).trans ((e_nx (q := (_, _, .int 1 :: _, _)) f_101_8 rfl).trans ((e_nx (q := (_, _, .int 40 :: _, _)) f_101_9 rfl).trans ((e_cI (L := [.ref l0, .int x1, .int x2, un, un]) (st := [.int 40, .int 1, .int x2]) (μ := p1.2) (L' := [.ref l0, .int x1, .int x2, un, un]) (st' := []) f_101_11 rfl rfl).trans (m_congr fun p3 => (e_ne f_101_14 rfl).trans (b_congr (fun h4 => (e_nx (q := (_, _, .int (-1000000001) :: _, _)) f_101_17 rfl).trans (e_rt f_101_19 rfl)) (fun h4 => (e_nx (q := (_, _, .int 0 :: _, _)) f_101_20 rfl).trans ((e_nx (q := (_, [.ref l0, .int x1, .int x2, .int 0, un], _, _)) f_101_21 rfl).trans ((e_nx (q := (_, _, .int 0 :: _, _)) f_101_22 rfl).trans (e_nx (q := (_, [.ref l0, .int x1, .int x2, .int 0, .int 0], _, _)) f_101_23 rfl)))))))))))))
theorem q_101_25 (d : Nat) (l0 : Nat) (x1 : Int32) (x2 : Int32) (x3 : Int32) (x4 : Int32) (μ : aMem) : Rn (d + 1) 101 (25, [.ref l0, .int x1, .int x2, .int x3, .int x4], [], μ) = if x2 ≤ x4 then (some (some (.int x3), μ)) else (if (mS μ l0).1 = 8 then (if (mS μ (mR μ l0 4)).1 = 4 ∧ (mR μ l0 4) < 999999 then ((cV d 65 [.ref (mR μ l0 4), .ref (mR μ l0 0), .int x1] μ).bind fun p3 => if (mS p3 l0).1 = 8 then (if (mS p3 (mR p3 l0 4)).1 = 4 then (if (mF p3 (mR p3 l0 4) 8) < (mF p3 (mR p3 l0 4) 9) then (Rn (d + 1) 101 (25, [.ref l0, .int x1, .int x2, .int x3, .int (x4 + 1)], [], p3)) else (Rn (d + 1) 101 (25, [.ref l0, .int x1, .int x2, .int (x3 + 1), .int (x4 + 1)], [], p3))) else none) else none) else none) else none) :=
  (e_nx f_101_25 rfl).trans ((e_nx f_101_27 rfl).trans ((e_ge f_101_28 rfl).trans (b_congr (fun h1 => (e_nx f_101_69 rfl).trans (e_rt f_101_70 rfl)) (fun h1 => (e_nx f_101_31 rfl).trans ((e_gd f_101_32 rfl).trans (g_congr (Iff.rfl) (fun h2 => (e_nx f_101_35 rfl).trans ((e_gk f_101_36 (h2) rfl).trans ((e_nx f_101_39 rfl).trans ((e_gV (L := [.ref l0, .int x1, .int x2, .int x3, .int x4]) (st := [.int x1, .ref (mR μ l0 0), .ref (mR μ l0 4)]) (μ := μ) (L' := [.ref l0, .int x1, .int x2, .int x3, .int x4]) (st' := []) f_101_40 rfl rfl).trans (g_congr (v_c2 rfl (Nat.le_of_ble_eq_true rfl)) (fun h4 => m_congr fun p3 => (e_nx f_101_43 rfl).trans ((e_gd f_101_44 rfl).trans (g_congr (Iff.rfl) (fun h5 => (e_gd f_101_47 rfl).trans (g_congr (Iff.rfl) (fun h6 => (e_nx f_101_50 rfl).trans ((e_gk f_101_51 (h5) rfl).trans ((e_gk f_101_54 (h6) rfl).trans ((e_gt f_101_57 rfl).trans (b_congr (fun h7 => (e_nx (q := (_, [.ref l0, .int x1, .int x2, .int x3, .int (x4 + 1)], _, _)) f_101_63 rfl).trans (e_nx f_101_66 rfl)) (fun h7 => (e_nx (q := (_, [.ref l0, .int x1, .int x2, .int (x3 + 1), .int x4], _, _)) f_101_60 rfl).trans ((e_nx (q := (_, [.ref l0, .int x1, .int x2, .int (x3 + 1), .int (x4 + 1)], _, _)) f_101_63 rfl).trans (e_nx f_101_66 rfl))))))))))))))))))))))))
theorem pg_102 (pc : Nat) : fe0 102 pc = lk prg_102 pc := rfl
theorem f_102_0 : fe0 102 0 = some (.iload_n 1, 1, 0, 0, 0, 0, 0) := (pg_102 0).trans rfl
theorem f_102_1 : fe0 102 1 = some (.iconst 0, 1, 0, 0, 0, 0, 0) := (pg_102 1).trans rfl
theorem f_102_2 : fe0 102 2 = some (.sipush 9999, 3, 0, 0, 0, 0, 0) := (pg_102 2).trans rfl
theorem f_102_5 : fe0 102 5 = some (.invokestatic 72, 3, 122, 3, 2, 0, 2057) := (pg_102 5).trans rfl
theorem f_102_8 : fe0 102 8 = some (.ifCond .ne 6, 3, 0, 0, 0, 0, 0) := (pg_102 8).trans rfl
theorem f_102_11 : fe0 102 11 = some (.ldc 79, 2, 0, 0, 3294967295, 0, 2063) := (pg_102 11).trans rfl
theorem f_102_13 : fe0 102 13 = some (.ireturn, 1, 0, 0, 0, 0, 0) := (pg_102 13).trans rfl
theorem f_102_14 : fe0 102 14 = some (.aload_n 0, 1, 0, 0, 0, 0, 0) := (pg_102 14).trans rfl
theorem f_102_15 : fe0 102 15 = some (.getfield 29, 3, 8, 4, 1, 0, 2017) := (pg_102 15).trans rfl
theorem f_102_18 : fe0 102 18 = some (.aload_n 0, 1, 0, 0, 0, 0, 0) := (pg_102 18).trans rfl
theorem f_102_19 : fe0 102 19 = some (.getfield 12, 3, 8, 0, 1, 0, 2013) := (pg_102 19).trans rfl
theorem f_102_22 : fe0 102 22 = some (.iload_n 1, 1, 0, 0, 0, 0, 0) := (pg_102 22).trans rfl
theorem f_102_23 : fe0 102 23 = some (.invokevirtual 208, 3, 54, 2, 0, 4, 3107) := (pg_102 23).trans rfl
theorem f_102_26 : fe0 102 26 = some (.ireturn, 1, 0, 0, 0, 0, 0) := (pg_102 26).trans rfl
theorem q_102_0 (d : Nat) (l0 : Nat) (x1 : Int32) (μ : aMem) : Rn (d + 1) 102 (0, [.ref l0, .int x1], [], μ) = (cI d 122 [.int x1, .int 0, .int 9999] μ).bind fun p1 => if p1.1 = 0 then (some (some (.int (-1000000001)), p1.2)) else (if (mS p1.2 l0).1 = 8 then (if (mS p1.2 (mR p1.2 l0 4)).1 = 4 ∧ (mR p1.2 l0 4) < 999999 then ((cI d 54 [.ref (mR p1.2 l0 4), .ref (mR p1.2 l0 0), .int x1] p1.2).bind fun p4 => some (some (.int p4.1), p4.2)) else none) else none) :=
  (e_nx f_102_0 rfl).trans ((e_nx (q := (_, _, .int 0 :: _, _)) f_102_1 rfl).trans ((e_nx (q := (_, _, .int 9999 :: _, _)) f_102_2 rfl).trans ((e_cI (L := [.ref l0, .int x1]) (st := [.int 9999, .int 0, .int x1]) (μ := μ) (L' := [.ref l0, .int x1]) (st' := []) f_102_5 rfl rfl).trans (m_congr fun p1 => (e_ne f_102_8 rfl).trans (b_congr (fun h2 => (e_nx (q := (_, _, .int (-1000000001) :: _, _)) f_102_11 rfl).trans (e_rt f_102_13 rfl)) (fun h2 => (e_nx f_102_14 rfl).trans ((e_gd f_102_15 rfl).trans (g_congr (Iff.rfl) (fun h3 => (e_nx f_102_18 rfl).trans ((e_gk f_102_19 (h3) rfl).trans ((e_nx f_102_22 rfl).trans ((e_gI (L := [.ref l0, .int x1]) (st := [.int x1, .ref (mR p1.2 l0 0), .ref (mR p1.2 l0 4)]) (μ := p1.2) (L' := [.ref l0, .int x1]) (st' := []) f_102_23 rfl rfl).trans (g_congr (v_c2 rfl (Nat.le_of_ble_eq_true rfl)) (fun h5 => m_congr fun p4 => e_rt f_102_26 rfl))))))))))))))
theorem pg_103 (pc : Nat) : fe0 103 pc = lk prg_103 pc := rfl
theorem f_103_0 : fe0 103 0 = some (.aload_n 0, 1, 0, 0, 0, 0, 0) := (pg_103 0).trans rfl
theorem f_103_1 : fe0 103 1 = some (.getfield 44, 3, 8, 7, 0, 0, 2020) := (pg_103 1).trans rfl
theorem f_103_4 : fe0 103 4 = some (.bipush 12, 2, 0, 0, 0, 0, 0) := (pg_103 4).trans rfl
theorem f_103_6 : fe0 103 6 = some (.iadd, 1, 0, 0, 0, 0, 0) := (pg_103 6).trans rfl
theorem f_103_7 : fe0 103 7 = some (.bipush 96, 2, 0, 0, 0, 0, 0) := (pg_103 7).trans rfl
theorem f_103_9 : fe0 103 9 = some (.if_icmp .le 6, 3, 0, 0, 0, 0, 0) := (pg_103 9).trans rfl
theorem f_103_12 : fe0 103 12 = some (.ldc 211, 2, 0, 0, 3294967293, 0, 3115) := (pg_103 12).trans rfl
theorem f_103_14 : fe0 103 14 = some (.ireturn, 1, 0, 0, 0, 0, 0) := (pg_103 14).trans rfl
theorem f_103_15 : fe0 103 15 = some (.aload_n 0, 1, 0, 0, 0, 0, 0) := (pg_103 15).trans rfl
theorem f_103_16 : fe0 103 16 = some (.iload_n 1, 1, 0, 0, 0, 0, 0) := (pg_103 16).trans rfl
theorem f_103_17 : fe0 103 17 = some (.invokevirtual 212, 3, 129, 1, 0, 8, 3116) := (pg_103 17).trans rfl
theorem f_103_20 : fe0 103 20 = some (.aload_n 0, 1, 0, 0, 0, 0, 0) := (pg_103 20).trans rfl
theorem f_103_21 : fe0 103 21 = some (.iload_n 2, 1, 0, 0, 0, 0, 0) := (pg_103 21).trans rfl
theorem f_103_22 : fe0 103 22 = some (.invokevirtual 212, 3, 129, 1, 0, 8, 3116) := (pg_103 22).trans rfl
theorem f_103_25 : fe0 103 25 = some (.aload_n 0, 1, 0, 0, 0, 0, 0) := (pg_103 25).trans rfl
theorem f_103_26 : fe0 103 26 = some (.iload_n 3, 1, 0, 0, 0, 0, 0) := (pg_103 26).trans rfl
theorem f_103_27 : fe0 103 27 = some (.invokevirtual 212, 3, 129, 1, 0, 8, 3116) := (pg_103 27).trans rfl
theorem f_103_30 : fe0 103 30 = some (.aload_n 0, 1, 0, 0, 0, 0, 0) := (pg_103 30).trans rfl
theorem f_103_31 : fe0 103 31 = some (.getfield 44, 3, 8, 7, 0, 0, 2020) := (pg_103 31).trans rfl
theorem f_103_34 : fe0 103 34 = some (.ireturn, 1, 0, 0, 0, 0, 0) := (pg_103 34).trans rfl
theorem q_103_0 (d : Nat) (l0 : Nat) (x1 : Int32) (x2 : Int32) (x3 : Int32) (μ : aMem) : Rn (d + 1) 103 (0, [.ref l0, .int x1, .int x2, .int x3], [], μ) = if (mS μ l0).1 = 8 then (if ((mF μ l0 7) + 12) ≤ 96 then (if (mS μ l0).1 = 8 ∧ l0 < 999999 then ((cV d 129 [.ref l0, .int x1] μ).bind fun p3 => if (mS p3 l0).1 = 8 ∧ l0 < 999999 then ((cV d 129 [.ref l0, .int x2] p3).bind fun p5 => if (mS p5 l0).1 = 8 ∧ l0 < 999999 then ((cV d 129 [.ref l0, .int x3] p5).bind fun p7 => if (mS p7 l0).1 = 8 then (some (some (.int (mF p7 l0 7)), p7)) else none) else none) else none) else none) else (some (some (.int (-1000000003)), μ))) else none :=
  (e_nx f_103_0 rfl).trans ((e_gd f_103_1 rfl).trans (g_congr (Iff.rfl) (fun h1 => (e_nx (q := (_, _, .int 12 :: _, _)) f_103_4 rfl).trans ((e_nx f_103_6 rfl).trans ((e_nx (q := (_, _, .int 96 :: _, _)) f_103_7 rfl).trans ((e_le f_103_9 rfl).trans (b_congr (fun h2 => (e_nx f_103_15 rfl).trans ((e_nx f_103_16 rfl).trans ((e_gV (L := [.ref l0, .int x1, .int x2, .int x3]) (st := [.int x1, .ref l0]) (μ := μ) (L' := [.ref l0, .int x1, .int x2, .int x3]) (st' := []) f_103_17 rfl rfl).trans (g_congr (v_c2 rfl (Nat.le_of_ble_eq_true rfl)) (fun h4 => m_congr fun p3 => (e_nx f_103_20 rfl).trans ((e_nx f_103_21 rfl).trans ((e_gV (L := [.ref l0, .int x1, .int x2, .int x3]) (st := [.int x2, .ref l0]) (μ := p3) (L' := [.ref l0, .int x1, .int x2, .int x3]) (st' := []) f_103_22 rfl rfl).trans (g_congr (v_c2 rfl (Nat.le_of_ble_eq_true rfl)) (fun h6 => m_congr fun p5 => (e_nx f_103_25 rfl).trans ((e_nx f_103_26 rfl).trans ((e_gV (L := [.ref l0, .int x1, .int x2, .int x3]) (st := [.int x3, .ref l0]) (μ := p5) (L' := [.ref l0, .int x1, .int x2, .int x3]) (st' := []) f_103_27 rfl rfl).trans (g_congr (v_c2 rfl (Nat.le_of_ble_eq_true rfl)) (fun h8 => m_congr fun p7 => (e_nx f_103_30 rfl).trans ((e_gd f_103_31 rfl).trans (g_congr (Iff.rfl) (fun h9 => e_rt f_103_34 rfl)))))))))))))))) (fun h2 => (e_nx (q := (_, _, .int (-1000000003) :: _, _)) f_103_12 rfl).trans (e_rt f_103_14 rfl)))))))))
theorem pg_104 (pc : Nat) : fe0 104 pc = lk prg_104 pc := rfl
theorem f_104_0 : fe0 104 0 = some (.iload_n 1, 1, 0, 0, 0, 0, 0) := (pg_104 0).trans rfl
theorem f_104_1 : fe0 104 1 = some (.iconst 0, 1, 0, 0, 0, 0, 0) := (pg_104 1).trans rfl
theorem f_104_2 : fe0 104 2 = some (.aload_n 0, 1, 0, 0, 0, 0, 0) := (pg_104 2).trans rfl
theorem f_104_3 : fe0 104 3 = some (.getfield 44, 3, 8, 7, 0, 0, 2020) := (pg_104 3).trans rfl
theorem f_104_6 : fe0 104 6 = some (.invokestatic 72, 3, 122, 3, 2, 0, 2057) := (pg_104 6).trans rfl
theorem f_104_9 : fe0 104 9 = some (.ifCond .ne 6, 3, 0, 0, 0, 0, 0) := (pg_104 9).trans rfl
theorem f_104_12 : fe0 104 12 = some (.ldc 79, 2, 0, 0, 3294967295, 0, 2063) := (pg_104 12).trans rfl
theorem f_104_14 : fe0 104 14 = some (.ireturn, 1, 0, 0, 0, 0, 0) := (pg_104 14).trans rfl
theorem f_104_15 : fe0 104 15 = some (.aload_n 0, 1, 0, 0, 0, 0, 0) := (pg_104 15).trans rfl
theorem f_104_16 : fe0 104 16 = some (.iload_n 1, 1, 0, 0, 0, 0, 0) := (pg_104 16).trans rfl
theorem f_104_17 : fe0 104 17 = some (.putfield 44, 3, 8, 7, 0, 0, 2020) := (pg_104 17).trans rfl
theorem f_104_20 : fe0 104 20 = some (.iload_n 1, 1, 0, 0, 0, 0, 0) := (pg_104 20).trans rfl
theorem f_104_21 : fe0 104 21 = some (.ireturn, 1, 0, 0, 0, 0, 0) := (pg_104 21).trans rfl
theorem q_104_0 (d : Nat) (l0 : Nat) (x1 : Int32) (μ : aMem) : Rn (d + 1) 104 (0, [.ref l0, .int x1], [], μ) = if (mS μ l0).1 = 8 then ((cI d 122 [.int x1, .int 0, .int (mF μ l0 7)] μ).bind fun p2 => if p2.1 = 0 then (some (some (.int (-1000000001)), p2.2)) else (if (mS p2.2 l0).1 = 8 then (some (some (.int x1), setF p2.2 l0 7 x1)) else none)) else none :=
  (e_nx f_104_0 rfl).trans ((e_nx (q := (_, _, .int 0 :: _, _)) f_104_1 rfl).trans ((e_nx f_104_2 rfl).trans ((e_gd f_104_3 rfl).trans (g_congr (Iff.rfl) (fun h1 => (e_cI (L := [.ref l0, .int x1]) (st := [.int (mF μ l0 7), .int 0, .int x1]) (μ := μ) (L' := [.ref l0, .int x1]) (st' := []) f_104_6 rfl rfl).trans (m_congr fun p2 => (e_ne f_104_9 rfl).trans (b_congr (fun h3 => (e_nx (q := (_, _, .int (-1000000001) :: _, _)) f_104_12 rfl).trans (e_rt f_104_14 rfl)) (fun h3 => (e_nx f_104_15 rfl).trans ((e_nx f_104_16 rfl).trans ((e_gd (L := [.ref l0, .int x1]) (st := [.int x1, .ref l0]) (μ := p2.2) f_104_17 rfl).trans (g_congr (pi_iff rfl) (fun h4 => (e_nx f_104_20 rfl).trans (e_rt f_104_21 rfl)))))))))))))
theorem pg_105 (pc : Nat) : fe0 105 pc = lk prg_105 pc := rfl
theorem f_105_0 : fe0 105 0 = some (.aload_n 0, 1, 0, 0, 0, 0, 0) := (pg_105 0).trans rfl
theorem f_105_1 : fe0 105 1 = some (.getfield 44, 3, 8, 7, 0, 0, 2020) := (pg_105 1).trans rfl
theorem f_105_4 : fe0 105 4 = some (.istore_n 1, 1, 0, 0, 0, 0, 0) := (pg_105 4).trans rfl
theorem f_105_5 : fe0 105 5 = some (.aload_n 0, 1, 0, 0, 0, 0, 0) := (pg_105 5).trans rfl
theorem f_105_6 : fe0 105 6 = some (.iconst 0, 1, 0, 0, 0, 0, 0) := (pg_105 6).trans rfl
theorem f_105_7 : fe0 105 7 = some (.putfield 44, 3, 8, 7, 0, 0, 2020) := (pg_105 7).trans rfl
theorem f_105_10 : fe0 105 10 = some (.aload_n 0, 1, 0, 0, 0, 0, 0) := (pg_105 10).trans rfl
theorem f_105_11 : fe0 105 11 = some (.getfield 36, 3, 8, 5, 1, 0, 2018) := (pg_105 11).trans rfl
theorem f_105_14 : fe0 105 14 = some (.aload_n 0, 1, 0, 0, 0, 0, 0) := (pg_105 14).trans rfl
theorem f_105_15 : fe0 105 15 = some (.getfield 40, 3, 8, 6, 1, 0, 2019) := (pg_105 15).trans rfl
theorem f_105_18 : fe0 105 18 = some (.iload_n 1, 1, 0, 0, 0, 0, 0) := (pg_105 18).trans rfl
theorem f_105_19 : fe0 105 19 = some (.invokevirtual 216, 3, 21, 2, 0, 3, 3128) := (pg_105 19).trans rfl
theorem f_105_22 : fe0 105 22 = some (.istore_n 2, 1, 0, 0, 0, 0, 0) := (pg_105 22).trans rfl
theorem f_105_23 : fe0 105 23 = some (.iload_n 2, 1, 0, 0, 0, 0, 0) := (pg_105 23).trans rfl
theorem f_105_24 : fe0 105 24 = some (.ifCond .lt 8, 3, 0, 0, 0, 0, 0) := (pg_105 24).trans rfl
theorem f_105_27 : fe0 105 27 = some (.bipush (-100), 2, 0, 0, 0, 0, 0) := (pg_105 27).trans rfl
theorem f_105_29 : fe0 105 29 = some (.iload_n 2, 1, 0, 0, 0, 0, 0) := (pg_105 29).trans rfl
theorem f_105_30 : fe0 105 30 = some (.isub, 1, 0, 0, 0, 0, 0) := (pg_105 30).trans rfl
theorem f_105_31 : fe0 105 31 = some (.ireturn, 1, 0, 0, 0, 0, 0) := (pg_105 31).trans rfl
theorem f_105_32 : fe0 105 32 = some (.aload_n 0, 1, 0, 0, 0, 0, 0) := (pg_105 32).trans rfl
theorem f_105_33 : fe0 105 33 = some (.getfield 12, 3, 8, 0, 1, 0, 2013) := (pg_105 33).trans rfl
theorem f_105_36 : fe0 105 36 = some (.getfield 220, 3, 2, 4, 0, 0, 1109) := (pg_105 36).trans rfl
theorem f_105_39 : fe0 105 39 = some (.bipush 14, 2, 0, 0, 0, 0, 0) := (pg_105 39).trans rfl
theorem f_105_41 : fe0 105 41 = some (.if_icmp .lt 6, 3, 0, 0, 0, 0, 0) := (pg_105 41).trans rfl
theorem f_105_44 : fe0 105 44 = some (.ldc 211, 2, 0, 0, 3294967293, 0, 3115) := (pg_105 44).trans rfl
theorem f_105_46 : fe0 105 46 = some (.ireturn, 1, 0, 0, 0, 0, 0) := (pg_105 46).trans rfl
theorem f_105_47 : fe0 105 47 = some (.aload_n 0, 1, 0, 0, 0, 0, 0) := (pg_105 47).trans rfl
theorem f_105_48 : fe0 105 48 = some (.getfield 12, 3, 8, 0, 1, 0, 2013) := (pg_105 48).trans rfl
theorem f_105_51 : fe0 105 51 = some (.aload_n 0, 1, 0, 0, 0, 0, 0) := (pg_105 51).trans rfl
theorem f_105_52 : fe0 105 52 = some (.getfield 36, 3, 8, 5, 1, 0, 2018) := (pg_105 52).trans rfl
theorem f_105_55 : fe0 105 55 = some (.invokevirtual 223, 3, 22, 0, 0, 3, 4062) := (pg_105 55).trans rfl
theorem f_105_58 : fe0 105 58 = some (.invokevirtual 227, 3, 15, 1, 0, 2, 4099) := (pg_105 58).trans rfl
theorem f_105_61 : fe0 105 61 = some (.ireturn, 1, 0, 0, 0, 0, 0) := (pg_105 61).trans rfl
theorem q_105_0 (d : Nat) (l0 : Nat) (μ : aMem) : Rn (d + 1) 105 (0, [.ref l0, un, un], [], μ) = if (mS μ l0).1 = 8 then (if (mS μ (mR μ l0 5)).1 = 3 ∧ (mR μ l0 5) < 999999 then ((cI d 21 [.ref (mR μ l0 5), .ref (mR μ l0 6), .int (mF μ l0 7)] (setF μ l0 7 0)).bind fun p2 => if p2.1 < 0 then (if (mS p2.2 l0).1 = 8 then (if (mS p2.2 (mR p2.2 l0 0)).1 = 2 then (if (mF p2.2 (mR p2.2 l0 0) 4) < 14 then (if (mS p2.2 (mR p2.2 l0 5)).1 = 3 ∧ (mR p2.2 l0 5) < 999999 then ((cR d 22 [.ref (mR p2.2 l0 5)] p2.2).bind fun p8 => if (mS p8.2 (mR p2.2 l0 0)).1 = 2 ∧ (mR p2.2 l0 0) < 999999 then ((cI d 15 [.ref (mR p2.2 l0 0), .ref p8.1] p8.2).bind fun p10 => some (some (.int p10.1), p10.2)) else none) else none) else (some (some (.int (-1000000003)), p2.2))) else none) else none) else (some (some (.int ((-100) - p2.1)), p2.2))) else none) else none :=
  (e_nx f_105_0 rfl).trans ((e_gd f_105_1 rfl).trans (g_congr (Iff.rfl) (fun h1 => (e_nx (q := (_, [.ref l0, .int (mF μ l0 7), un], _, _)) f_105_4 rfl).trans ((e_nx f_105_5 rfl).trans ((e_nx (q := (_, _, .int 0 :: _, _)) f_105_6 rfl).trans ((e_gk (L := [.ref l0, .int (mF μ l0 7), un]) (st := [.int 0, .ref l0]) (μ := μ) f_105_7 ((pi_iff rfl).mpr h1) rfl).trans ((e_nx f_105_10 rfl).trans ((e_gk f_105_11 (h1) rfl).trans ((e_nx f_105_14 rfl).trans ((e_gk f_105_15 (h1) rfl).trans ((e_nx f_105_18 rfl).trans ((e_gI (L := [.ref l0, .int (mF μ l0 7), un]) (st := [.int (mF μ l0 7), .ref (mR μ l0 6), .ref (mR μ l0 5)]) (μ := setF μ l0 7 0) (L' := [.ref l0, .int (mF μ l0 7), un]) (st' := []) f_105_19 rfl rfl).trans (g_congr (v_c2 rfl (Nat.le_of_ble_eq_true rfl)) (fun h3 => m_congr fun p2 => (e_nx (q := (_, [.ref l0, .int (mF μ l0 7), .int p2.1], _, _)) f_105_22 rfl).trans ((e_nx f_105_23 rfl).trans ((e_lt f_105_24 rfl).trans (b_congr (fun h4 => (e_nx f_105_32 rfl).trans ((e_gd f_105_33 rfl).trans (g_congr (Iff.rfl) (fun h5 => (e_gd f_105_36 rfl).trans (g_congr (Iff.rfl) (fun h6 => (e_nx (q := (_, _, .int 14 :: _, _)) f_105_39 rfl).trans ((e_lt f_105_41 rfl).trans (b_congr (fun h7 => (e_nx f_105_47 rfl).trans ((e_gk f_105_48 (h5) rfl).trans ((e_nx f_105_51 rfl).trans ((e_gk f_105_52 (h5) rfl).trans ((e_gR (L := [.ref l0, .int (mF μ l0 7), .int p2.1]) (st := [.ref (mR p2.2 l0 5), .ref (mR p2.2 l0 0)]) (μ := p2.2) (L' := [.ref l0, .int (mF μ l0 7), .int p2.1]) (st' := [.ref (mR p2.2 l0 0)]) f_105_55 rfl rfl).trans (g_congr (v_c2 rfl (Nat.le_of_ble_eq_true rfl)) (fun h9 => m_congr fun p8 => (e_gI (L := [.ref l0, .int (mF μ l0 7), .int p2.1]) (st := [.ref p8.1, .ref (mR p2.2 l0 0)]) (μ := p8.2) (L' := [.ref l0, .int (mF μ l0 7), .int p2.1]) (st' := []) f_105_58 rfl rfl).trans (g_congr (v_c2 rfl (Nat.le_of_ble_eq_true rfl)) (fun h11 => m_congr fun p10 => e_rt f_105_61 rfl))))))))) (fun h7 => (e_nx (q := (_, _, .int (-1000000003) :: _, _)) f_105_44 rfl).trans (e_rt f_105_46 rfl)))))))))) (fun h4 => (e_nx (q := (_, _, .int (-100) :: _, _)) f_105_27 rfl).trans ((e_nx f_105_29 rfl).trans ((e_nx f_105_30 rfl).trans (e_rt f_105_31 rfl)))))))))))))))))))))
theorem pg_106 (pc : Nat) : fe0 106 pc = lk prg_106 pc := rfl
theorem f_106_0 : fe0 106 0 = some (.aload_n 0, 1, 0, 0, 0, 0, 0) := (pg_106 0).trans rfl
theorem f_106_1 : fe0 106 1 = some (.getfield 12, 3, 8, 0, 1, 0, 2013) := (pg_106 1).trans rfl
theorem f_106_4 : fe0 106 4 = some (.iload_n 1, 1, 0, 0, 0, 0, 0) := (pg_106 4).trans rfl
theorem f_106_5 : fe0 106 5 = some (.invokevirtual 231, 3, 13, 1, 0, 2, 4107) := (pg_106 5).trans rfl
theorem f_106_8 : fe0 106 8 = some (.astore_n 3, 1, 0, 0, 0, 0, 0) := (pg_106 8).trans rfl
theorem f_106_9 : fe0 106 9 = some (.aload_n 3, 1, 0, 0, 0, 0, 0) := (pg_106 9).trans rfl
theorem f_106_10 : fe0 106 10 = some (.ifnull 12, 3, 0, 0, 0, 0, 0) := (pg_106 10).trans rfl
theorem f_106_13 : fe0 106 13 = some (.iload_n 2, 1, 0, 0, 0, 0, 0) := (pg_106 13).trans rfl
theorem f_106_14 : fe0 106 14 = some (.iconst 0, 1, 0, 0, 0, 0, 0) := (pg_106 14).trans rfl
theorem f_106_15 : fe0 106 15 = some (.iconst 1, 1, 0, 0, 0, 0, 0) := (pg_106 15).trans rfl
theorem f_106_16 : fe0 106 16 = some (.invokestatic 72, 3, 122, 3, 2, 0, 2057) := (pg_106 16).trans rfl
theorem f_106_19 : fe0 106 19 = some (.ifCond .ne 6, 3, 0, 0, 0, 0, 0) := (pg_106 19).trans rfl
theorem f_106_22 : fe0 106 22 = some (.ldc 79, 2, 0, 0, 3294967295, 0, 2063) := (pg_106 22).trans rfl
theorem f_106_24 : fe0 106 24 = some (.ireturn, 1, 0, 0, 0, 0, 0) := (pg_106 24).trans rfl
theorem f_106_25 : fe0 106 25 = some (.iload_n 2, 1, 0, 0, 0, 0, 0) := (pg_106 25).trans rfl
theorem f_106_26 : fe0 106 26 = some (.ifCond .ne 10, 3, 0, 0, 0, 0, 0) := (pg_106 26).trans rfl
theorem f_106_29 : fe0 106 29 = some (.aload_n 3, 1, 0, 0, 0, 0, 0) := (pg_106 29).trans rfl
theorem f_106_30 : fe0 106 30 = some (.getfield 235, 3, 7, 0, 0, 0, 4086) := (pg_106 30).trans rfl
theorem f_106_33 : fe0 106 33 = some (.goto 7, 3, 0, 0, 0, 0, 0) := (pg_106 33).trans rfl
theorem f_106_36 : fe0 106 36 = some (.aload_n 3, 1, 0, 0, 0, 0, 0) := (pg_106 36).trans rfl
theorem f_106_37 : fe0 106 37 = some (.getfield 240, 3, 7, 1, 0, 0, 4088) := (pg_106 37).trans rfl
theorem f_106_40 : fe0 106 40 = some (.ireturn, 1, 0, 0, 0, 0, 0) := (pg_106 40).trans rfl
theorem q_106_0 (d : Nat) (l0 : Nat) (x1 : Int32) (x2 : Int32) (μ : aMem) : Rn (d + 1) 106 (0, [.ref l0, .int x1, .int x2, un], [], μ) = if (mS μ l0).1 = 8 then (if (mS μ (mR μ l0 0)).1 = 2 ∧ (mR μ l0 0) < 999999 then ((cR d 13 [.ref (mR μ l0 0), .int x1] μ).bind fun p2 => if p2.1 ≤ 999999 then (if p2.1 = 999999 then (some (some (.int (-1000000001)), p2.2)) else ((cI d 122 [.int x2, .int 0, .int 1] p2.2).bind fun p6 => if p6.1 = 0 then (some (some (.int (-1000000001)), p6.2)) else (if x2 = 0 then (if (mS p6.2 p2.1).1 = 7 then (some (some (.int (mF p6.2 p2.1 0)), p6.2)) else none) else (if (mS p6.2 p2.1).1 = 7 then (some (some (.int (mF p6.2 p2.1 1)), p6.2)) else none)))) else none) else none) else none :=
  (e_nx f_106_0 rfl).trans ((e_gd f_106_1 rfl).trans (g_congr (Iff.rfl) (fun h1 => (e_nx f_106_4 rfl).trans ((e_gR (L := [.ref l0, .int x1, .int x2, un]) (st := [.int x1, .ref (mR μ l0 0)]) (μ := μ) (L' := [.ref l0, .int x1, .int x2, un]) (st' := []) f_106_5 rfl rfl).trans (g_congr (v_c2 rfl (Nat.le_of_ble_eq_true rfl)) (fun h3 => m_congr fun p2 => (e_nx (q := (_, [.ref l0, .int x1, .int x2, .ref p2.1], _, _)) f_106_8 rfl).trans ((e_nx f_106_9 rfl).trans ((e_gb f_106_10 rfl).trans (g_congr Iff.rfl (fun h5 => b_congr (fun h4 => (e_nx (q := (_, _, .int (-1000000001) :: _, _)) f_106_22 rfl).trans (e_rt f_106_24 rfl)) (fun h4 => (e_nx f_106_13 rfl).trans ((e_nx (q := (_, _, .int 0 :: _, _)) f_106_14 rfl).trans ((e_nx (q := (_, _, .int 1 :: _, _)) f_106_15 rfl).trans ((e_cI (L := [.ref l0, .int x1, .int x2, .ref p2.1]) (st := [.int 1, .int 0, .int x2]) (μ := p2.2) (L' := [.ref l0, .int x1, .int x2, .ref p2.1]) (st' := []) f_106_16 rfl rfl).trans (m_congr fun p6 => (e_ne f_106_19 rfl).trans (b_congr (fun h7 => (e_nx (q := (_, _, .int (-1000000001) :: _, _)) f_106_22 rfl).trans (e_rt f_106_24 rfl)) (fun h7 => (e_nx f_106_25 rfl).trans ((e_ne f_106_26 rfl).trans (b_congr (fun h8 => (e_nx f_106_29 rfl).trans ((e_gd f_106_30 rfl).trans (g_congr (Iff.rfl) (fun h9 => (e_nx f_106_33 rfl).trans (e_rt f_106_40 rfl))))) (fun h8 => (e_nx f_106_36 rfl).trans ((e_gd f_106_37 rfl).trans (g_congr (Iff.rfl) (fun h10 => e_rt f_106_40 rfl)))))))))))))))))))))))
theorem pg_107 (pc : Nat) : fe0 107 pc = lk prg_107 pc := rfl
theorem f_107_0 : fe0 107 0 = some (.iload_n 1, 1, 0, 0, 0, 0, 0) := (pg_107 0).trans rfl
theorem f_107_1 : fe0 107 1 = some (.iconst 0, 1, 0, 0, 0, 0, 0) := (pg_107 1).trans rfl
theorem f_107_2 : fe0 107 2 = some (.iconst 2, 1, 0, 0, 0, 0, 0) := (pg_107 2).trans rfl
theorem f_107_3 : fe0 107 3 = some (.invokestatic 72, 3, 122, 3, 2, 0, 2057) := (pg_107 3).trans rfl
theorem f_107_6 : fe0 107 6 = some (.ifCond .ne 6, 3, 0, 0, 0, 0, 0) := (pg_107 6).trans rfl
theorem f_107_9 : fe0 107 9 = some (.ldc 79, 2, 0, 0, 3294967295, 0, 2063) := (pg_107 9).trans rfl
theorem f_107_11 : fe0 107 11 = some (.ireturn, 1, 0, 0, 0, 0, 0) := (pg_107 11).trans rfl
theorem f_107_12 : fe0 107 12 = some (.aload_n 0, 1, 0, 0, 0, 0, 0) := (pg_107 12).trans rfl
theorem f_107_13 : fe0 107 13 = some (.getfield 12, 3, 8, 0, 1, 0, 2013) := (pg_107 13).trans rfl
theorem f_107_16 : fe0 107 16 = some (.getfield 243, 3, 2, 5, 1, 0, 1111) := (pg_107 16).trans rfl
theorem f_107_19 : fe0 107 19 = some (.iload_n 1, 1, 0, 0, 0, 0, 0) := (pg_107 19).trans rfl
theorem f_107_20 : fe0 107 20 = some (.iaload, 1, 0, 0, 0, 0, 0) := (pg_107 20).trans rfl
theorem f_107_21 : fe0 107 21 = some (.istore_n 2, 1, 0, 0, 0, 0, 0) := (pg_107 21).trans rfl
theorem f_107_22 : fe0 107 22 = some (.iload_n 2, 1, 0, 0, 0, 0, 0) := (pg_107 22).trans rfl
theorem f_107_23 : fe0 107 23 = some (.ifCond .ge 8, 3, 0, 0, 0, 0, 0) := (pg_107 23).trans rfl
theorem f_107_26 : fe0 107 26 = some (.ldc 246, 2, 0, 0, 3294967291, 0, 4112) := (pg_107 26).trans rfl
theorem f_107_28 : fe0 107 28 = some (.goto 4, 3, 0, 0, 0, 0, 0) := (pg_107 28).trans rfl
theorem f_107_31 : fe0 107 31 = some (.iload_n 2, 1, 0, 0, 0, 0, 0) := (pg_107 31).trans rfl
theorem f_107_32 : fe0 107 32 = some (.ireturn, 1, 0, 0, 0, 0, 0) := (pg_107 32).trans rfl
theorem q_107_0 (d : Nat) (l0 : Nat) (x1 : Int32) (μ : aMem) : Rn (d + 1) 107 (0, [.ref l0, .int x1, un], [], μ) = (cI d 122 [.int x1, .int 0, .int 2] μ).bind fun p1 => if p1.1 = 0 then (some (some (.int (-1000000001)), p1.2)) else (if (mS p1.2 l0).1 = 8 then (if (mS p1.2 (mR p1.2 l0 0)).1 = 2 then ((rdI p1.2 (mR p1.2 (mR p1.2 l0 0) 5) x1).bind fun v5 => if 0 ≤ v5 then (some (some (.int v5), p1.2)) else (some (some (.int (-1000000005)), p1.2))) else none) else none) :=
  (e_nx f_107_0 rfl).trans ((e_nx (q := (_, _, .int 0 :: _, _)) f_107_1 rfl).trans ((e_nx (q := (_, _, .int 2 :: _, _)) f_107_2 rfl).trans ((e_cI (L := [.ref l0, .int x1, un]) (st := [.int 2, .int 0, .int x1]) (μ := μ) (L' := [.ref l0, .int x1, un]) (st' := []) f_107_3 rfl rfl).trans (m_congr fun p1 => (e_ne f_107_6 rfl).trans (b_congr (fun h2 => (e_nx (q := (_, _, .int (-1000000001) :: _, _)) f_107_9 rfl).trans (e_rt f_107_11 rfl)) (fun h2 => (e_nx f_107_12 rfl).trans ((e_gd f_107_13 rfl).trans (g_congr (Iff.rfl) (fun h3 => (e_gd f_107_16 rfl).trans (g_congr (Iff.rfl) (fun h4 => (e_nx f_107_19 rfl).trans ((e_ia (L := [.ref l0, .int x1, un]) (r := []) (μ := p1.2) f_107_20).trans (m_congr fun v5 => (e_nx (q := (_, [.ref l0, .int x1, .int v5], _, _)) f_107_21 rfl).trans ((e_nx f_107_22 rfl).trans ((e_ge f_107_23 rfl).trans (b_congr (fun h6 => (e_nx f_107_31 rfl).trans (e_rt f_107_32 rfl)) (fun h6 => (e_nx (q := (_, _, .int (-1000000005) :: _, _)) f_107_26 rfl).trans ((e_nx f_107_28 rfl).trans (e_rt f_107_32 rfl)))))))))))))))))))
theorem pg_108 (pc : Nat) : fe0 108 pc = lk prg_108 pc := rfl
theorem f_108_0 : fe0 108 0 = some (.aload_n 0, 1, 0, 0, 0, 0, 0) := (pg_108 0).trans rfl
theorem f_108_1 : fe0 108 1 = some (.iload_n 1, 1, 0, 0, 0, 0, 0) := (pg_108 1).trans rfl
theorem f_108_2 : fe0 108 2 = some (.invokevirtual 247, 3, 126, 1, 0, 8, 4117) := (pg_108 2).trans rfl
theorem f_108_5 : fe0 108 5 = some (.astore 4, 2, 0, 0, 0, 0, 0) := (pg_108 5).trans rfl
theorem f_108_7 : fe0 108 7 = some (.aload 4, 2, 0, 0, 0, 0, 0) := (pg_108 7).trans rfl
theorem f_108_9 : fe0 108 9 = some (.ifnull 12, 3, 0, 0, 0, 0, 0) := (pg_108 9).trans rfl
theorem f_108_12 : fe0 108 12 = some (.iload_n 2, 1, 0, 0, 0, 0, 0) := (pg_108 12).trans rfl
theorem f_108_13 : fe0 108 13 = some (.iconst (-1), 1, 0, 0, 0, 0, 0) := (pg_108 13).trans rfl
theorem f_108_14 : fe0 108 14 = some (.iconst 1, 1, 0, 0, 0, 0, 0) := (pg_108 14).trans rfl
theorem f_108_15 : fe0 108 15 = some (.invokestatic 72, 3, 122, 3, 2, 0, 2057) := (pg_108 15).trans rfl
theorem f_108_18 : fe0 108 18 = some (.ifCond .ne 6, 3, 0, 0, 0, 0, 0) := (pg_108 18).trans rfl
theorem f_108_21 : fe0 108 21 = some (.ldc 79, 2, 0, 0, 3294967295, 0, 2063) := (pg_108 21).trans rfl
theorem f_108_23 : fe0 108 23 = some (.ireturn, 1, 0, 0, 0, 0, 0) := (pg_108 23).trans rfl
theorem f_108_24 : fe0 108 24 = some (.iload_n 2, 1, 0, 0, 0, 0, 0) := (pg_108 24).trans rfl
theorem f_108_25 : fe0 108 25 = some (.iconst (-1), 1, 0, 0, 0, 0, 0) := (pg_108 25).trans rfl
theorem f_108_26 : fe0 108 26 = some (.if_icmp .ne 12, 3, 0, 0, 0, 0, 0) := (pg_108 26).trans rfl
theorem f_108_29 : fe0 108 29 = some (.aload 4, 2, 0, 0, 0, 0, 0) := (pg_108 29).trans rfl
theorem f_108_31 : fe0 108 31 = some (.iconst (-1), 1, 0, 0, 0, 0, 0) := (pg_108 31).trans rfl
theorem f_108_32 : fe0 108 32 = some (.iconst 0, 1, 0, 0, 0, 0, 0) := (pg_108 32).trans rfl
theorem f_108_33 : fe0 108 33 = some (.invokevirtual 251, 3, 67, 2, 0, 5, 4121) := (pg_108 33).trans rfl
theorem f_108_36 : fe0 108 36 = some (.iconst 0, 1, 0, 0, 0, 0, 0) := (pg_108 36).trans rfl
theorem f_108_37 : fe0 108 37 = some (.ireturn, 1, 0, 0, 0, 0, 0) := (pg_108 37).trans rfl
theorem f_108_38 : fe0 108 38 = some (.iload_n 3, 1, 0, 0, 0, 0, 0) := (pg_108 38).trans rfl
theorem f_108_39 : fe0 108 39 = some (.bipush 24, 2, 0, 0, 0, 0, 0) := (pg_108 39).trans rfl
theorem f_108_41 : fe0 108 41 = some (.if_icmp .le 6, 3, 0, 0, 0, 0, 0) := (pg_108 41).trans rfl
theorem f_108_44 : fe0 108 44 = some (.ldc 79, 2, 0, 0, 3294967295, 0, 2063) := (pg_108 44).trans rfl
theorem f_108_46 : fe0 108 46 = some (.ireturn, 1, 0, 0, 0, 0, 0) := (pg_108 46).trans rfl
theorem f_108_47 : fe0 108 47 = some (.iload_n 3, 1, 0, 0, 0, 0, 0) := (pg_108 47).trans rfl
theorem f_108_48 : fe0 108 48 = some (.ifCond .ge 6, 3, 0, 0, 0, 0, 0) := (pg_108 48).trans rfl
theorem f_108_51 : fe0 108 51 = some (.ldc 255, 2, 0, 0, 3294967282, 0, 4126) := (pg_108 51).trans rfl
theorem f_108_53 : fe0 108 53 = some (.ireturn, 1, 0, 0, 0, 0, 0) := (pg_108 53).trans rfl
theorem f_108_54 : fe0 108 54 = some (.aload 4, 2, 0, 0, 0, 0, 0) := (pg_108 54).trans rfl
theorem f_108_56 : fe0 108 56 = some (.iload_n 2, 1, 0, 0, 0, 0, 0) := (pg_108 56).trans rfl
theorem f_108_57 : fe0 108 57 = some (.iload_n 3, 1, 0, 0, 0, 0, 0) := (pg_108 57).trans rfl
theorem f_108_58 : fe0 108 58 = some (.invokevirtual 251, 3, 67, 2, 0, 5, 4121) := (pg_108 58).trans rfl
theorem f_108_61 : fe0 108 61 = some (.iload_n 3, 1, 0, 0, 0, 0, 0) := (pg_108 61).trans rfl
theorem f_108_62 : fe0 108 62 = some (.ireturn, 1, 0, 0, 0, 0, 0) := (pg_108 62).trans rfl
theorem q_108_0 (d : Nat) (l0 : Nat) (x1 : Int32) (x2 : Int32) (x3 : Int32) (μ : aMem) : Rn (d + 1) 108 (0, [.ref l0, .int x1, .int x2, .int x3, un], [], μ) = if (mS μ l0).1 = 8 ∧ l0 < 999999 then ((cR d 126 [.ref l0, .int x1] μ).bind fun p1 => if p1.1 ≤ 999999 then (if p1.1 = 999999 then (some (some (.int (-1000000001)), p1.2)) else ((cI d 122 [.int x2, .int (-1), .int 1] p1.2).bind fun p5 => if p5.1 = 0 then (some (some (.int (-1000000001)), p5.2)) else (if x2 = (-1) then (if (mS p5.2 p1.1).1 = 5 ∧ p1.1 < 999999 then ((cV d 67 [.ref p1.1, .int (-1), .int 0] p5.2).bind fun p8 => some (some (.int 0), p8)) else none) else (if x3 ≤ 24 then (if 0 ≤ x3 then (if (mS p5.2 p1.1).1 = 5 ∧ p1.1 < 999999 then ((cV d 67 [.ref p1.1, .int x2, .int x3] p5.2).bind fun p12 => some (some (.int x3), p12)) else none) else (some (some (.int (-1000000014)), p5.2))) else (some (some (.int (-1000000001)), p5.2)))))) else none) else none :=
  (e_nx f_108_0 rfl).trans ((e_nx f_108_1 rfl).trans ((e_gR (L := [.ref l0, .int x1, .int x2, .int x3, un]) (st := [.int x1, .ref l0]) (μ := μ) (L' := [.ref l0, .int x1, .int x2, .int x3, un]) (st' := []) f_108_2 rfl rfl).trans (g_congr (v_c2 rfl (Nat.le_of_ble_eq_true rfl)) (fun h2 => m_congr fun p1 => (e_nx (q := (_, [.ref l0, .int x1, .int x2, .int x3, .ref p1.1], _, _)) f_108_5 rfl).trans ((e_nx f_108_7 rfl).trans ((e_gb f_108_9 rfl).trans (g_congr Iff.rfl (fun h4 => b_congr (fun h3 => (e_nx (q := (_, _, .int (-1000000001) :: _, _)) f_108_21 rfl).trans (e_rt f_108_23 rfl)) (fun h3 => (e_nx f_108_12 rfl).trans ((e_nx (q := (_, _, .int (-1) :: _, _)) f_108_13 rfl).trans ((e_nx (q := (_, _, .int 1 :: _, _)) f_108_14 rfl).trans ((e_cI (L := [.ref l0, .int x1, .int x2, .int x3, .ref p1.1]) (st := [.int 1, .int (-1), .int x2]) (μ := p1.2) (L' := [.ref l0, .int x1, .int x2, .int x3, .ref p1.1]) (st' := []) f_108_15 rfl rfl).trans (m_congr fun p5 => (e_ne f_108_18 rfl).trans (b_congr (fun h6 => (e_nx (q := (_, _, .int (-1000000001) :: _, _)) f_108_21 rfl).trans (e_rt f_108_23 rfl)) (fun h6 => (e_nx f_108_24 rfl).trans ((e_nx (q := (_, _, .int (-1) :: _, _)) f_108_25 rfl).trans ((e_ne f_108_26 rfl).trans (b_congr (fun h7 => (e_nx f_108_29 rfl).trans ((e_nx (q := (_, _, .int (-1) :: _, _)) f_108_31 rfl).trans ((e_nx (q := (_, _, .int 0 :: _, _)) f_108_32 rfl).trans ((e_gV (L := [.ref l0, .int x1, .int x2, .int x3, .ref p1.1]) (st := [.int 0, .int (-1), .ref p1.1]) (μ := p5.2) (L' := [.ref l0, .int x1, .int x2, .int x3, .ref p1.1]) (st' := []) f_108_33 rfl rfl).trans (g_congr (v_c2 rfl (Nat.le_of_ble_eq_true rfl)) (fun h9 => m_congr fun p8 => (e_nx (q := (_, _, .int 0 :: _, _)) f_108_36 rfl).trans (e_rt f_108_37 rfl))))))) (fun h7 => (e_nx f_108_38 rfl).trans ((e_nx (q := (_, _, .int 24 :: _, _)) f_108_39 rfl).trans ((e_le f_108_41 rfl).trans (b_congr (fun h10 => (e_nx f_108_47 rfl).trans ((e_ge f_108_48 rfl).trans (b_congr (fun h11 => (e_nx f_108_54 rfl).trans ((e_nx f_108_56 rfl).trans ((e_nx f_108_57 rfl).trans ((e_gV (L := [.ref l0, .int x1, .int x2, .int x3, .ref p1.1]) (st := [.int x3, .int x2, .ref p1.1]) (μ := p5.2) (L' := [.ref l0, .int x1, .int x2, .int x3, .ref p1.1]) (st' := []) f_108_58 rfl rfl).trans (g_congr (v_c2 rfl (Nat.le_of_ble_eq_true rfl)) (fun h13 => m_congr fun p12 => (e_nx f_108_61 rfl).trans (e_rt f_108_62 rfl))))))) (fun h11 => (e_nx (q := (_, _, .int (-1000000014) :: _, _)) f_108_51 rfl).trans (e_rt f_108_53 rfl))))) (fun h10 => (e_nx (q := (_, _, .int (-1000000001) :: _, _)) f_108_44 rfl).trans (e_rt f_108_46 rfl))))))))))))))))))))))))
theorem pg_109 (pc : Nat) : fe0 109 pc = lk prg_109 pc := rfl
theorem f_109_0 : fe0 109 0 = some (.aload_n 0, 1, 0, 0, 0, 0, 0) := (pg_109 0).trans rfl
theorem f_109_1 : fe0 109 1 = some (.iload_n 1, 1, 0, 0, 0, 0, 0) := (pg_109 1).trans rfl
theorem f_109_2 : fe0 109 2 = some (.invokevirtual 247, 3, 126, 1, 0, 8, 4117) := (pg_109 2).trans rfl
theorem f_109_5 : fe0 109 5 = some (.astore 4, 2, 0, 0, 0, 0, 0) := (pg_109 5).trans rfl
theorem f_109_7 : fe0 109 7 = some (.aload 4, 2, 0, 0, 0, 0, 0) := (pg_109 7).trans rfl
theorem f_109_9 : fe0 109 9 = some (.ifnonnull 6, 3, 0, 0, 0, 0, 0) := (pg_109 9).trans rfl
theorem f_109_12 : fe0 109 12 = some (.ldc 79, 2, 0, 0, 3294967295, 0, 2063) := (pg_109 12).trans rfl
theorem f_109_14 : fe0 109 14 = some (.ireturn, 1, 0, 0, 0, 0, 0) := (pg_109 14).trans rfl
theorem f_109_15 : fe0 109 15 = some (.aload 4, 2, 0, 0, 0, 0, 0) := (pg_109 15).trans rfl
theorem f_109_17 : fe0 109 17 = some (.getfield 256, 3, 5, 1, 0, 0, 1216) := (pg_109 17).trans rfl
theorem f_109_20 : fe0 109 20 = some (.iconst (-1), 1, 0, 0, 0, 0, 0) := (pg_109 20).trans rfl
theorem f_109_21 : fe0 109 21 = some (.if_icmp .ne 7, 3, 0, 0, 0, 0, 0) := (pg_109 21).trans rfl
theorem f_109_24 : fe0 109 24 = some (.ldc_w 257, 3, 0, 0, 3294967285, 0, 4131) := (pg_109 24).trans rfl
theorem f_109_27 : fe0 109 27 = some (.ireturn, 1, 0, 0, 0, 0, 0) := (pg_109 27).trans rfl
theorem f_109_28 : fe0 109 28 = some (.aload 4, 2, 0, 0, 0, 0, 0) := (pg_109 28).trans rfl
theorem f_109_30 : fe0 109 30 = some (.iload_n 2, 1, 0, 0, 0, 0, 0) := (pg_109 30).trans rfl
theorem f_109_31 : fe0 109 31 = some (.invokevirtual 258, 3, 69, 1, 0, 5, 4132) := (pg_109 31).trans rfl
theorem f_109_34 : fe0 109 34 = some (.ifCond .ne 7, 3, 0, 0, 0, 0, 0) := (pg_109 34).trans rfl
theorem f_109_37 : fe0 109 37 = some (.ldc_w 261, 3, 0, 0, 3294967283, 0, 4136) := (pg_109 37).trans rfl
theorem f_109_40 : fe0 109 40 = some (.ireturn, 1, 0, 0, 0, 0, 0) := (pg_109 40).trans rfl
theorem f_109_41 : fe0 109 41 = some (.aload 4, 2, 0, 0, 0, 0, 0) := (pg_109 41).trans rfl
theorem f_109_43 : fe0 109 43 = some (.getfield 256, 3, 5, 1, 0, 0, 1216) := (pg_109 43).trans rfl
theorem f_109_46 : fe0 109 46 = some (.ifCond .ne 23, 3, 0, 0, 0, 0, 0) := (pg_109 46).trans rfl
theorem f_109_49 : fe0 109 49 = some (.iload_n 3, 1, 0, 0, 0, 0, 0) := (pg_109 49).trans rfl
theorem f_109_50 : fe0 109 50 = some (.ldc 246, 2, 0, 0, 3294967291, 0, 4112) := (pg_109 50).trans rfl
theorem f_109_52 : fe0 109 52 = some (.if_icmp .ne 6, 3, 0, 0, 0, 0, 0) := (pg_109 52).trans rfl
theorem f_109_55 : fe0 109 55 = some (.ldc 129, 2, 0, 0, 3294967284, 0, 2173) := (pg_109 55).trans rfl
theorem f_109_57 : fe0 109 57 = some (.ireturn, 1, 0, 0, 0, 0, 0) := (pg_109 57).trans rfl
theorem f_109_58 : fe0 109 58 = some (.aload 4, 2, 0, 0, 0, 0, 0) := (pg_109 58).trans rfl
theorem f_109_60 : fe0 109 60 = some (.getfield 262, 3, 5, 0, 1, 0, 1214) := (pg_109 60).trans rfl
theorem f_109_63 : fe0 109 63 = some (.iload_n 2, 1, 0, 0, 0, 0, 0) := (pg_109 63).trans rfl
theorem f_109_64 : fe0 109 64 = some (.iload_n 3, 1, 0, 0, 0, 0, 0) := (pg_109 64).trans rfl
theorem f_109_65 : fe0 109 65 = some (.i2s, 1, 0, 0, 0, 0, 0) := (pg_109 65).trans rfl
theorem f_109_66 : fe0 109 66 = some (.iastore, 1, 0, 0, 0, 0, 0) := (pg_109 66).trans rfl
theorem f_109_67 : fe0 109 67 = some (.iconst 1, 1, 0, 0, 0, 0, 0) := (pg_109 67).trans rfl
theorem f_109_68 : fe0 109 68 = some (.ireturn, 1, 0, 0, 0, 0, 0) := (pg_109 68).trans rfl
theorem f_109_69 : fe0 109 69 = some (.iload_n 3, 1, 0, 0, 0, 0, 0) := (pg_109 69).trans rfl
theorem f_109_70 : fe0 109 70 = some (.ldc 246, 2, 0, 0, 3294967291, 0, 4112) := (pg_109 70).trans rfl
theorem f_109_72 : fe0 109 72 = some (.if_icmp .eq 19, 3, 0, 0, 0, 0, 0) := (pg_109 72).trans rfl
theorem f_109_75 : fe0 109 75 = some (.iload_n 3, 1, 0, 0, 0, 0, 0) := (pg_109 75).trans rfl
theorem f_109_76 : fe0 109 76 = some (.ldc_w 265, 3, 0, 0, 4294867297, 0, 4137) := (pg_109 76).trans rfl
theorem f_109_79 : fe0 109 79 = some (.ldc_w 266, 3, 0, 0, 99999, 0, 4138) := (pg_109 79).trans rfl
theorem f_109_82 : fe0 109 82 = some (.invokestatic 72, 3, 122, 3, 2, 0, 2057) := (pg_109 82).trans rfl
theorem f_109_85 : fe0 109 85 = some (.ifCond .ne 6, 3, 0, 0, 0, 0, 0) := (pg_109 85).trans rfl
theorem f_109_88 : fe0 109 88 = some (.ldc 79, 2, 0, 0, 3294967295, 0, 2063) := (pg_109 88).trans rfl
theorem f_109_90 : fe0 109 90 = some (.ireturn, 1, 0, 0, 0, 0, 0) := (pg_109 90).trans rfl
theorem f_109_91 : fe0 109 91 = some (.aload 4, 2, 0, 0, 0, 0, 0) := (pg_109 91).trans rfl
theorem f_109_93 : fe0 109 93 = some (.getfield 262, 3, 5, 0, 1, 0, 1214) := (pg_109 93).trans rfl
theorem f_109_96 : fe0 109 96 = some (.iload_n 2, 1, 0, 0, 0, 0, 0) := (pg_109 96).trans rfl
theorem f_109_97 : fe0 109 97 = some (.iload_n 3, 1, 0, 0, 0, 0, 0) := (pg_109 97).trans rfl
theorem f_109_98 : fe0 109 98 = some (.iastore, 1, 0, 0, 0, 0, 0) := (pg_109 98).trans rfl
theorem f_109_99 : fe0 109 99 = some (.iconst 1, 1, 0, 0, 0, 0, 0) := (pg_109 99).trans rfl
theorem f_109_100 : fe0 109 100 = some (.ireturn, 1, 0, 0, 0, 0, 0) := (pg_109 100).trans rfl
theorem q_109_0 (d : Nat) (l0 : Nat) (x1 : Int32) (x2 : Int32) (x3 : Int32) (μ : aMem) : Rn (d + 1) 109 (0, [.ref l0, .int x1, .int x2, .int x3, un], [], μ) = if (mS μ l0).1 = 8 ∧ l0 < 999999 then ((cR d 126 [.ref l0, .int x1] μ).bind fun p1 => if p1.1 ≤ 999999 then (if p1.1 = 999999 then (some (some (.int (-1000000001)), p1.2)) else (if (mS p1.2 p1.1).1 = 5 then (if (mF p1.2 p1.1 1) = (-1) then (some (some (.int (-1000000011)), p1.2)) else (if (mS p1.2 p1.1).1 = 5 ∧ p1.1 < 999999 then ((cI d 69 [.ref p1.1, .int x2] p1.2).bind fun p7 => if p7.1 = 0 then (some (some (.int (-1000000013)), p7.2)) else (if (mS p7.2 p1.1).1 = 5 then (if (mF p7.2 p1.1 1) = 0 then (if x3 = (-1000000005) then (some (some (.int (-1000000012)), p7.2)) else (if (mS p7.2 (mR p7.2 p1.1 0)).1 = 10 ∧ inb x2 (mS p7.2 (mR p7.2 p1.1 0)).2 then (some (some (.int 1), setF p7.2 (mR p7.2 p1.1 0) (ix x2) ((x3 : Int32).toInt16.toInt32))) else none)) else (if x3 = (-1000000005) then (if (mS p7.2 (mR p7.2 p1.1 0)).1 = 10 ∧ inb x2 (mS p7.2 (mR p7.2 p1.1 0)).2 then (some (some (.int 1), setF p7.2 (mR p7.2 p1.1 0) (ix x2) x3)) else none) else ((cI d 122 [.int x3, .int (-99999), .int 99999] p7.2).bind fun p16 => if p16.1 = 0 then (some (some (.int (-1000000001)), p16.2)) else (if (mS p16.2 p1.1).1 = 5 then (if (mS p16.2 (mR p16.2 p1.1 0)).1 = 10 ∧ inb x2 (mS p16.2 (mR p16.2 p1.1 0)).2 then (some (some (.int 1), setF p16.2 (mR p16.2 p1.1 0) (ix x2) x3)) else none) else none)))) else none)) else none)) else none)) else none) else none :=
  (e_nx f_109_0 rfl).trans ((e_nx f_109_1 rfl).trans ((e_gR (L := [.ref l0, .int x1, .int x2, .int x3, un]) (st := [.int x1, .ref l0]) (μ := μ) (L' := [.ref l0, .int x1, .int x2, .int x3, un]) (st' := []) f_109_2 rfl rfl).trans (g_congr (v_c2 rfl (Nat.le_of_ble_eq_true rfl)) (fun h2 => m_congr fun p1 => (e_nx (q := (_, [.ref l0, .int x1, .int x2, .int x3, .ref p1.1], _, _)) f_109_5 rfl).trans ((e_nx f_109_7 rfl).trans ((e_gb f_109_9 rfl).trans (g_congr Iff.rfl (fun h4 => b_congr (fun h3 => (e_nx (q := (_, _, .int (-1000000001) :: _, _)) f_109_12 rfl).trans (e_rt f_109_14 rfl)) (fun h3 => (e_nx f_109_15 rfl).trans ((e_gd f_109_17 rfl).trans (g_congr (Iff.rfl) (fun h5 => (e_nx (q := (_, _, .int (-1) :: _, _)) f_109_20 rfl).trans ((e_ne f_109_21 rfl).trans (b_congr (fun h6 => (e_nx (q := (_, _, .int (-1000000011) :: _, _)) f_109_24 rfl).trans (e_rt f_109_27 rfl)) (fun h6 => (e_nx f_109_28 rfl).trans ((e_nx f_109_30 rfl).trans ((e_gI (L := [.ref l0, .int x1, .int x2, .int x3, .ref p1.1]) (st := [.int x2, .ref p1.1]) (μ := p1.2) (L' := [.ref l0, .int x1, .int x2, .int x3, .ref p1.1]) (st' := []) f_109_31 rfl rfl).trans (g_congr (v_c2 rfl (Nat.le_of_ble_eq_true rfl)) (fun h8 => m_congr fun p7 => (e_ne f_109_34 rfl).trans (b_congr (fun h9 => (e_nx (q := (_, _, .int (-1000000013) :: _, _)) f_109_37 rfl).trans (e_rt f_109_40 rfl)) (fun h9 => (e_nx f_109_41 rfl).trans ((e_gd f_109_43 rfl).trans (g_congr (Iff.rfl) (fun h10 => (e_ne f_109_46 rfl).trans (b_congr (fun h11 => (e_nx f_109_49 rfl).trans ((e_nx (q := (_, _, .int (-1000000005) :: _, _)) f_109_50 rfl).trans ((e_ne f_109_52 rfl).trans (b_congr (fun h12 => (e_nx (q := (_, _, .int (-1000000012) :: _, _)) f_109_55 rfl).trans (e_rt f_109_57 rfl)) (fun h12 => (e_nx f_109_58 rfl).trans ((e_gk f_109_60 (h10) rfl).trans ((e_nx f_109_63 rfl).trans ((e_nx f_109_64 rfl).trans ((e_nx f_109_65 rfl).trans ((e_gd f_109_66 rfl).trans (g_congr (Iff.rfl) (fun h13 => (e_nx (q := (_, _, .int 1 :: _, _)) f_109_67 rfl).trans (e_rt f_109_68 rfl))))))))))))) (fun h11 => (e_nx f_109_69 rfl).trans ((e_nx (q := (_, _, .int (-1000000005) :: _, _)) f_109_70 rfl).trans ((e_eq f_109_72 rfl).trans (b_congr (fun h14 => (e_nx f_109_91 rfl).trans ((e_gk f_109_93 (h10) rfl).trans ((e_nx f_109_96 rfl).trans ((e_nx f_109_97 rfl).trans ((e_gd f_109_98 rfl).trans (g_congr (Iff.rfl) (fun h15 => (e_nx (q := (_, _, .int 1 :: _, _)) f_109_99 rfl).trans (e_rt f_109_100 rfl)))))))) (fun h14 => (e_nx f_109_75 rfl).trans ((e_nx (q := (_, _, .int (-99999) :: _, _)) f_109_76 rfl).trans ((e_nx (q := (_, _, .int 99999 :: _, _)) f_109_79 rfl).trans ((e_cI (L := [.ref l0, .int x1, .int x2, .int x3, .ref p1.1]) (st := [.int 99999, .int (-99999), .int x3]) (μ := p7.2) (L' := [.ref l0, .int x1, .int x2, .int x3, .ref p1.1]) (st' := []) f_109_82 rfl rfl).trans (m_congr fun p16 => (e_ne f_109_85 rfl).trans (b_congr (fun h17 => (e_nx (q := (_, _, .int (-1000000001) :: _, _)) f_109_88 rfl).trans (e_rt f_109_90 rfl)) (fun h17 => (e_nx f_109_91 rfl).trans ((e_gd f_109_93 rfl).trans (g_congr (Iff.rfl) (fun h18 => (e_nx f_109_96 rfl).trans ((e_nx f_109_97 rfl).trans ((e_gd f_109_98 rfl).trans (g_congr (Iff.rfl) (fun h19 => (e_nx (q := (_, _, .int 1 :: _, _)) f_109_99 rfl).trans (e_rt f_109_100 rfl))))))))))))))))))))))))))))))))))))))))))))
theorem pg_110 (pc : Nat) : fe0 110 pc = lk prg_110 pc := rfl
theorem f_110_0 : fe0 110 0 = some (.aload_n 0, 1, 0, 0, 0, 0, 0) := (pg_110 0).trans rfl
theorem f_110_1 : fe0 110 1 = some (.iload_n 1, 1, 0, 0, 0, 0, 0) := (pg_110 1).trans rfl
theorem f_110_2 : fe0 110 2 = some (.invokevirtual 247, 3, 126, 1, 0, 8, 4117) := (pg_110 2).trans rfl
theorem f_110_5 : fe0 110 5 = some (.astore_n 2, 1, 0, 0, 0, 0, 0) := (pg_110 5).trans rfl
theorem f_110_6 : fe0 110 6 = some (.aload_n 2, 1, 0, 0, 0, 0, 0) := (pg_110 6).trans rfl
theorem f_110_7 : fe0 110 7 = some (.ifnonnull 6, 3, 0, 0, 0, 0, 0) := (pg_110 7).trans rfl
theorem f_110_10 : fe0 110 10 = some (.ldc 79, 2, 0, 0, 3294967295, 0, 2063) := (pg_110 10).trans rfl
theorem f_110_12 : fe0 110 12 = some (.ireturn, 1, 0, 0, 0, 0, 0) := (pg_110 12).trans rfl
theorem f_110_13 : fe0 110 13 = some (.aload_n 2, 1, 0, 0, 0, 0, 0) := (pg_110 13).trans rfl
theorem f_110_14 : fe0 110 14 = some (.getfield 256, 3, 5, 1, 0, 0, 1216) := (pg_110 14).trans rfl
theorem f_110_17 : fe0 110 17 = some (.iconst (-1), 1, 0, 0, 0, 0, 0) := (pg_110 17).trans rfl
theorem f_110_18 : fe0 110 18 = some (.if_icmp .ne 7, 3, 0, 0, 0, 0, 0) := (pg_110 18).trans rfl
theorem f_110_21 : fe0 110 21 = some (.ldc_w 257, 3, 0, 0, 3294967285, 0, 4131) := (pg_110 21).trans rfl
theorem f_110_24 : fe0 110 24 = some (.ireturn, 1, 0, 0, 0, 0, 0) := (pg_110 24).trans rfl
theorem f_110_25 : fe0 110 25 = some (.iconst 0, 1, 0, 0, 0, 0, 0) := (pg_110 25).trans rfl
theorem f_110_26 : fe0 110 26 = some (.istore_n 3, 1, 0, 0, 0, 0, 0) := (pg_110 26).trans rfl
theorem f_110_27 : fe0 110 27 = some (.aload_n 0, 1, 0, 0, 0, 0, 0) := (pg_110 27).trans rfl
theorem f_110_28 : fe0 110 28 = some (.getfield 12, 3, 8, 0, 1, 0, 2013) := (pg_110 28).trans rfl
theorem f_110_31 : fe0 110 31 = some (.getfield 151, 3, 2, 1, 0, 0, 1103) := (pg_110 31).trans rfl
theorem f_110_34 : fe0 110 34 = some (.aload_n 2, 1, 0, 0, 0, 0, 0) := (pg_110 34).trans rfl
theorem f_110_35 : fe0 110 35 = some (.getfield 267, 3, 5, 2, 0, 0, 1218) := (pg_110 35).trans rfl
theorem f_110_38 : fe0 110 38 = some (.invokestatic 152, 3, 0, 0, 8, 0, 2215) := (pg_110 38).trans rfl
theorem f_110_41 : fe0 110 41 = some (.istore 4, 2, 0, 0, 0, 0, 0) := (pg_110 41).trans rfl
theorem f_110_43 : fe0 110 43 = some (.iconst 0, 1, 0, 0, 0, 0, 0) := (pg_110 43).trans rfl
theorem f_110_44 : fe0 110 44 = some (.istore 5, 2, 0, 0, 0, 0, 0) := (pg_110 44).trans rfl
theorem f_110_46 : fe0 110 46 = some (.iload 5, 2, 0, 0, 0, 0, 0) := (pg_110 46).trans rfl
theorem f_110_48 : fe0 110 48 = some (.iload 4, 2, 0, 0, 0, 0, 0) := (pg_110 48).trans rfl
theorem f_110_50 : fe0 110 50 = some (.if_icmp .ge 73, 3, 0, 0, 0, 0, 0) := (pg_110 50).trans rfl
theorem f_110_53 : fe0 110 53 = some (.aload_n 0, 1, 0, 0, 0, 0, 0) := (pg_110 53).trans rfl
theorem f_110_54 : fe0 110 54 = some (.getfield 12, 3, 8, 0, 1, 0, 2013) := (pg_110 54).trans rfl
theorem f_110_57 : fe0 110 57 = some (.getfield 268, 3, 2, 0, 1, 0, 1100) := (pg_110 57).trans rfl
theorem f_110_60 : fe0 110 60 = some (.iload 5, 2, 0, 0, 0, 0, 0) := (pg_110 60).trans rfl
theorem f_110_62 : fe0 110 62 = some (.aaload, 1, 0, 0, 0, 0, 0) := (pg_110 62).trans rfl
theorem f_110_63 : fe0 110 63 = some (.astore 6, 2, 0, 0, 0, 0, 0) := (pg_110 63).trans rfl
theorem f_110_65 : fe0 110 65 = some (.aload_n 2, 1, 0, 0, 0, 0, 0) := (pg_110 65).trans rfl
theorem f_110_66 : fe0 110 66 = some (.iload 5, 2, 0, 0, 0, 0, 0) := (pg_110 66).trans rfl
theorem f_110_68 : fe0 110 68 = some (.invokevirtual 272, 3, 71, 1, 0, 5, 4143) := (pg_110 68).trans rfl
theorem f_110_71 : fe0 110 71 = some (.ifCond .eq 19, 3, 0, 0, 0, 0, 0) := (pg_110 71).trans rfl
theorem f_110_74 : fe0 110 74 = some (.aload_n 2, 1, 0, 0, 0, 0, 0) := (pg_110 74).trans rfl
theorem f_110_75 : fe0 110 75 = some (.getfield 262, 3, 5, 0, 1, 0, 1214) := (pg_110 75).trans rfl
theorem f_110_78 : fe0 110 78 = some (.iload 5, 2, 0, 0, 0, 0, 0) := (pg_110 78).trans rfl
theorem f_110_80 : fe0 110 80 = some (.iaload, 1, 0, 0, 0, 0, 0) := (pg_110 80).trans rfl
theorem f_110_81 : fe0 110 81 = some (.iconst 0, 1, 0, 0, 0, 0, 0) := (pg_110 81).trans rfl
theorem f_110_82 : fe0 110 82 = some (.bipush 99, 2, 0, 0, 0, 0, 0) := (pg_110 82).trans rfl
theorem f_110_84 : fe0 110 84 = some (.invokestatic 275, 3, 123, 3, 2, 0, 4149) := (pg_110 84).trans rfl
theorem f_110_87 : fe0 110 87 = some (.goto 8, 3, 0, 0, 0, 0, 0) := (pg_110 87).trans rfl
theorem f_110_90 : fe0 110 90 = some (.aload 6, 2, 0, 0, 0, 0, 0) := (pg_110 90).trans rfl
theorem f_110_92 : fe0 110 92 = some (.getfield 93, 3, 1, 1, 0, 0, 1069) := (pg_110 92).trans rfl
theorem f_110_95 : fe0 110 95 = some (.istore 7, 2, 0, 0, 0, 0, 0) := (pg_110 95).trans rfl
theorem f_110_97 : fe0 110 97 = some (.iload 7, 2, 0, 0, 0, 0, 0) := (pg_110 97).trans rfl
theorem f_110_99 : fe0 110 99 = some (.aload 6, 2, 0, 0, 0, 0, 0) := (pg_110 99).trans rfl
theorem f_110_101 : fe0 110 101 = some (.getfield 93, 3, 1, 1, 0, 0, 1069) := (pg_110 101).trans rfl
theorem f_110_104 : fe0 110 104 = some (.if_icmp .eq 13, 3, 0, 0, 0, 0, 0) := (pg_110 104).trans rfl
theorem f_110_107 : fe0 110 107 = some (.aload 6, 2, 0, 0, 0, 0, 0) := (pg_110 107).trans rfl
theorem f_110_109 : fe0 110 109 = some (.iload 7, 2, 0, 0, 0, 0, 0) := (pg_110 109).trans rfl
theorem f_110_111 : fe0 110 111 = some (.putfield 93, 3, 1, 1, 0, 0, 1069) := (pg_110 111).trans rfl
theorem f_110_114 : fe0 110 114 = some (.iinc 3 1, 3, 0, 0, 0, 0, 0) := (pg_110 114).trans rfl
theorem f_110_117 : fe0 110 117 = some (.iinc 5 1, 3, 0, 0, 0, 0, 0) := (pg_110 117).trans rfl
theorem f_110_120 : fe0 110 120 = some (.goto (-74), 3, 0, 0, 0, 0, 0) := (pg_110 120).trans rfl
theorem f_110_123 : fe0 110 123 = some (.iload_n 3, 1, 0, 0, 0, 0, 0) := (pg_110 123).trans rfl
theorem f_110_124 : fe0 110 124 = some (.ireturn, 1, 0, 0, 0, 0, 0) := (pg_110 124).trans rfl
theorem q_110_0 (d : Nat) (l0 : Nat) (x1 : Int32) (μ : aMem) : Rn (d + 1) 110 (0, [.ref l0, .int x1, un, un, un, un, un, un], [], μ) = if (mS μ l0).1 = 8 ∧ l0 < 999999 then ((cR d 126 [.ref l0, .int x1] μ).bind fun p1 => if p1.1 ≤ 999999 then (if p1.1 = 999999 then (some (some (.int (-1000000001)), p1.2)) else (if (mS p1.2 p1.1).1 = 5 then (if (mF p1.2 p1.1 1) = (-1) then (some (some (.int (-1000000011)), p1.2)) else (if (mS p1.2 l0).1 = 8 then (if (mS p1.2 (mR p1.2 l0 0)).1 = 2 then (Rn (d + 1) 110 (46, [.ref l0, .int x1, .ref p1.1, .int 0, .int (if (mF p1.2 p1.1 2) < (mF p1.2 (mR p1.2 l0 0) 1) then (mF p1.2 p1.1 2) else (mF p1.2 (mR p1.2 l0 0) 1)), .int 0, un, un], [], p1.2)) else none) else none)) else none)) else none) else none :=
  (e_nx f_110_0 rfl).trans ((e_nx f_110_1 rfl).trans ((e_gR (L := [.ref l0, .int x1, un, un, un, un, un, un]) (st := [.int x1, .ref l0]) (μ := μ) (L' := [.ref l0, .int x1, un, un, un, un, un, un]) (st' := []) f_110_2 rfl rfl).trans (g_congr (v_c2 rfl (Nat.le_of_ble_eq_true rfl)) (fun h2 => m_congr fun p1 => (e_nx (q := (_, [.ref l0, .int x1, .ref p1.1, un, un, un, un, un], _, _)) f_110_5 rfl).trans ((e_nx f_110_6 rfl).trans ((e_gb f_110_7 rfl).trans (g_congr Iff.rfl (fun h4 => b_congr (fun h3 => (e_nx (q := (_, _, .int (-1000000001) :: _, _)) f_110_10 rfl).trans (e_rt f_110_12 rfl)) (fun h3 => (e_nx f_110_13 rfl).trans ((e_gd f_110_14 rfl).trans (g_congr (Iff.rfl) (fun h5 => (e_nx (q := (_, _, .int (-1) :: _, _)) f_110_17 rfl).trans ((e_ne f_110_18 rfl).trans (b_congr (fun h6 => (e_nx (q := (_, _, .int (-1000000011) :: _, _)) f_110_21 rfl).trans (e_rt f_110_24 rfl)) (fun h6 => (e_nx (q := (_, _, .int 0 :: _, _)) f_110_25 rfl).trans ((e_nx (q := (_, [.ref l0, .int x1, .ref p1.1, .int 0, un, un, un, un], _, _)) f_110_26 rfl).trans ((e_nx f_110_27 rfl).trans ((e_gd f_110_28 rfl).trans (g_congr (Iff.rfl) (fun h7 => (e_gd f_110_31 rfl).trans (g_congr (Iff.rfl) (fun h8 => (e_nx f_110_34 rfl).trans ((e_gk f_110_35 (h5) rfl).trans ((e_nx f_110_38 rfl).trans ((e_nx (q := (_, [.ref l0, .int x1, .ref p1.1, .int 0, .int (if (mF p1.2 p1.1 2) < (mF p1.2 (mR p1.2 l0 0) 1) then (mF p1.2 p1.1 2) else (mF p1.2 (mR p1.2 l0 0) 1)), un, un, un], _, _)) f_110_41 rfl).trans ((e_nx (q := (_, _, .int 0 :: _, _)) f_110_43 rfl).trans (e_nx (q := (_, [.ref l0, .int x1, .ref p1.1, .int 0, .int (if (mF p1.2 p1.1 2) < (mF p1.2 (mR p1.2 l0 0) 1) then (mF p1.2 p1.1 2) else (mF p1.2 (mR p1.2 l0 0) 1)), .int 0, un, un], _, _)) f_110_44 rfl)))))))))))))))))))))))))))
theorem q_110_46 (d : Nat) (l0 : Nat) (x1 : Int32) (l2 : Nat) (x3 : Int32) (x4 : Int32) (x5 : Int32) (w6 : Value) (w7 : Value) (μ : aMem) : Rn (d + 1) 110 (46, [.ref l0, .int x1, .ref l2, .int x3, .int x4, .int x5, w6, w7], [], μ) = if x4 ≤ x5 then (some (some (.int x3), μ)) else (if (mS μ l0).1 = 8 then (if (mS μ (mR μ l0 0)).1 = 2 then (if 12 ≤ (mS μ (mR μ (mR μ l0 0) 0)).1 ∧ (mS μ (mR μ (mR μ l0 0) 0)).1 < 16 ∧ inb x5 (mS μ (mR μ (mR μ l0 0) 0)).2 then (if (mS μ l2).1 = 5 ∧ l2 < 999999 then ((cI d 71 [.ref l2, .int x5] μ).bind fun p5 => if p5.1 = 0 then (if (mS p5.2 (mR μ (mR μ (mR μ l0 0) 0) (ix x5))).1 = 1 then (if (mF p5.2 (mR μ (mR μ (mR μ l0 0) 0) (ix x5)) 1) = (mF p5.2 (mR μ (mR μ (mR μ l0 0) 0) (ix x5)) 1) then (Rn (d + 1) 110 (46, [.ref l0, .int x1, .ref l2, .int x3, .int x4, .int (x5 + 1), .ref (mR μ (mR μ (mR μ l0 0) 0) (ix x5)), .int (mF p5.2 (mR μ (mR μ (mR μ l0 0) 0) (ix x5)) 1)], [], p5.2)) else (Rn (d + 1) 110 (46, [.ref l0, .int x1, .ref l2, .int (x3 + 1), .int x4, .int (x5 + 1), .ref (mR μ (mR μ (mR μ l0 0) 0) (ix x5)), .int (mF p5.2 (mR μ (mR μ (mR μ l0 0) 0) (ix x5)) 1)], [], setF p5.2 (mR μ (mR μ (mR μ l0 0) 0) (ix x5)) 1 (mF p5.2 (mR μ (mR μ (mR μ l0 0) 0) (ix x5)) 1)))) else none) else (if (mS p5.2 l2).1 = 5 then ((rdI p5.2 (mR p5.2 l2 0) x5).bind fun v11 => (cI d 123 [.int v11, .int 0, .int 99] p5.2).bind fun p12 => if (mS p12.2 (mR μ (mR μ (mR μ l0 0) 0) (ix x5))).1 = 1 then (if p12.1 = (mF p12.2 (mR μ (mR μ (mR μ l0 0) 0) (ix x5)) 1) then (Rn (d + 1) 110 (46, [.ref l0, .int x1, .ref l2, .int x3, .int x4, .int (x5 + 1), .ref (mR μ (mR μ (mR μ l0 0) 0) (ix x5)), .int p12.1], [], p12.2)) else (Rn (d + 1) 110 (46, [.ref l0, .int x1, .ref l2, .int (x3 + 1), .int x4, .int (x5 + 1), .ref (mR μ (mR μ (mR μ l0 0) 0) (ix x5)), .int p12.1], [], setF p12.2 (mR μ (mR μ (mR μ l0 0) 0) (ix x5)) 1 p12.1))) else none) else none)) else none) else none) else none) else none) :=
  (e_nx f_110_46 rfl).trans ((e_nx f_110_48 rfl).trans ((e_ge f_110_50 rfl).trans (b_congr (fun h1 => (e_nx f_110_123 rfl).trans (e_rt f_110_124 rfl)) (fun h1 => (e_nx f_110_53 rfl).trans ((e_gd f_110_54 rfl).trans (g_congr (Iff.rfl) (fun h2 => (e_gd f_110_57 rfl).trans (g_congr (Iff.rfl) (fun h3 => (e_nx f_110_60 rfl).trans ((e_gd f_110_62 rfl).trans (g_congr (Iff.rfl) (fun h4 => (e_nx (q := (_, [.ref l0, .int x1, .ref l2, .int x3, .int x4, .int x5, .ref (mR μ (mR μ (mR μ l0 0) 0) (ix x5)), w7], _, _)) f_110_63 rfl).trans ((e_nx f_110_65 rfl).trans ((e_nx f_110_66 rfl).trans ((e_gI (L := [.ref l0, .int x1, .ref l2, .int x3, .int x4, .int x5, .ref (mR μ (mR μ (mR μ l0 0) 0) (ix x5)), w7]) (st := [.int x5, .ref l2]) (μ := μ) (L' := [.ref l0, .int x1, .ref l2, .int x3, .int x4, .int x5, .ref (mR μ (mR μ (mR μ l0 0) 0) (ix x5)), w7]) (st' := []) f_110_68 rfl rfl).trans (g_congr (v_c2 rfl (Nat.le_of_ble_eq_true rfl)) (fun h6 => m_congr fun p5 => (e_eq f_110_71 rfl).trans (b_congr (fun h7 => (e_nx f_110_90 rfl).trans ((e_gd f_110_92 rfl).trans (g_congr (Iff.rfl) (fun h8 => (e_nx (q := (_, [.ref l0, .int x1, .ref l2, .int x3, .int x4, .int x5, .ref (mR μ (mR μ (mR μ l0 0) 0) (ix x5)), .int (mF p5.2 (mR μ (mR μ (mR μ l0 0) 0) (ix x5)) 1)], _, _)) f_110_95 rfl).trans ((e_nx f_110_97 rfl).trans ((e_nx f_110_99 rfl).trans ((e_gk f_110_101 (h8) rfl).trans ((e_eq f_110_104 rfl).trans (b_congr (fun h9 => (e_nx (q := (_, [.ref l0, .int x1, .ref l2, .int x3, .int x4, .int (x5 + 1), .ref (mR μ (mR μ (mR μ l0 0) 0) (ix x5)), .int (mF p5.2 (mR μ (mR μ (mR μ l0 0) 0) (ix x5)) 1)], _, _)) f_110_117 rfl).trans (e_nx f_110_120 rfl)) (fun h9 => (e_nx f_110_107 rfl).trans ((e_nx f_110_109 rfl).trans ((e_gk (L := [.ref l0, .int x1, .ref l2, .int x3, .int x4, .int x5, .ref (mR μ (mR μ (mR μ l0 0) 0) (ix x5)), .int (mF p5.2 (mR μ (mR μ (mR μ l0 0) 0) (ix x5)) 1)]) (st := [.int (mF p5.2 (mR μ (mR μ (mR μ l0 0) 0) (ix x5)) 1), .ref (mR μ (mR μ (mR μ l0 0) 0) (ix x5))]) (μ := p5.2) f_110_111 ((pi_iff rfl).mpr h8) rfl).trans ((e_nx (q := (_, [.ref l0, .int x1, .ref l2, .int (x3 + 1), .int x4, .int x5, .ref (mR μ (mR μ (mR μ l0 0) 0) (ix x5)), .int (mF p5.2 (mR μ (mR μ (mR μ l0 0) 0) (ix x5)) 1)], _, _)) f_110_114 rfl).trans ((e_nx (q := (_, [.ref l0, .int x1, .ref l2, .int (x3 + 1), .int x4, .int (x5 + 1), .ref (mR μ (mR μ (mR μ l0 0) 0) (ix x5)), .int (mF p5.2 (mR μ (mR μ (mR μ l0 0) 0) (ix x5)) 1)], _, _)) f_110_117 rfl).trans (e_nx f_110_120 rfl))))))))))))))) (fun h7 => (e_nx f_110_74 rfl).trans ((e_gd f_110_75 rfl).trans (g_congr (Iff.rfl) (fun h10 => (e_nx f_110_78 rfl).trans ((e_ia (L := [.ref l0, .int x1, .ref l2, .int x3, .int x4, .int x5, .ref (mR μ (mR μ (mR μ l0 0) 0) (ix x5)), w7]) (r := []) (μ := p5.2) f_110_80).trans (m_congr fun v11 => (e_nx (q := (_, _, .int 0 :: _, _)) f_110_81 rfl).trans ((e_nx (q := (_, _, .int 99 :: _, _)) f_110_82 rfl).trans ((e_cI (L := [.ref l0, .int x1, .ref l2, .int x3, .int x4, .int x5, .ref (mR μ (mR μ (mR μ l0 0) 0) (ix x5)), w7]) (st := [.int 99, .int 0, .int v11]) (μ := p5.2) (L' := [.ref l0, .int x1, .ref l2, .int x3, .int x4, .int x5, .ref (mR μ (mR μ (mR μ l0 0) 0) (ix x5)), w7]) (st' := []) f_110_84 rfl rfl).trans (m_congr fun p12 => (e_nx f_110_87 rfl).trans ((e_nx (q := (_, [.ref l0, .int x1, .ref l2, .int x3, .int x4, .int x5, .ref (mR μ (mR μ (mR μ l0 0) 0) (ix x5)), .int p12.1], _, _)) f_110_95 rfl).trans ((e_nx f_110_97 rfl).trans ((e_nx f_110_99 rfl).trans ((e_gd f_110_101 rfl).trans (g_congr (Iff.rfl) (fun h13 => (e_eq f_110_104 rfl).trans (b_congr (fun h14 => (e_nx (q := (_, [.ref l0, .int x1, .ref l2, .int x3, .int x4, .int (x5 + 1), .ref (mR μ (mR μ (mR μ l0 0) 0) (ix x5)), .int p12.1], _, _)) f_110_117 rfl).trans (e_nx f_110_120 rfl)) (fun h14 => (e_nx f_110_107 rfl).trans ((e_nx f_110_109 rfl).trans ((e_gk (L := [.ref l0, .int x1, .ref l2, .int x3, .int x4, .int x5, .ref (mR μ (mR μ (mR μ l0 0) 0) (ix x5)), .int p12.1]) (st := [.int p12.1, .ref (mR μ (mR μ (mR μ l0 0) 0) (ix x5))]) (μ := p12.2) f_110_111 ((pi_iff rfl).mpr h13) rfl).trans ((e_nx (q := (_, [.ref l0, .int x1, .ref l2, .int (x3 + 1), .int x4, .int x5, .ref (mR μ (mR μ (mR μ l0 0) 0) (ix x5)), .int p12.1], _, _)) f_110_114 rfl).trans ((e_nx (q := (_, [.ref l0, .int x1, .ref l2, .int (x3 + 1), .int x4, .int (x5 + 1), .ref (mR μ (mR μ (mR μ l0 0) 0) (ix x5)), .int p12.1], _, _)) f_110_117 rfl).trans (e_nx f_110_120 rfl))))))))))))))))))))))))))))))))))))))))
