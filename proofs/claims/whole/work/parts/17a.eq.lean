theorem pg_0 (pc : Nat) : fe0 0 pc = lk prg_0 pc := rfl
theorem f_0_0 : fe0 0 0 = some (.aload_n 0, 1, 0, 0, 0, 0, 0) := (pg_0 0).trans rfl
theorem f_0_1 : fe0 0 1 = some (.invokespecial 3, 3, 0, 0, 6, 0, 1041) := (pg_0 1).trans rfl
theorem f_0_4 : fe0 0 4 = some (.aload_n 0, 1, 0, 0, 0, 0, 0) := (pg_0 4).trans rfl
theorem f_0_5 : fe0 0 5 = some (.bipush 20, 2, 0, 0, 0, 0, 0) := (pg_0 5).trans rfl
theorem f_0_7 : fe0 0 7 = some (.newarray .int, 2, 10, 0, 0, 0, 0) := (pg_0 7).trans rfl
theorem f_0_9 : fe0 0 9 = some (.putfield 9, 3, 0, 0, 1, 0, 1042) := (pg_0 9).trans rfl
theorem f_0_12 : fe0 0 12 = some (.aload_n 0, 1, 0, 0, 0, 0, 0) := (pg_0 12).trans rfl
theorem f_0_13 : fe0 0 13 = some (.bipush 20, 2, 0, 0, 0, 0, 0) := (pg_0 13).trans rfl
theorem f_0_15 : fe0 0 15 = some (.newarray .int, 2, 10, 0, 0, 0, 0) := (pg_0 15).trans rfl
theorem f_0_17 : fe0 0 17 = some (.putfield 15, 3, 0, 1, 1, 0, 1043) := (pg_0 17).trans rfl
theorem f_0_20 : fe0 0 20 = some (.aload_n 0, 1, 0, 0, 0, 0, 0) := (pg_0 20).trans rfl
theorem f_0_21 : fe0 0 21 = some (.bipush 20, 2, 0, 0, 0, 0, 0) := (pg_0 21).trans rfl
theorem f_0_23 : fe0 0 23 = some (.newarray .int, 2, 10, 0, 0, 0, 0) := (pg_0 23).trans rfl
theorem f_0_25 : fe0 0 25 = some (.putfield 18, 3, 0, 2, 1, 0, 1044) := (pg_0 25).trans rfl
theorem f_0_28 : fe0 0 28 = some (.return_, 1, 0, 0, 0, 0, 0) := (pg_0 28).trans rfl
theorem q_0_0 (d : Nat) (l0 : Nat) (μ : aMem) : Rn d 0 (0, [.ref l0], [], μ) = if l0 < 999999 then (if mN μ < 900000 then (if (mS (newC μ 10 (ix 20)) l0).1 = 0 ∧ (mN μ) ≤ 999999 then (Rn d 0 (12, [.ref l0], [], setR (newC μ 10 (ix 20)) l0 0 (mN μ))) else none) else none) else none :=
  (e_nx f_0_0 rfl).trans ((e_gd (L := [.ref l0]) (st := [.ref l0]) (μ := μ) f_0_1 rfl).trans (g_congr (oi_iff (Nat.le_of_ble_eq_true rfl)) (fun h1 => (e_nx f_0_4 rfl).trans ((e_nx (q := (_, _, .int 20 :: _, _)) f_0_5 rfl).trans ((e_gd (L := [.ref l0]) (st := [.int 20, .ref l0]) (μ := μ) f_0_7 rfl).trans (g_congr (na_iff (by decide)) (fun h2 => (e_gd f_0_9 rfl).trans (g_congr (pr_iff rfl) (fun h3 => rfl)))))))))
theorem q_0_12 (d : Nat) (l0 : Nat) (μ : aMem) : Rn d 0 (12, [.ref l0], [], μ) = if mN μ < 900000 then (if (mS (newC μ 10 (ix 20)) l0).1 = 0 ∧ (mN μ) ≤ 999999 then (Rn d 0 (20, [.ref l0], [], setR (newC μ 10 (ix 20)) l0 1 (mN μ))) else none) else none :=
  (e_nx f_0_12 rfl).trans ((e_nx (q := (_, _, .int 20 :: _, _)) f_0_13 rfl).trans ((e_gd (L := [.ref l0]) (st := [.int 20, .ref l0]) (μ := μ) f_0_15 rfl).trans (g_congr (na_iff (by decide)) (fun h1 => (e_gd f_0_17 rfl).trans (g_congr (pr_iff rfl) (fun h2 => rfl))))))
theorem q_0_20 (d : Nat) (l0 : Nat) (μ : aMem) : Rn d 0 (20, [.ref l0], [], μ) = if mN μ < 900000 then (if (mS (newC μ 10 (ix 20)) l0).1 = 0 ∧ (mN μ) ≤ 999999 then (Rn d 0 (28, [.ref l0], [], setR (newC μ 10 (ix 20)) l0 2 (mN μ))) else none) else none :=
  (e_nx f_0_20 rfl).trans ((e_nx (q := (_, _, .int 20 :: _, _)) f_0_21 rfl).trans ((e_gd (L := [.ref l0]) (st := [.int 20, .ref l0]) (μ := μ) f_0_23 rfl).trans (g_congr (na_iff (by decide)) (fun h1 => (e_gd f_0_25 rfl).trans (g_congr (pr_iff rfl) (fun h2 => rfl))))))
theorem q_0_28 (d : Nat) (l0 : Nat) (μ : aMem) : Rn d 0 (28, [.ref l0], [], μ) = some (none, μ) :=
  e_rt f_0_28 rfl
theorem pg_1 (pc : Nat) : fe0 1 pc = lk prg_1 pc := rfl
theorem f_1_0 : fe0 1 0 = some (.aload_n 0, 1, 0, 0, 0, 0, 0) := (pg_1 0).trans rfl
theorem f_1_1 : fe0 1 1 = some (.getfield 21, 3, 0, 3, 0, 0, 1045) := (pg_1 1).trans rfl
theorem f_1_4 : fe0 1 4 = some (.bipush 20, 2, 0, 0, 0, 0, 0) := (pg_1 4).trans rfl
theorem f_1_6 : fe0 1 6 = some (.if_icmp .lt 54, 3, 0, 0, 0, 0, 0) := (pg_1 6).trans rfl
theorem f_1_9 : fe0 1 9 = some (.aload_n 0, 1, 0, 0, 0, 0, 0) := (pg_1 9).trans rfl
theorem f_1_10 : fe0 1 10 = some (.getfield 9, 3, 0, 0, 1, 0, 1042) := (pg_1 10).trans rfl
theorem f_1_13 : fe0 1 13 = some (.iconst 1, 1, 0, 0, 0, 0, 0) := (pg_1 13).trans rfl
theorem f_1_14 : fe0 1 14 = some (.aload_n 0, 1, 0, 0, 0, 0, 0) := (pg_1 14).trans rfl
theorem f_1_15 : fe0 1 15 = some (.getfield 9, 3, 0, 0, 1, 0, 1042) := (pg_1 15).trans rfl
theorem f_1_18 : fe0 1 18 = some (.iconst 0, 1, 0, 0, 0, 0, 0) := (pg_1 18).trans rfl
theorem f_1_19 : fe0 1 19 = some (.bipush 19, 2, 0, 0, 0, 0, 0) := (pg_1 19).trans rfl
theorem f_1_21 : fe0 1 21 = some (.invokestatic 25, 3, 0, 0, 9, 0, 2194) := (pg_1 21).trans rfl
theorem f_1_24 : fe0 1 24 = some (.aload_n 0, 1, 0, 0, 0, 0, 0) := (pg_1 24).trans rfl
theorem f_1_25 : fe0 1 25 = some (.getfield 15, 3, 0, 1, 1, 0, 1043) := (pg_1 25).trans rfl
theorem f_1_28 : fe0 1 28 = some (.iconst 1, 1, 0, 0, 0, 0, 0) := (pg_1 28).trans rfl
theorem f_1_29 : fe0 1 29 = some (.aload_n 0, 1, 0, 0, 0, 0, 0) := (pg_1 29).trans rfl
theorem f_1_30 : fe0 1 30 = some (.getfield 15, 3, 0, 1, 1, 0, 1043) := (pg_1 30).trans rfl
theorem f_1_33 : fe0 1 33 = some (.iconst 0, 1, 0, 0, 0, 0, 0) := (pg_1 33).trans rfl
theorem f_1_34 : fe0 1 34 = some (.bipush 19, 2, 0, 0, 0, 0, 0) := (pg_1 34).trans rfl
theorem f_1_36 : fe0 1 36 = some (.invokestatic 25, 3, 0, 0, 9, 0, 2194) := (pg_1 36).trans rfl
theorem f_1_39 : fe0 1 39 = some (.aload_n 0, 1, 0, 0, 0, 0, 0) := (pg_1 39).trans rfl
theorem f_1_40 : fe0 1 40 = some (.getfield 18, 3, 0, 2, 1, 0, 1044) := (pg_1 40).trans rfl
theorem f_1_43 : fe0 1 43 = some (.iconst 1, 1, 0, 0, 0, 0, 0) := (pg_1 43).trans rfl
theorem f_1_44 : fe0 1 44 = some (.aload_n 0, 1, 0, 0, 0, 0, 0) := (pg_1 44).trans rfl
theorem f_1_45 : fe0 1 45 = some (.getfield 18, 3, 0, 2, 1, 0, 1044) := (pg_1 45).trans rfl
theorem f_1_48 : fe0 1 48 = some (.iconst 0, 1, 0, 0, 0, 0, 0) := (pg_1 48).trans rfl
theorem f_1_49 : fe0 1 49 = some (.bipush 19, 2, 0, 0, 0, 0, 0) := (pg_1 49).trans rfl
theorem f_1_51 : fe0 1 51 = some (.invokestatic 25, 3, 0, 0, 9, 0, 2194) := (pg_1 51).trans rfl
theorem f_1_54 : fe0 1 54 = some (.aload_n 0, 1, 0, 0, 0, 0, 0) := (pg_1 54).trans rfl
theorem f_1_55 : fe0 1 55 = some (.bipush 19, 2, 0, 0, 0, 0, 0) := (pg_1 55).trans rfl
theorem f_1_57 : fe0 1 57 = some (.putfield 21, 3, 0, 3, 0, 0, 1045) := (pg_1 57).trans rfl
theorem f_1_60 : fe0 1 60 = some (.aload_n 0, 1, 0, 0, 0, 0, 0) := (pg_1 60).trans rfl
theorem f_1_61 : fe0 1 61 = some (.getfield 9, 3, 0, 0, 1, 0, 1042) := (pg_1 61).trans rfl
theorem f_1_64 : fe0 1 64 = some (.aload_n 0, 1, 0, 0, 0, 0, 0) := (pg_1 64).trans rfl
theorem f_1_65 : fe0 1 65 = some (.getfield 21, 3, 0, 3, 0, 0, 1045) := (pg_1 65).trans rfl
theorem f_1_68 : fe0 1 68 = some (.iload_n 1, 1, 0, 0, 0, 0, 0) := (pg_1 68).trans rfl
theorem f_1_69 : fe0 1 69 = some (.iastore, 1, 0, 0, 0, 0, 0) := (pg_1 69).trans rfl
theorem f_1_70 : fe0 1 70 = some (.aload_n 0, 1, 0, 0, 0, 0, 0) := (pg_1 70).trans rfl
theorem f_1_71 : fe0 1 71 = some (.getfield 15, 3, 0, 1, 1, 0, 1043) := (pg_1 71).trans rfl
theorem f_1_74 : fe0 1 74 = some (.aload_n 0, 1, 0, 0, 0, 0, 0) := (pg_1 74).trans rfl
theorem f_1_75 : fe0 1 75 = some (.getfield 21, 3, 0, 3, 0, 0, 1045) := (pg_1 75).trans rfl
theorem f_1_78 : fe0 1 78 = some (.iload_n 2, 1, 0, 0, 0, 0, 0) := (pg_1 78).trans rfl
theorem f_1_79 : fe0 1 79 = some (.iastore, 1, 0, 0, 0, 0, 0) := (pg_1 79).trans rfl
theorem f_1_80 : fe0 1 80 = some (.aload_n 0, 1, 0, 0, 0, 0, 0) := (pg_1 80).trans rfl
theorem f_1_81 : fe0 1 81 = some (.getfield 18, 3, 0, 2, 1, 0, 1044) := (pg_1 81).trans rfl
theorem f_1_84 : fe0 1 84 = some (.aload_n 0, 1, 0, 0, 0, 0, 0) := (pg_1 84).trans rfl
theorem f_1_85 : fe0 1 85 = some (.getfield 21, 3, 0, 3, 0, 0, 1045) := (pg_1 85).trans rfl
theorem f_1_88 : fe0 1 88 = some (.iload_n 3, 1, 0, 0, 0, 0, 0) := (pg_1 88).trans rfl
theorem f_1_89 : fe0 1 89 = some (.iastore, 1, 0, 0, 0, 0, 0) := (pg_1 89).trans rfl
theorem f_1_90 : fe0 1 90 = some (.aload_n 0, 1, 0, 0, 0, 0, 0) := (pg_1 90).trans rfl
theorem f_1_91 : fe0 1 91 = some (.dup, 1, 0, 0, 0, 0, 0) := (pg_1 91).trans rfl
theorem f_1_92 : fe0 1 92 = some (.getfield 21, 3, 0, 3, 0, 0, 1045) := (pg_1 92).trans rfl
theorem f_1_95 : fe0 1 95 = some (.iconst 1, 1, 0, 0, 0, 0, 0) := (pg_1 95).trans rfl
theorem f_1_96 : fe0 1 96 = some (.iadd, 1, 0, 0, 0, 0, 0) := (pg_1 96).trans rfl
theorem f_1_97 : fe0 1 97 = some (.putfield 21, 3, 0, 3, 0, 0, 1045) := (pg_1 97).trans rfl
theorem f_1_100 : fe0 1 100 = some (.return_, 1, 0, 0, 0, 0, 0) := (pg_1 100).trans rfl
theorem q_1_0 (d : Nat) (l0 : Nat) (x1 : Int32) (x2 : Int32) (x3 : Int32) (μ : aMem) : Rn d 1 (0, [.ref l0, .int x1, .int x2, .int x3], [], μ) = if (mS μ l0).1 = 0 then (if (mF μ l0 3) < 20 then (if (mS μ (mR μ l0 0)).1 = 10 ∧ inb (mF μ l0 3) (mS μ (mR μ l0 0)).2 then (if (mS μ (mR μ l0 1)).1 = 10 ∧ inb (mF (setF μ (mR μ l0 0) (ix (mF μ l0 3)) x1) l0 3) (mS μ (mR μ l0 1)).2 then (if (mS μ (mR μ l0 2)).1 = 10 ∧ inb (mF (setF (setF μ (mR μ l0 0) (ix (mF μ l0 3)) x1) (mR μ l0 1) (ix (mF (setF μ (mR μ l0 0) (ix (mF μ l0 3)) x1) l0 3)) x2) l0 3) (mS μ (mR μ l0 2)).2 then (some (none, setF (setF (setF (setF μ (mR μ l0 0) (ix (mF μ l0 3)) x1) (mR μ l0 1) (ix (mF (setF μ (mR μ l0 0) (ix (mF μ l0 3)) x1) l0 3)) x2) (mR μ l0 2) (ix (mF (setF (setF μ (mR μ l0 0) (ix (mF μ l0 3)) x1) (mR μ l0 1) (ix (mF (setF μ (mR μ l0 0) (ix (mF μ l0 3)) x1) l0 3)) x2) l0 3)) x3) l0 3 ((mF (setF (setF (setF μ (mR μ l0 0) (ix (mF μ l0 3)) x1) (mR μ l0 1) (ix (mF (setF μ (mR μ l0 0) (ix (mF μ l0 3)) x1) l0 3)) x2) (mR μ l0 2) (ix (mF (setF (setF μ (mR μ l0 0) (ix (mF μ l0 3)) x1) (mR μ l0 1) (ix (mF (setF μ (mR μ l0 0) (ix (mF μ l0 3)) x1) l0 3)) x2) l0 3)) x3) l0 3) + 1))) else none) else none) else none) else (if (mS μ (mR μ l0 0)).1 = 10 ∧ (mS μ (mR μ l0 0)).1 = 10 ∧ ¬ (1 : Int32) < 0 ∧ ¬ (0 : Int32) < 0 ∧ ¬ (19 : Int32) < 0 ∧ ix 1 + ix 19 ≤ (mS μ (mR μ l0 0)).2 ∧ ix 0 + ix 19 ≤ (mS μ (mR μ l0 0)).2 then (if (mS μ (mR μ l0 1)).1 = 10 ∧ (mS μ (mR μ l0 1)).1 = 10 ∧ ¬ (1 : Int32) < 0 ∧ ¬ (0 : Int32) < 0 ∧ ¬ (19 : Int32) < 0 ∧ ix 1 + ix 19 ≤ (mS μ (mR μ l0 1)).2 ∧ ix 0 + ix 19 ≤ (mS μ (mR μ l0 1)).2 then (if (mS μ (mR μ l0 2)).1 = 10 ∧ (mS μ (mR μ l0 2)).1 = 10 ∧ ¬ (1 : Int32) < 0 ∧ ¬ (0 : Int32) < 0 ∧ ¬ (19 : Int32) < 0 ∧ ix 1 + ix 19 ≤ (mS μ (mR μ l0 2)).2 ∧ ix 0 + ix 19 ≤ (mS μ (mR μ l0 2)).2 then (if (mS μ (mR μ l0 0)).1 = 10 ∧ inb (mF (setF (cpyF (cpyF (cpyF μ (mR μ l0 0) (mR μ l0 0) (ix 1) (ix 0) (ix 19)) (mR μ l0 1) (mR μ l0 1) (ix 1) (ix 0) (ix 19)) (mR μ l0 2) (mR μ l0 2) (ix 1) (ix 0) (ix 19)) l0 3 19) l0 3) (mS μ (mR μ l0 0)).2 then (if (mS μ (mR μ l0 1)).1 = 10 ∧ inb (mF (setF (setF (cpyF (cpyF (cpyF μ (mR μ l0 0) (mR μ l0 0) (ix 1) (ix 0) (ix 19)) (mR μ l0 1) (mR μ l0 1) (ix 1) (ix 0) (ix 19)) (mR μ l0 2) (mR μ l0 2) (ix 1) (ix 0) (ix 19)) l0 3 19) (mR μ l0 0) (ix (mF (setF (cpyF (cpyF (cpyF μ (mR μ l0 0) (mR μ l0 0) (ix 1) (ix 0) (ix 19)) (mR μ l0 1) (mR μ l0 1) (ix 1) (ix 0) (ix 19)) (mR μ l0 2) (mR μ l0 2) (ix 1) (ix 0) (ix 19)) l0 3 19) l0 3)) x1) l0 3) (mS μ (mR μ l0 1)).2 then (if (mS μ (mR μ l0 2)).1 = 10 ∧ inb (mF (setF (setF (setF (cpyF (cpyF (cpyF μ (mR μ l0 0) (mR μ l0 0) (ix 1) (ix 0) (ix 19)) (mR μ l0 1) (mR μ l0 1) (ix 1) (ix 0) (ix 19)) (mR μ l0 2) (mR μ l0 2) (ix 1) (ix 0) (ix 19)) l0 3 19) (mR μ l0 0) (ix (mF (setF (cpyF (cpyF (cpyF μ (mR μ l0 0) (mR μ l0 0) (ix 1) (ix 0) (ix 19)) (mR μ l0 1) (mR μ l0 1) (ix 1) (ix 0) (ix 19)) (mR μ l0 2) (mR μ l0 2) (ix 1) (ix 0) (ix 19)) l0 3 19) l0 3)) x1) (mR μ l0 1) (ix (mF (setF (setF (cpyF (cpyF (cpyF μ (mR μ l0 0) (mR μ l0 0) (ix 1) (ix 0) (ix 19)) (mR μ l0 1) (mR μ l0 1) (ix 1) (ix 0) (ix 19)) (mR μ l0 2) (mR μ l0 2) (ix 1) (ix 0) (ix 19)) l0 3 19) (mR μ l0 0) (ix (mF (setF (cpyF (cpyF (cpyF μ (mR μ l0 0) (mR μ l0 0) (ix 1) (ix 0) (ix 19)) (mR μ l0 1) (mR μ l0 1) (ix 1) (ix 0) (ix 19)) (mR μ l0 2) (mR μ l0 2) (ix 1) (ix 0) (ix 19)) l0 3 19) l0 3)) x1) l0 3)) x2) l0 3) (mS μ (mR μ l0 2)).2 then (some (none, setF (setF (setF (setF (setF (cpyF (cpyF (cpyF μ (mR μ l0 0) (mR μ l0 0) (ix 1) (ix 0) (ix 19)) (mR μ l0 1) (mR μ l0 1) (ix 1) (ix 0) (ix 19)) (mR μ l0 2) (mR μ l0 2) (ix 1) (ix 0) (ix 19)) l0 3 19) (mR μ l0 0) (ix (mF (setF (cpyF (cpyF (cpyF μ (mR μ l0 0) (mR μ l0 0) (ix 1) (ix 0) (ix 19)) (mR μ l0 1) (mR μ l0 1) (ix 1) (ix 0) (ix 19)) (mR μ l0 2) (mR μ l0 2) (ix 1) (ix 0) (ix 19)) l0 3 19) l0 3)) x1) (mR μ l0 1) (ix (mF (setF (setF (cpyF (cpyF (cpyF μ (mR μ l0 0) (mR μ l0 0) (ix 1) (ix 0) (ix 19)) (mR μ l0 1) (mR μ l0 1) (ix 1) (ix 0) (ix 19)) (mR μ l0 2) (mR μ l0 2) (ix 1) (ix 0) (ix 19)) l0 3 19) (mR μ l0 0) (ix (mF (setF (cpyF (cpyF (cpyF μ (mR μ l0 0) (mR μ l0 0) (ix 1) (ix 0) (ix 19)) (mR μ l0 1) (mR μ l0 1) (ix 1) (ix 0) (ix 19)) (mR μ l0 2) (mR μ l0 2) (ix 1) (ix 0) (ix 19)) l0 3 19) l0 3)) x1) l0 3)) x2) (mR μ l0 2) (ix (mF (setF (setF (setF (cpyF (cpyF (cpyF μ (mR μ l0 0) (mR μ l0 0) (ix 1) (ix 0) (ix 19)) (mR μ l0 1) (mR μ l0 1) (ix 1) (ix 0) (ix 19)) (mR μ l0 2) (mR μ l0 2) (ix 1) (ix 0) (ix 19)) l0 3 19) (mR μ l0 0) (ix (mF (setF (cpyF (cpyF (cpyF μ (mR μ l0 0) (mR μ l0 0) (ix 1) (ix 0) (ix 19)) (mR μ l0 1) (mR μ l0 1) (ix 1) (ix 0) (ix 19)) (mR μ l0 2) (mR μ l0 2) (ix 1) (ix 0) (ix 19)) l0 3 19) l0 3)) x1) (mR μ l0 1) (ix (mF (setF (setF (cpyF (cpyF (cpyF μ (mR μ l0 0) (mR μ l0 0) (ix 1) (ix 0) (ix 19)) (mR μ l0 1) (mR μ l0 1) (ix 1) (ix 0) (ix 19)) (mR μ l0 2) (mR μ l0 2) (ix 1) (ix 0) (ix 19)) l0 3 19) (mR μ l0 0) (ix (mF (setF (cpyF (cpyF (cpyF μ (mR μ l0 0) (mR μ l0 0) (ix 1) (ix 0) (ix 19)) (mR μ l0 1) (mR μ l0 1) (ix 1) (ix 0) (ix 19)) (mR μ l0 2) (mR μ l0 2) (ix 1) (ix 0) (ix 19)) l0 3 19) l0 3)) x1) l0 3)) x2) l0 3)) x3) l0 3 ((mF (setF (setF (setF (setF (cpyF (cpyF (cpyF μ (mR μ l0 0) (mR μ l0 0) (ix 1) (ix 0) (ix 19)) (mR μ l0 1) (mR μ l0 1) (ix 1) (ix 0) (ix 19)) (mR μ l0 2) (mR μ l0 2) (ix 1) (ix 0) (ix 19)) l0 3 19) (mR μ l0 0) (ix (mF (setF (cpyF (cpyF (cpyF μ (mR μ l0 0) (mR μ l0 0) (ix 1) (ix 0) (ix 19)) (mR μ l0 1) (mR μ l0 1) (ix 1) (ix 0) (ix 19)) (mR μ l0 2) (mR μ l0 2) (ix 1) (ix 0) (ix 19)) l0 3 19) l0 3)) x1) (mR μ l0 1) (ix (mF (setF (setF (cpyF (cpyF (cpyF μ (mR μ l0 0) (mR μ l0 0) (ix 1) (ix 0) (ix 19)) (mR μ l0 1) (mR μ l0 1) (ix 1) (ix 0) (ix 19)) (mR μ l0 2) (mR μ l0 2) (ix 1) (ix 0) (ix 19)) l0 3 19) (mR μ l0 0) (ix (mF (setF (cpyF (cpyF (cpyF μ (mR μ l0 0) (mR μ l0 0) (ix 1) (ix 0) (ix 19)) (mR μ l0 1) (mR μ l0 1) (ix 1) (ix 0) (ix 19)) (mR μ l0 2) (mR μ l0 2) (ix 1) (ix 0) (ix 19)) l0 3 19) l0 3)) x1) l0 3)) x2) (mR μ l0 2) (ix (mF (setF (setF (setF (cpyF (cpyF (cpyF μ (mR μ l0 0) (mR μ l0 0) (ix 1) (ix 0) (ix 19)) (mR μ l0 1) (mR μ l0 1) (ix 1) (ix 0) (ix 19)) (mR μ l0 2) (mR μ l0 2) (ix 1) (ix 0) (ix 19)) l0 3 19) (mR μ l0 0) (ix (mF (setF (cpyF (cpyF (cpyF μ (mR μ l0 0) (mR μ l0 0) (ix 1) (ix 0) (ix 19)) (mR μ l0 1) (mR μ l0 1) (ix 1) (ix 0) (ix 19)) (mR μ l0 2) (mR μ l0 2) (ix 1) (ix 0) (ix 19)) l0 3 19) l0 3)) x1) (mR μ l0 1) (ix (mF (setF (setF (cpyF (cpyF (cpyF μ (mR μ l0 0) (mR μ l0 0) (ix 1) (ix 0) (ix 19)) (mR μ l0 1) (mR μ l0 1) (ix 1) (ix 0) (ix 19)) (mR μ l0 2) (mR μ l0 2) (ix 1) (ix 0) (ix 19)) l0 3 19) (mR μ l0 0) (ix (mF (setF (cpyF (cpyF (cpyF μ (mR μ l0 0) (mR μ l0 0) (ix 1) (ix 0) (ix 19)) (mR μ l0 1) (mR μ l0 1) (ix 1) (ix 0) (ix 19)) (mR μ l0 2) (mR μ l0 2) (ix 1) (ix 0) (ix 19)) l0 3 19) l0 3)) x1) l0 3)) x2) l0 3)) x3) l0 3) + 1))) else none) else none) else none) else none) else none) else none)) else none :=
  (e_nx f_1_0 rfl).trans ((e_gd f_1_1 rfl).trans (g_congr (Iff.rfl) (fun h1 => (e_nx (q := (_, _, .int 20 :: _, _)) f_1_4 rfl).trans ((e_lt f_1_6 rfl).trans (b_congr (fun h2 => (e_nx f_1_60 rfl).trans ((e_gk f_1_61 (h1) rfl).trans ((e_nx f_1_64 rfl).trans ((e_gk f_1_65 (h1) rfl).trans ((e_nx f_1_68 rfl).trans ((e_gd f_1_69 rfl).trans (g_congr (Iff.rfl) (fun h3 => (e_nx f_1_70 rfl).trans ((e_gk f_1_71 (h1) rfl).trans ((e_nx f_1_74 rfl).trans ((e_gk f_1_75 (h1) rfl).trans ((e_nx f_1_78 rfl).trans ((e_gd f_1_79 rfl).trans (g_congr (Iff.rfl) (fun h4 => (e_nx f_1_80 rfl).trans ((e_gk f_1_81 (h1) rfl).trans ((e_nx f_1_84 rfl).trans ((e_gk f_1_85 (h1) rfl).trans ((e_nx f_1_88 rfl).trans ((e_gd f_1_89 rfl).trans (g_congr (Iff.rfl) (fun h5 => (e_nx f_1_90 rfl).trans ((e_nx f_1_91 rfl).trans ((e_gk f_1_92 (h1) rfl).trans ((e_nx (q := (_, _, .int 1 :: _, _)) f_1_95 rfl).trans ((e_nx f_1_96 rfl).trans ((e_gk (L := [.ref l0, .int x1, .int x2, .int x3]) (st := [.int ((mF (setF (setF (setF μ (mR μ l0 0) (ix (mF μ l0 3)) x1) (mR μ l0 1) (ix (mF (setF μ (mR μ l0 0) (ix (mF μ l0 3)) x1) l0 3)) x2) (mR μ l0 2) (ix (mF (setF (setF μ (mR μ l0 0) (ix (mF μ l0 3)) x1) (mR μ l0 1) (ix (mF (setF μ (mR μ l0 0) (ix (mF μ l0 3)) x1) l0 3)) x2) l0 3)) x3) l0 3) + 1), .ref l0]) (μ := setF (setF (setF μ (mR μ l0 0) (ix (mF μ l0 3)) x1) (mR μ l0 1) (ix (mF (setF μ (mR μ l0 0) (ix (mF μ l0 3)) x1) l0 3)) x2) (mR μ l0 2) (ix (mF (setF (setF μ (mR μ l0 0) (ix (mF μ l0 3)) x1) (mR μ l0 1) (ix (mF (setF μ (mR μ l0 0) (ix (mF μ l0 3)) x1) l0 3)) x2) l0 3)) x3) f_1_97 ((pi_iff rfl).mpr h1) rfl).trans (e_rt f_1_100 rfl)))))))))))))))))))))))))))) (fun h2 => (e_nx f_1_9 rfl).trans ((e_gk f_1_10 (h1) rfl).trans ((e_nx (q := (_, _, .int 1 :: _, _)) f_1_13 rfl).trans ((e_nx f_1_14 rfl).trans ((e_gk f_1_15 (h1) rfl).trans ((e_nx (q := (_, _, .int 0 :: _, _)) f_1_18 rfl).trans ((e_nx (q := (_, _, .int 19 :: _, _)) f_1_19 rfl).trans ((e_gd (L := [.ref l0, .int x1, .int x2, .int x3]) (st := [.int 19, .int 0, .ref (mR μ l0 0), .int 1, .ref (mR μ l0 0)]) (μ := μ) f_1_21 rfl).trans (g_congr (ac_iff (Nat.le_of_ble_eq_true rfl)) (fun h6 => (e_nx f_1_24 rfl).trans ((e_gk f_1_25 (h1) rfl).trans ((e_nx (q := (_, _, .int 1 :: _, _)) f_1_28 rfl).trans ((e_nx f_1_29 rfl).trans ((e_gk f_1_30 (h1) rfl).trans ((e_nx (q := (_, _, .int 0 :: _, _)) f_1_33 rfl).trans ((e_nx (q := (_, _, .int 19 :: _, _)) f_1_34 rfl).trans ((e_gd (L := [.ref l0, .int x1, .int x2, .int x3]) (st := [.int 19, .int 0, .ref (mR μ l0 1), .int 1, .ref (mR μ l0 1)]) (μ := cpyF μ (mR μ l0 0) (mR μ l0 0) (ix 1) (ix 0) (ix 19)) f_1_36 rfl).trans (g_congr (ac_iff (Nat.le_of_ble_eq_true rfl)) (fun h7 => (e_nx f_1_39 rfl).trans ((e_gk f_1_40 (h1) rfl).trans ((e_nx (q := (_, _, .int 1 :: _, _)) f_1_43 rfl).trans ((e_nx f_1_44 rfl).trans ((e_gk f_1_45 (h1) rfl).trans ((e_nx (q := (_, _, .int 0 :: _, _)) f_1_48 rfl).trans ((e_nx (q := (_, _, .int 19 :: _, _)) f_1_49 rfl).trans ((e_gd (L := [.ref l0, .int x1, .int x2, .int x3]) (st := [.int 19, .int 0, .ref (mR μ l0 2), .int 1, .ref (mR μ l0 2)]) (μ := cpyF (cpyF μ (mR μ l0 0) (mR μ l0 0) (ix 1) (ix 0) (ix 19)) (mR μ l0 1) (mR μ l0 1) (ix 1) (ix 0) (ix 19)) f_1_51 rfl).trans (g_congr (ac_iff (Nat.le_of_ble_eq_true rfl)) (fun h8 => (e_nx f_1_54 rfl).trans ((e_nx (q := (_, _, .int 19 :: _, _)) f_1_55 rfl).trans ((e_gk (L := [.ref l0, .int x1, .int x2, .int x3]) (st := [.int 19, .ref l0]) (μ := cpyF (cpyF (cpyF μ (mR μ l0 0) (mR μ l0 0) (ix 1) (ix 0) (ix 19)) (mR μ l0 1) (mR μ l0 1) (ix 1) (ix 0) (ix 19)) (mR μ l0 2) (mR μ l0 2) (ix 1) (ix 0) (ix 19)) f_1_57 ((pi_iff rfl).mpr h1) rfl).trans ((e_nx f_1_60 rfl).trans ((e_gk f_1_61 (h1) rfl).trans ((e_nx f_1_64 rfl).trans ((e_gk f_1_65 (h1) rfl).trans ((e_nx f_1_68 rfl).trans ((e_gd f_1_69 rfl).trans (g_congr (Iff.rfl) (fun h9 => (e_nx f_1_70 rfl).trans ((e_gk f_1_71 (h1) rfl).trans ((e_nx f_1_74 rfl).trans ((e_gk f_1_75 (h1) rfl).trans ((e_nx f_1_78 rfl).trans ((e_gd f_1_79 rfl).trans (g_congr (Iff.rfl) (fun h10 => (e_nx f_1_80 rfl).trans ((e_gk f_1_81 (h1) rfl).trans ((e_nx f_1_84 rfl).trans ((e_gk f_1_85 (h1) rfl).trans ((e_nx f_1_88 rfl).trans ((e_gd f_1_89 rfl).trans (g_congr (Iff.rfl) (fun h11 => (e_nx f_1_90 rfl).trans ((e_nx f_1_91 rfl).trans ((e_gk f_1_92 (h1) rfl).trans ((e_nx (q := (_, _, .int 1 :: _, _)) f_1_95 rfl).trans ((e_nx f_1_96 rfl).trans ((e_gk (L := [.ref l0, .int x1, .int x2, .int x3]) (st := [.int ((mF (setF (setF (setF (setF (cpyF (cpyF (cpyF μ (mR μ l0 0) (mR μ l0 0) (ix 1) (ix 0) (ix 19)) (mR μ l0 1) (mR μ l0 1) (ix 1) (ix 0) (ix 19)) (mR μ l0 2) (mR μ l0 2) (ix 1) (ix 0) (ix 19)) l0 3 19) (mR μ l0 0) (ix (mF (setF (cpyF (cpyF (cpyF μ (mR μ l0 0) (mR μ l0 0) (ix 1) (ix 0) (ix 19)) (mR μ l0 1) (mR μ l0 1) (ix 1) (ix 0) (ix 19)) (mR μ l0 2) (mR μ l0 2) (ix 1) (ix 0) (ix 19)) l0 3 19) l0 3)) x1) (mR μ l0 1) (ix (mF (setF (setF (cpyF (cpyF (cpyF μ (mR μ l0 0) (mR μ l0 0) (ix 1) (ix 0) (ix 19)) (mR μ l0 1) (mR μ l0 1) (ix 1) (ix 0) (ix 19)) (mR μ l0 2) (mR μ l0 2) (ix 1) (ix 0) (ix 19)) l0 3 19) (mR μ l0 0) (ix (mF (setF (cpyF (cpyF (cpyF μ (mR μ l0 0) (mR μ l0 0) (ix 1) (ix 0) (ix 19)) (mR μ l0 1) (mR μ l0 1) (ix 1) (ix 0) (ix 19)) (mR μ l0 2) (mR μ l0 2) (ix 1) (ix 0) (ix 19)) l0 3 19) l0 3)) x1) l0 3)) x2) (mR μ l0 2) (ix (mF (setF (setF (setF (cpyF (cpyF (cpyF μ (mR μ l0 0) (mR μ l0 0) (ix 1) (ix 0) (ix 19)) (mR μ l0 1) (mR μ l0 1) (ix 1) (ix 0) (ix 19)) (mR μ l0 2) (mR μ l0 2) (ix 1) (ix 0) (ix 19)) l0 3 19) (mR μ l0 0) (ix (mF (setF (cpyF (cpyF (cpyF μ (mR μ l0 0) (mR μ l0 0) (ix 1) (ix 0) (ix 19)) (mR μ l0 1) (mR μ l0 1) (ix 1) (ix 0) (ix 19)) (mR μ l0 2) (mR μ l0 2) (ix 1) (ix 0) (ix 19)) l0 3 19) l0 3)) x1) (mR μ l0 1) (ix (mF (setF (setF (cpyF (cpyF (cpyF μ (mR μ l0 0) (mR μ l0 0) (ix 1) (ix 0) (ix 19)) (mR μ l0 1) (mR μ l0 1) (ix 1) (ix 0) (ix 19)) (mR μ l0 2) (mR μ l0 2) (ix 1) (ix 0) (ix 19)) l0 3 19) (mR μ l0 0) (ix (mF (setF (cpyF (cpyF (cpyF μ (mR μ l0 0) (mR μ l0 0) (ix 1) (ix 0) (ix 19)) (mR μ l0 1) (mR μ l0 1) (ix 1) (ix 0) (ix 19)) (mR μ l0 2) (mR μ l0 2) (ix 1) (ix 0) (ix 19)) l0 3 19) l0 3)) x1) l0 3)) x2) l0 3)) x3) l0 3) + 1), .ref l0]) (μ := setF (setF (setF (setF (cpyF (cpyF (cpyF μ (mR μ l0 0) (mR μ l0 0) (ix 1) (ix 0) (ix 19)) (mR μ l0 1) (mR μ l0 1) (ix 1) (ix 0) (ix 19)) (mR μ l0 2) (mR μ l0 2) (ix 1) (ix 0) (ix 19)) l0 3 19) (mR μ l0 0) (ix (mF (setF (cpyF (cpyF (cpyF μ (mR μ l0 0) (mR μ l0 0) (ix 1) (ix 0) (ix 19)) (mR μ l0 1) (mR μ l0 1) (ix 1) (ix 0) (ix 19)) (mR μ l0 2) (mR μ l0 2) (ix 1) (ix 0) (ix 19)) l0 3 19) l0 3)) x1) (mR μ l0 1) (ix (mF (setF (setF (cpyF (cpyF (cpyF μ (mR μ l0 0) (mR μ l0 0) (ix 1) (ix 0) (ix 19)) (mR μ l0 1) (mR μ l0 1) (ix 1) (ix 0) (ix 19)) (mR μ l0 2) (mR μ l0 2) (ix 1) (ix 0) (ix 19)) l0 3 19) (mR μ l0 0) (ix (mF (setF (cpyF (cpyF (cpyF μ (mR μ l0 0) (mR μ l0 0) (ix 1) (ix 0) (ix 19)) (mR μ l0 1) (mR μ l0 1) (ix 1) (ix 0) (ix 19)) (mR μ l0 2) (mR μ l0 2) (ix 1) (ix 0) (ix 19)) l0 3 19) l0 3)) x1) l0 3)) x2) (mR μ l0 2) (ix (mF (setF (setF (setF (cpyF (cpyF (cpyF μ (mR μ l0 0) (mR μ l0 0) (ix 1) (ix 0) (ix 19)) (mR μ l0 1) (mR μ l0 1) (ix 1) (ix 0) (ix 19)) (mR μ l0 2) (mR μ l0 2) (ix 1) (ix 0) (ix 19)) l0 3 19) (mR μ l0 0) (ix (mF (setF (cpyF (cpyF (cpyF μ (mR μ l0 0) (mR μ l0 0) (ix 1) (ix 0) (ix 19)) (mR μ l0 1) (mR μ l0 1) (ix 1) (ix 0) (ix 19)) (mR μ l0 2) (mR μ l0 2) (ix 1) (ix 0) (ix 19)) l0 3 19) l0 3)) x1) (mR μ l0 1) (ix (mF (setF (setF (cpyF (cpyF (cpyF μ (mR μ l0 0) (mR μ l0 0) (ix 1) (ix 0) (ix 19)) (mR μ l0 1) (mR μ l0 1) (ix 1) (ix 0) (ix 19)) (mR μ l0 2) (mR μ l0 2) (ix 1) (ix 0) (ix 19)) l0 3 19) (mR μ l0 0) (ix (mF (setF (cpyF (cpyF (cpyF μ (mR μ l0 0) (mR μ l0 0) (ix 1) (ix 0) (ix 19)) (mR μ l0 1) (mR μ l0 1) (ix 1) (ix 0) (ix 19)) (mR μ l0 2) (mR μ l0 2) (ix 1) (ix 0) (ix 19)) l0 3 19) l0 3)) x1) l0 3)) x2) l0 3)) x3) f_1_97 ((pi_iff rfl).mpr h1) rfl).trans (e_rt f_1_100 rfl)))))))))))))))))))))))))))))))))))))))))))))))))))))))))))))))
theorem pg_2 (pc : Nat) : fe0 2 pc = lk prg_2 pc := rfl
theorem f_2_0 : fe0 2 0 = some (.iload_n 1, 1, 0, 0, 0, 0, 0) := (pg_2 0).trans rfl
theorem f_2_1 : fe0 2 1 = some (.ifCond .lt 17, 3, 0, 0, 0, 0, 0) := (pg_2 1).trans rfl
theorem f_2_4 : fe0 2 4 = some (.iload_n 1, 1, 0, 0, 0, 0, 0) := (pg_2 4).trans rfl
theorem f_2_5 : fe0 2 5 = some (.aload_n 0, 1, 0, 0, 0, 0, 0) := (pg_2 5).trans rfl
theorem f_2_6 : fe0 2 6 = some (.getfield 21, 3, 0, 3, 0, 0, 1045) := (pg_2 6).trans rfl
theorem f_2_9 : fe0 2 9 = some (.if_icmp .ge 9, 3, 0, 0, 0, 0, 0) := (pg_2 9).trans rfl
theorem f_2_12 : fe0 2 12 = some (.iload_n 1, 1, 0, 0, 0, 0, 0) := (pg_2 12).trans rfl
theorem f_2_13 : fe0 2 13 = some (.bipush 20, 2, 0, 0, 0, 0, 0) := (pg_2 13).trans rfl
theorem f_2_15 : fe0 2 15 = some (.if_icmp .lt 6, 3, 0, 0, 0, 0, 0) := (pg_2 15).trans rfl
theorem f_2_18 : fe0 2 18 = some (.ldc 31, 2, 0, 0, 3294967291, 0, 2205) := (pg_2 18).trans rfl
theorem f_2_20 : fe0 2 20 = some (.ireturn, 1, 0, 0, 0, 0, 0) := (pg_2 20).trans rfl
theorem f_2_21 : fe0 2 21 = some (.iload_n 2, 1, 0, 0, 0, 0, 0) := (pg_2 21).trans rfl
theorem f_2_22 : fe0 2 22 = some (.ifCond .ne 12, 3, 0, 0, 0, 0, 0) := (pg_2 22).trans rfl
theorem f_2_25 : fe0 2 25 = some (.aload_n 0, 1, 0, 0, 0, 0, 0) := (pg_2 25).trans rfl
theorem f_2_26 : fe0 2 26 = some (.getfield 9, 3, 0, 0, 1, 0, 1042) := (pg_2 26).trans rfl
theorem f_2_29 : fe0 2 29 = some (.iload_n 1, 1, 0, 0, 0, 0, 0) := (pg_2 29).trans rfl
theorem f_2_30 : fe0 2 30 = some (.iaload, 1, 0, 0, 0, 0, 0) := (pg_2 30).trans rfl
theorem f_2_31 : fe0 2 31 = some (.goto 23, 3, 0, 0, 0, 0, 0) := (pg_2 31).trans rfl
theorem f_2_34 : fe0 2 34 = some (.iload_n 2, 1, 0, 0, 0, 0, 0) := (pg_2 34).trans rfl
theorem f_2_35 : fe0 2 35 = some (.iconst 1, 1, 0, 0, 0, 0, 0) := (pg_2 35).trans rfl
theorem f_2_36 : fe0 2 36 = some (.if_icmp .ne 12, 3, 0, 0, 0, 0, 0) := (pg_2 36).trans rfl
theorem f_2_39 : fe0 2 39 = some (.aload_n 0, 1, 0, 0, 0, 0, 0) := (pg_2 39).trans rfl
theorem f_2_40 : fe0 2 40 = some (.getfield 15, 3, 0, 1, 1, 0, 1043) := (pg_2 40).trans rfl
theorem f_2_43 : fe0 2 43 = some (.iload_n 1, 1, 0, 0, 0, 0, 0) := (pg_2 43).trans rfl
theorem f_2_44 : fe0 2 44 = some (.iaload, 1, 0, 0, 0, 0, 0) := (pg_2 44).trans rfl
theorem f_2_45 : fe0 2 45 = some (.goto 9, 3, 0, 0, 0, 0, 0) := (pg_2 45).trans rfl
theorem f_2_48 : fe0 2 48 = some (.aload_n 0, 1, 0, 0, 0, 0, 0) := (pg_2 48).trans rfl
theorem f_2_49 : fe0 2 49 = some (.getfield 18, 3, 0, 2, 1, 0, 1044) := (pg_2 49).trans rfl
theorem f_2_52 : fe0 2 52 = some (.iload_n 1, 1, 0, 0, 0, 0, 0) := (pg_2 52).trans rfl
theorem f_2_53 : fe0 2 53 = some (.iaload, 1, 0, 0, 0, 0, 0) := (pg_2 53).trans rfl
theorem f_2_54 : fe0 2 54 = some (.ireturn, 1, 0, 0, 0, 0, 0) := (pg_2 54).trans rfl
theorem q_2_0 (d : Nat) (l0 : Nat) (x1 : Int32) (x2 : Int32) (μ : aMem) : Rn d 2 (0, [.ref l0, .int x1, .int x2], [], μ) = if x1 < 0 then (some (some (.int (-1000000005)), μ)) else (if (mS μ l0).1 = 0 then (if (mF μ l0 3) ≤ x1 then (some (some (.int (-1000000005)), μ)) else (if x1 < 20 then (if x2 = 0 then ((rdI μ (mR μ l0 0) x1).bind fun v6 => some (some (.int v6), μ)) else (if x2 = 1 then ((rdI μ (mR μ l0 1) x1).bind fun v8 => some (some (.int v8), μ)) else ((rdI μ (mR μ l0 2) x1).bind fun v9 => some (some (.int v9), μ)))) else (some (some (.int (-1000000005)), μ)))) else none) :=
  (e_nx f_2_0 rfl).trans ((e_lt f_2_1 rfl).trans (b_congr (fun h1 => (e_nx (q := (_, _, .int (-1000000005) :: _, _)) f_2_18 rfl).trans (e_rt f_2_20 rfl)) (fun h1 => (e_nx f_2_4 rfl).trans ((e_nx f_2_5 rfl).trans ((e_gd f_2_6 rfl).trans (g_congr (Iff.rfl) (fun h2 => (e_ge f_2_9 rfl).trans (b_congr (fun h3 => (e_nx (q := (_, _, .int (-1000000005) :: _, _)) f_2_18 rfl).trans (e_rt f_2_20 rfl)) (fun h3 => (e_nx f_2_12 rfl).trans ((e_nx (q := (_, _, .int 20 :: _, _)) f_2_13 rfl).trans ((e_lt f_2_15 rfl).trans (b_congr (fun h4 => (e_nx f_2_21 rfl).trans ((e_ne f_2_22 rfl).trans (b_congr (fun h5 => (e_nx f_2_25 rfl).trans ((e_gk f_2_26 (h2) rfl).trans ((e_nx f_2_29 rfl).trans ((e_ia (L := [.ref l0, .int x1, .int x2]) (r := []) (μ := μ) f_2_30).trans (m_congr fun v6 => (e_nx f_2_31 rfl).trans (e_rt f_2_54 rfl)))))) (fun h5 => (e_nx f_2_34 rfl).trans ((e_nx (q := (_, _, .int 1 :: _, _)) f_2_35 rfl).trans ((e_ne f_2_36 rfl).trans (b_congr (fun h7 => (e_nx f_2_39 rfl).trans ((e_gk f_2_40 (h2) rfl).trans ((e_nx f_2_43 rfl).trans ((e_ia (L := [.ref l0, .int x1, .int x2]) (r := []) (μ := μ) f_2_44).trans (m_congr fun v8 => (e_nx f_2_45 rfl).trans (e_rt f_2_54 rfl)))))) (fun h7 => (e_nx f_2_48 rfl).trans ((e_gk f_2_49 (h2) rfl).trans ((e_nx f_2_52 rfl).trans ((e_ia (L := [.ref l0, .int x1, .int x2]) (r := []) (μ := μ) f_2_53).trans (m_congr fun v9 => e_rt f_2_54 rfl)))))))))))) (fun h4 => (e_nx (q := (_, _, .int (-1000000005) :: _, _)) f_2_18 rfl).trans (e_rt f_2_20 rfl))))))))))))))
theorem pg_3 (pc : Nat) : fe0 3 pc = lk prg_3 pc := rfl
theorem f_3_0 : fe0 3 0 = some (.iconst 0, 1, 0, 0, 0, 0, 0) := (pg_3 0).trans rfl
theorem f_3_1 : fe0 3 1 = some (.istore_n 2, 1, 0, 0, 0, 0, 0) := (pg_3 1).trans rfl
theorem f_3_2 : fe0 3 2 = some (.iconst 0, 1, 0, 0, 0, 0, 0) := (pg_3 2).trans rfl
theorem f_3_3 : fe0 3 3 = some (.istore_n 3, 1, 0, 0, 0, 0, 0) := (pg_3 3).trans rfl
theorem f_3_4 : fe0 3 4 = some (.iconst 0, 1, 0, 0, 0, 0, 0) := (pg_3 4).trans rfl
theorem f_3_5 : fe0 3 5 = some (.istore 4, 2, 0, 0, 0, 0, 0) := (pg_3 5).trans rfl
theorem f_3_7 : fe0 3 7 = some (.iload 4, 2, 0, 0, 0, 0, 0) := (pg_3 7).trans rfl
theorem f_3_9 : fe0 3 9 = some (.aload_n 0, 1, 0, 0, 0, 0, 0) := (pg_3 9).trans rfl
theorem f_3_10 : fe0 3 10 = some (.getfield 21, 3, 0, 3, 0, 0, 1045) := (pg_3 10).trans rfl
theorem f_3_13 : fe0 3 13 = some (.if_icmp .ge 45, 3, 0, 0, 0, 0, 0) := (pg_3 13).trans rfl
theorem f_3_16 : fe0 3 16 = some (.iload_n 1, 1, 0, 0, 0, 0, 0) := (pg_3 16).trans rfl
theorem f_3_17 : fe0 3 17 = some (.iconst (-1), 1, 0, 0, 0, 0, 0) := (pg_3 17).trans rfl
theorem f_3_18 : fe0 3 18 = some (.if_icmp .eq 14, 3, 0, 0, 0, 0, 0) := (pg_3 18).trans rfl
theorem f_3_21 : fe0 3 21 = some (.iload_n 1, 1, 0, 0, 0, 0, 0) := (pg_3 21).trans rfl
theorem f_3_22 : fe0 3 22 = some (.aload_n 0, 1, 0, 0, 0, 0, 0) := (pg_3 22).trans rfl
theorem f_3_23 : fe0 3 23 = some (.getfield 9, 3, 0, 0, 1, 0, 1042) := (pg_3 23).trans rfl
theorem f_3_26 : fe0 3 26 = some (.iload 4, 2, 0, 0, 0, 0, 0) := (pg_3 26).trans rfl
theorem f_3_28 : fe0 3 28 = some (.iaload, 1, 0, 0, 0, 0, 0) := (pg_3 28).trans rfl
theorem f_3_29 : fe0 3 29 = some (.if_icmp .ne 23, 3, 0, 0, 0, 0, 0) := (pg_3 29).trans rfl
theorem f_3_32 : fe0 3 32 = some (.iload_n 2, 1, 0, 0, 0, 0, 0) := (pg_3 32).trans rfl
theorem f_3_33 : fe0 3 33 = some (.aload_n 0, 1, 0, 0, 0, 0, 0) := (pg_3 33).trans rfl
theorem f_3_34 : fe0 3 34 = some (.getfield 15, 3, 0, 1, 1, 0, 1043) := (pg_3 34).trans rfl
theorem f_3_37 : fe0 3 37 = some (.iload 4, 2, 0, 0, 0, 0, 0) := (pg_3 37).trans rfl
theorem f_3_39 : fe0 3 39 = some (.iaload, 1, 0, 0, 0, 0, 0) := (pg_3 39).trans rfl
theorem f_3_40 : fe0 3 40 = some (.iadd, 1, 0, 0, 0, 0, 0) := (pg_3 40).trans rfl
theorem f_3_41 : fe0 3 41 = some (.istore_n 2, 1, 0, 0, 0, 0, 0) := (pg_3 41).trans rfl
theorem f_3_42 : fe0 3 42 = some (.iload_n 3, 1, 0, 0, 0, 0, 0) := (pg_3 42).trans rfl
theorem f_3_43 : fe0 3 43 = some (.aload_n 0, 1, 0, 0, 0, 0, 0) := (pg_3 43).trans rfl
theorem f_3_44 : fe0 3 44 = some (.getfield 18, 3, 0, 2, 1, 0, 1044) := (pg_3 44).trans rfl
theorem f_3_47 : fe0 3 47 = some (.iload 4, 2, 0, 0, 0, 0, 0) := (pg_3 47).trans rfl
theorem f_3_49 : fe0 3 49 = some (.iaload, 1, 0, 0, 0, 0, 0) := (pg_3 49).trans rfl
theorem f_3_50 : fe0 3 50 = some (.iadd, 1, 0, 0, 0, 0, 0) := (pg_3 50).trans rfl
theorem f_3_51 : fe0 3 51 = some (.istore_n 3, 1, 0, 0, 0, 0, 0) := (pg_3 51).trans rfl
theorem f_3_52 : fe0 3 52 = some (.iinc 4 1, 3, 0, 0, 0, 0, 0) := (pg_3 52).trans rfl
theorem f_3_55 : fe0 3 55 = some (.goto (-48), 3, 0, 0, 0, 0, 0) := (pg_3 55).trans rfl
theorem f_3_58 : fe0 3 58 = some (.iload_n 2, 1, 0, 0, 0, 0, 0) := (pg_3 58).trans rfl
theorem f_3_59 : fe0 3 59 = some (.ifCond .ne 8, 3, 0, 0, 0, 0, 0) := (pg_3 59).trans rfl
theorem f_3_62 : fe0 3 62 = some (.bipush 100, 2, 0, 0, 0, 0, 0) := (pg_3 62).trans rfl
theorem f_3_64 : fe0 3 64 = some (.goto 16, 3, 0, 0, 0, 0, 0) := (pg_3 64).trans rfl
theorem f_3_67 : fe0 3 67 = some (.bipush 100, 2, 0, 0, 0, 0, 0) := (pg_3 67).trans rfl
theorem f_3_69 : fe0 3 69 = some (.iload_n 3, 1, 0, 0, 0, 0, 0) := (pg_3 69).trans rfl
theorem f_3_70 : fe0 3 70 = some (.imul, 1, 0, 0, 0, 0, 0) := (pg_3 70).trans rfl
theorem f_3_71 : fe0 3 71 = some (.iload_n 2, 1, 0, 0, 0, 0, 0) := (pg_3 71).trans rfl
theorem f_3_72 : fe0 3 72 = some (.idiv, 1, 0, 0, 0, 0, 0) := (pg_3 72).trans rfl
theorem f_3_73 : fe0 3 73 = some (.iconst 1, 1, 0, 0, 0, 0, 0) := (pg_3 73).trans rfl
theorem f_3_74 : fe0 3 74 = some (.sipush 999, 3, 0, 0, 0, 0, 0) := (pg_3 74).trans rfl
theorem f_3_77 : fe0 3 77 = some (.invokestatic 32, 3, 123, 3, 4, 0, 2097) := (pg_3 77).trans rfl
theorem f_3_80 : fe0 3 80 = some (.ireturn, 1, 0, 0, 0, 0, 0) := (pg_3 80).trans rfl
theorem q_3_0 (d : Nat) (l0 : Nat) (x1 : Int32) (μ : aMem) : Rn (d + 1) 3 (0, [.ref l0, .int x1, un, un, un], [], μ) = Rn (d + 1) 3 (7, [.ref l0, .int x1, .int 0, .int 0, .int 0], [], μ) :=
  (e_nx (q := (_, _, .int 0 :: _, _)) f_3_0 rfl).trans ((e_nx (q := (_, [.ref l0, .int x1, .int 0, un, un], _, _)) f_3_1 rfl).trans ((e_nx (q := (_, _, .int 0 :: _, _)) f_3_2 rfl).trans ((e_nx (q := (_, [.ref l0, .int x1, .int 0, .int 0, un], _, _)) f_3_3 rfl).trans ((e_nx (q := (_, _, .int 0 :: _, _)) f_3_4 rfl).trans (e_nx (q := (_, [.ref l0, .int x1, .int 0, .int 0, .int 0], _, _)) f_3_5 rfl)))))
theorem q_3_7 (d : Nat) (l0 : Nat) (x1 : Int32) (x2 : Int32) (x3 : Int32) (x4 : Int32) (μ : aMem) : Rn (d + 1) 3 (7, [.ref l0, .int x1, .int x2, .int x3, .int x4], [], μ) = if (mS μ l0).1 = 0 then (if (mF μ l0 3) ≤ x4 then (if x2 = 0 then (some (some (.int 100), μ)) else (if ¬ x2 = 0 then ((cI d 123 [.int ((100 * x3) / x2), .int 1, .int 999] μ).bind fun p5 => some (some (.int p5.1), p5.2)) else none)) else (if x1 = (-1) then ((rdI μ (mR μ l0 1) x4).bind fun v7 => (rdI μ (mR μ l0 2) x4).bind fun v8 => Rn (d + 1) 3 (7, [.ref l0, .int x1, .int (x2 + v7), .int (x3 + v8), .int (x4 + 1)], [], μ)) else ((rdI μ (mR μ l0 0) x4).bind fun v9 => if x1 = v9 then ((rdI μ (mR μ l0 1) x4).bind fun v11 => (rdI μ (mR μ l0 2) x4).bind fun v12 => Rn (d + 1) 3 (7, [.ref l0, .int x1, .int (x2 + v11), .int (x3 + v12), .int (x4 + 1)], [], μ)) else (Rn (d + 1) 3 (7, [.ref l0, .int x1, .int x2, .int x3, .int (x4 + 1)], [], μ))))) else none :=
  (e_nx f_3_7 rfl).trans ((e_nx f_3_9 rfl).trans ((e_gd f_3_10 rfl).trans (g_congr (Iff.rfl) (fun h1 => (e_ge f_3_13 rfl).trans (b_congr (fun h2 => (e_nx f_3_58 rfl).trans ((e_ne f_3_59 rfl).trans (b_congr (fun h3 => (e_nx (q := (_, _, .int 100 :: _, _)) f_3_62 rfl).trans ((e_nx f_3_64 rfl).trans (e_rt f_3_80 rfl))) (fun h3 => (e_nx (q := (_, _, .int 100 :: _, _)) f_3_67 rfl).trans ((e_nx f_3_69 rfl).trans ((e_nx f_3_70 rfl).trans ((e_nx f_3_71 rfl).trans ((e_gd f_3_72 rfl).trans (g_congr (Iff.rfl) (fun h4 => (e_nx (q := (_, _, .int 1 :: _, _)) f_3_73 rfl).trans ((e_nx (q := (_, _, .int 999 :: _, _)) f_3_74 rfl).trans ((e_cI (L := [.ref l0, .int x1, .int x2, .int x3, .int x4]) (st := [.int 999, .int 1, .int ((100 * x3) / x2)]) (μ := μ) (L' := [.ref l0, .int x1, .int x2, .int x3, .int x4]) (st' := []) f_3_77 rfl rfl).trans (m_congr fun p5 => e_rt f_3_80 rfl))))))))))))) (fun h2 => (e_nx f_3_16 rfl).trans ((e_nx (q := (_, _, .int (-1) :: _, _)) f_3_17 rfl).trans ((e_eq f_3_18 rfl).trans (b_congr (fun h6 => (e_nx f_3_32 rfl).trans ((e_nx f_3_33 rfl).trans ((e_gk f_3_34 (h1) rfl).trans ((e_nx f_3_37 rfl).trans ((e_ia (L := [.ref l0, .int x1, .int x2, .int x3, .int x4]) (r := [.int x2]) (μ := μ) f_3_39).trans (m_congr fun v7 => (e_nx f_3_40 rfl).trans ((e_nx (q := (_, [.ref l0, .int x1, .int (x2 + v7), .int x3, .int x4], _, _)) f_3_41 rfl).trans ((e_nx f_3_42 rfl).trans ((e_nx f_3_43 rfl).trans ((e_gk f_3_44 (h1) rfl).trans ((e_nx f_3_47 rfl).trans ((e_ia (L := [.ref l0, .int x1, .int (x2 + v7), .int x3, .int x4]) (r := [.int x3]) (μ := μ) f_3_49).trans (m_congr fun v8 => (e_nx f_3_50 rfl).trans ((e_nx (q := (_, [.ref l0, .int x1, .int (x2 + v7), .int (x3 + v8), .int x4], _, _)) f_3_51 rfl).trans ((e_nx (q := (_, [.ref l0, .int x1, .int (x2 + v7), .int (x3 + v8), .int (x4 + 1)], _, _)) f_3_52 rfl).trans (e_nx f_3_55 rfl)))))))))))))))) (fun h6 => (e_nx f_3_21 rfl).trans ((e_nx f_3_22 rfl).trans ((e_gk f_3_23 (h1) rfl).trans ((e_nx f_3_26 rfl).trans ((e_ia (L := [.ref l0, .int x1, .int x2, .int x3, .int x4]) (r := [.int x1]) (μ := μ) f_3_28).trans (m_congr fun v9 => (e_ne f_3_29 rfl).trans (b_congr (fun h10 => (e_nx f_3_32 rfl).trans ((e_nx f_3_33 rfl).trans ((e_gk f_3_34 (h1) rfl).trans ((e_nx f_3_37 rfl).trans ((e_ia (L := [.ref l0, .int x1, .int x2, .int x3, .int x4]) (r := [.int x2]) (μ := μ) f_3_39).trans (m_congr fun v11 => (e_nx f_3_40 rfl).trans ((e_nx (q := (_, [.ref l0, .int x1, .int (x2 + v11), .int x3, .int x4], _, _)) f_3_41 rfl).trans ((e_nx f_3_42 rfl).trans ((e_nx f_3_43 rfl).trans ((e_gk f_3_44 (h1) rfl).trans ((e_nx f_3_47 rfl).trans ((e_ia (L := [.ref l0, .int x1, .int (x2 + v11), .int x3, .int x4]) (r := [.int x3]) (μ := μ) f_3_49).trans (m_congr fun v12 => (e_nx f_3_50 rfl).trans ((e_nx (q := (_, [.ref l0, .int x1, .int (x2 + v11), .int (x3 + v12), .int x4], _, _)) f_3_51 rfl).trans ((e_nx (q := (_, [.ref l0, .int x1, .int (x2 + v11), .int (x3 + v12), .int (x4 + 1)], _, _)) f_3_52 rfl).trans (e_nx f_3_55 rfl)))))))))))))))) (fun h10 => (e_nx (q := (_, [.ref l0, .int x1, .int x2, .int x3, .int (x4 + 1)], _, _)) f_3_52 rfl).trans (e_nx f_3_55 rfl))))))))))))))))))
theorem pg_4 (pc : Nat) : fe0 4 pc = lk prg_4 pc := rfl
theorem f_4_0 : fe0 4 0 = some (.aload_n 0, 1, 0, 0, 0, 0, 0) := (pg_4 0).trans rfl
theorem f_4_1 : fe0 4 1 = some (.aload_n 1, 1, 0, 0, 0, 0, 0) := (pg_4 1).trans rfl
theorem f_4_2 : fe0 4 2 = some (.getfield 21, 3, 0, 3, 0, 0, 1045) := (pg_4 2).trans rfl
theorem f_4_5 : fe0 4 5 = some (.putfield 21, 3, 0, 3, 0, 0, 1045) := (pg_4 5).trans rfl
theorem f_4_8 : fe0 4 8 = some (.aload_n 1, 1, 0, 0, 0, 0, 0) := (pg_4 8).trans rfl
theorem f_4_9 : fe0 4 9 = some (.getfield 9, 3, 0, 0, 1, 0, 1042) := (pg_4 9).trans rfl
theorem f_4_12 : fe0 4 12 = some (.iconst 0, 1, 0, 0, 0, 0, 0) := (pg_4 12).trans rfl
theorem f_4_13 : fe0 4 13 = some (.aload_n 0, 1, 0, 0, 0, 0, 0) := (pg_4 13).trans rfl
theorem f_4_14 : fe0 4 14 = some (.getfield 9, 3, 0, 0, 1, 0, 1042) := (pg_4 14).trans rfl
theorem f_4_17 : fe0 4 17 = some (.iconst 0, 1, 0, 0, 0, 0, 0) := (pg_4 17).trans rfl
theorem f_4_18 : fe0 4 18 = some (.bipush 20, 2, 0, 0, 0, 0, 0) := (pg_4 18).trans rfl
theorem f_4_20 : fe0 4 20 = some (.invokestatic 25, 3, 0, 0, 9, 0, 2194) := (pg_4 20).trans rfl
theorem f_4_23 : fe0 4 23 = some (.aload_n 1, 1, 0, 0, 0, 0, 0) := (pg_4 23).trans rfl
theorem f_4_24 : fe0 4 24 = some (.getfield 15, 3, 0, 1, 1, 0, 1043) := (pg_4 24).trans rfl
theorem f_4_27 : fe0 4 27 = some (.iconst 0, 1, 0, 0, 0, 0, 0) := (pg_4 27).trans rfl
theorem f_4_28 : fe0 4 28 = some (.aload_n 0, 1, 0, 0, 0, 0, 0) := (pg_4 28).trans rfl
theorem f_4_29 : fe0 4 29 = some (.getfield 15, 3, 0, 1, 1, 0, 1043) := (pg_4 29).trans rfl
theorem f_4_32 : fe0 4 32 = some (.iconst 0, 1, 0, 0, 0, 0, 0) := (pg_4 32).trans rfl
theorem f_4_33 : fe0 4 33 = some (.bipush 20, 2, 0, 0, 0, 0, 0) := (pg_4 33).trans rfl
theorem f_4_35 : fe0 4 35 = some (.invokestatic 25, 3, 0, 0, 9, 0, 2194) := (pg_4 35).trans rfl
theorem f_4_38 : fe0 4 38 = some (.aload_n 1, 1, 0, 0, 0, 0, 0) := (pg_4 38).trans rfl
theorem f_4_39 : fe0 4 39 = some (.getfield 18, 3, 0, 2, 1, 0, 1044) := (pg_4 39).trans rfl
theorem f_4_42 : fe0 4 42 = some (.iconst 0, 1, 0, 0, 0, 0, 0) := (pg_4 42).trans rfl
theorem f_4_43 : fe0 4 43 = some (.aload_n 0, 1, 0, 0, 0, 0, 0) := (pg_4 43).trans rfl
theorem f_4_44 : fe0 4 44 = some (.getfield 18, 3, 0, 2, 1, 0, 1044) := (pg_4 44).trans rfl
theorem f_4_47 : fe0 4 47 = some (.iconst 0, 1, 0, 0, 0, 0, 0) := (pg_4 47).trans rfl
theorem f_4_48 : fe0 4 48 = some (.bipush 20, 2, 0, 0, 0, 0, 0) := (pg_4 48).trans rfl
theorem f_4_50 : fe0 4 50 = some (.invokestatic 25, 3, 0, 0, 9, 0, 2194) := (pg_4 50).trans rfl
theorem f_4_53 : fe0 4 53 = some (.return_, 1, 0, 0, 0, 0, 0) := (pg_4 53).trans rfl
theorem q_4_0 (d : Nat) (l0 : Nat) (l1 : Nat) (μ : aMem) : Rn d 4 (0, [.ref l0, .ref l1], [], μ) = if (mS μ l1).1 = 0 then (if (mS μ l0).1 = 0 then (if (mS μ (mR μ l1 0)).1 = 10 ∧ (mS μ (mR μ l0 0)).1 = 10 ∧ ¬ (0 : Int32) < 0 ∧ ¬ (0 : Int32) < 0 ∧ ¬ (20 : Int32) < 0 ∧ ix 0 + ix 20 ≤ (mS μ (mR μ l1 0)).2 ∧ ix 0 + ix 20 ≤ (mS μ (mR μ l0 0)).2 then (if (mS μ (mR μ l1 1)).1 = 10 ∧ (mS μ (mR μ l0 1)).1 = 10 ∧ ¬ (0 : Int32) < 0 ∧ ¬ (0 : Int32) < 0 ∧ ¬ (20 : Int32) < 0 ∧ ix 0 + ix 20 ≤ (mS μ (mR μ l1 1)).2 ∧ ix 0 + ix 20 ≤ (mS μ (mR μ l0 1)).2 then (if (mS μ (mR μ l1 2)).1 = 10 ∧ (mS μ (mR μ l0 2)).1 = 10 ∧ ¬ (0 : Int32) < 0 ∧ ¬ (0 : Int32) < 0 ∧ ¬ (20 : Int32) < 0 ∧ ix 0 + ix 20 ≤ (mS μ (mR μ l1 2)).2 ∧ ix 0 + ix 20 ≤ (mS μ (mR μ l0 2)).2 then (some (none, cpyF (cpyF (cpyF (setF μ l0 3 (mF μ l1 3)) (mR μ l1 0) (mR μ l0 0) (ix 0) (ix 0) (ix 20)) (mR μ l1 1) (mR μ l0 1) (ix 0) (ix 0) (ix 20)) (mR μ l1 2) (mR μ l0 2) (ix 0) (ix 0) (ix 20))) else none) else none) else none) else none) else none :=
  (e_nx f_4_0 rfl).trans ((e_nx f_4_1 rfl).trans ((e_gd f_4_2 rfl).trans (g_congr (Iff.rfl) (fun h1 => (e_gd (L := [.ref l0, .ref l1]) (st := [.int (mF μ l1 3), .ref l0]) (μ := μ) f_4_5 rfl).trans (g_congr (pi_iff rfl) (fun h2 => (e_nx f_4_8 rfl).trans ((e_gk f_4_9 (h1) rfl).trans ((e_nx (q := (_, _, .int 0 :: _, _)) f_4_12 rfl).trans ((e_nx f_4_13 rfl).trans ((e_gk f_4_14 (h2) rfl).trans ((e_nx (q := (_, _, .int 0 :: _, _)) f_4_17 rfl).trans ((e_nx (q := (_, _, .int 20 :: _, _)) f_4_18 rfl).trans ((e_gd (L := [.ref l0, .ref l1]) (st := [.int 20, .int 0, .ref (mR μ l0 0), .int 0, .ref (mR μ l1 0)]) (μ := setF μ l0 3 (mF μ l1 3)) f_4_20 rfl).trans (g_congr (ac_iff (Nat.le_of_ble_eq_true rfl)) (fun h3 => (e_nx f_4_23 rfl).trans ((e_gk f_4_24 (h1) rfl).trans ((e_nx (q := (_, _, .int 0 :: _, _)) f_4_27 rfl).trans ((e_nx f_4_28 rfl).trans ((e_gk f_4_29 (h2) rfl).trans ((e_nx (q := (_, _, .int 0 :: _, _)) f_4_32 rfl).trans ((e_nx (q := (_, _, .int 20 :: _, _)) f_4_33 rfl).trans ((e_gd (L := [.ref l0, .ref l1]) (st := [.int 20, .int 0, .ref (mR μ l0 1), .int 0, .ref (mR μ l1 1)]) (μ := cpyF (setF μ l0 3 (mF μ l1 3)) (mR μ l1 0) (mR μ l0 0) (ix 0) (ix 0) (ix 20)) f_4_35 rfl).trans (g_congr (ac_iff (Nat.le_of_ble_eq_true rfl)) (fun h4 => (e_nx f_4_38 rfl).trans ((e_gk f_4_39 (h1) rfl).trans ((e_nx (q := (_, _, .int 0 :: _, _)) f_4_42 rfl).trans ((e_nx f_4_43 rfl).trans ((e_gk f_4_44 (h2) rfl).trans ((e_nx (q := (_, _, .int 0 :: _, _)) f_4_47 rfl).trans ((e_nx (q := (_, _, .int 20 :: _, _)) f_4_48 rfl).trans ((e_gd (L := [.ref l0, .ref l1]) (st := [.int 20, .int 0, .ref (mR μ l0 2), .int 0, .ref (mR μ l1 2)]) (μ := cpyF (cpyF (setF μ l0 3 (mF μ l1 3)) (mR μ l1 0) (mR μ l0 0) (ix 0) (ix 0) (ix 20)) (mR μ l1 1) (mR μ l0 1) (ix 0) (ix 0) (ix 20)) f_4_50 rfl).trans (g_congr (ac_iff (Nat.le_of_ble_eq_true rfl)) (fun h5 => e_rt f_4_53 rfl)))))))))))))))))))))))))))))))))
theorem pg_5 (pc : Nat) : fe0 5 pc = lk prg_5 pc := rfl
theorem f_5_0 : fe0 5 0 = some (.aload_n 0, 1, 0, 0, 0, 0, 0) := (pg_5 0).trans rfl
theorem f_5_1 : fe0 5 1 = some (.invokespecial 3, 3, 0, 0, 6, 0, 1063) := (pg_5 1).trans rfl
theorem f_5_4 : fe0 5 4 = some (.return_, 1, 0, 0, 0, 0, 0) := (pg_5 4).trans rfl
theorem q_5_0 (d : Nat) (l0 : Nat) (μ : aMem) : Rn d 5 (0, [.ref l0], [], μ) = if l0 < 999999 then (some (none, μ)) else none :=
  (e_nx f_5_0 rfl).trans ((e_gd (L := [.ref l0]) (st := [.ref l0]) (μ := μ) f_5_1 rfl).trans (g_congr (oi_iff (Nat.le_of_ble_eq_true rfl)) (fun h1 => e_rt f_5_4 rfl)))
theorem pg_6 (pc : Nat) : fe0 6 pc = lk prg_6 pc := rfl
theorem f_6_0 : fe0 6 0 = some (.aload_n 0, 1, 0, 0, 0, 0, 0) := (pg_6 0).trans rfl
theorem f_6_1 : fe0 6 1 = some (.aload_n 1, 1, 0, 0, 0, 0, 0) := (pg_6 1).trans rfl
theorem f_6_2 : fe0 6 2 = some (.getfield 9, 3, 1, 0, 0, 0, 1064) := (pg_6 2).trans rfl
theorem f_6_5 : fe0 6 5 = some (.putfield 9, 3, 1, 0, 0, 0, 1064) := (pg_6 5).trans rfl
theorem f_6_8 : fe0 6 8 = some (.aload_n 0, 1, 0, 0, 0, 0, 0) := (pg_6 8).trans rfl
theorem f_6_9 : fe0 6 9 = some (.aload_n 1, 1, 0, 0, 0, 0, 0) := (pg_6 9).trans rfl
theorem f_6_10 : fe0 6 10 = some (.getfield 15, 3, 1, 1, 0, 0, 1068) := (pg_6 10).trans rfl
theorem f_6_13 : fe0 6 13 = some (.putfield 15, 3, 1, 1, 0, 0, 1068) := (pg_6 13).trans rfl
theorem f_6_16 : fe0 6 16 = some (.aload_n 0, 1, 0, 0, 0, 0, 0) := (pg_6 16).trans rfl
theorem f_6_17 : fe0 6 17 = some (.aload_n 1, 1, 0, 0, 0, 0, 0) := (pg_6 17).trans rfl
theorem f_6_18 : fe0 6 18 = some (.getfield 18, 3, 1, 2, 0, 0, 1072) := (pg_6 18).trans rfl
theorem f_6_21 : fe0 6 21 = some (.putfield 18, 3, 1, 2, 0, 0, 1072) := (pg_6 21).trans rfl
theorem f_6_24 : fe0 6 24 = some (.aload_n 0, 1, 0, 0, 0, 0, 0) := (pg_6 24).trans rfl
theorem f_6_25 : fe0 6 25 = some (.aload_n 1, 1, 0, 0, 0, 0, 0) := (pg_6 25).trans rfl
theorem f_6_26 : fe0 6 26 = some (.getfield 21, 3, 1, 3, 0, 0, 1076) := (pg_6 26).trans rfl
theorem f_6_29 : fe0 6 29 = some (.putfield 21, 3, 1, 3, 0, 0, 1076) := (pg_6 29).trans rfl
theorem f_6_32 : fe0 6 32 = some (.aload_n 0, 1, 0, 0, 0, 0, 0) := (pg_6 32).trans rfl
theorem f_6_33 : fe0 6 33 = some (.aload_n 1, 1, 0, 0, 0, 0, 0) := (pg_6 33).trans rfl
theorem f_6_34 : fe0 6 34 = some (.getfield 24, 3, 1, 4, 0, 0, 1080) := (pg_6 34).trans rfl
theorem f_6_37 : fe0 6 37 = some (.putfield 24, 3, 1, 4, 0, 0, 1080) := (pg_6 37).trans rfl
theorem f_6_40 : fe0 6 40 = some (.return_, 1, 0, 0, 0, 0, 0) := (pg_6 40).trans rfl
theorem q_6_0 (d : Nat) (l0 : Nat) (l1 : Nat) (μ : aMem) : Rn d 6 (0, [.ref l0, .ref l1], [], μ) = if (mS μ l1).1 = 1 then (if (mS μ l0).1 = 1 then (some (none, setF (setF (setF (setF (setF μ l0 0 (mF μ l1 0)) l0 1 (mF (setF μ l0 0 (mF μ l1 0)) l1 1)) l0 2 (mF (setF (setF μ l0 0 (mF μ l1 0)) l0 1 (mF (setF μ l0 0 (mF μ l1 0)) l1 1)) l1 2)) l0 3 (mF (setF (setF (setF μ l0 0 (mF μ l1 0)) l0 1 (mF (setF μ l0 0 (mF μ l1 0)) l1 1)) l0 2 (mF (setF (setF μ l0 0 (mF μ l1 0)) l0 1 (mF (setF μ l0 0 (mF μ l1 0)) l1 1)) l1 2)) l1 3)) l0 4 (mF (setF (setF (setF (setF μ l0 0 (mF μ l1 0)) l0 1 (mF (setF μ l0 0 (mF μ l1 0)) l1 1)) l0 2 (mF (setF (setF μ l0 0 (mF μ l1 0)) l0 1 (mF (setF μ l0 0 (mF μ l1 0)) l1 1)) l1 2)) l0 3 (mF (setF (setF (setF μ l0 0 (mF μ l1 0)) l0 1 (mF (setF μ l0 0 (mF μ l1 0)) l1 1)) l0 2 (mF (setF (setF μ l0 0 (mF μ l1 0)) l0 1 (mF (setF μ l0 0 (mF μ l1 0)) l1 1)) l1 2)) l1 3)) l1 4))) else none) else none :=
  (e_nx f_6_0 rfl).trans ((e_nx f_6_1 rfl).trans ((e_gd f_6_2 rfl).trans (g_congr (Iff.rfl) (fun h1 => (e_gd (L := [.ref l0, .ref l1]) (st := [.int (mF μ l1 0), .ref l0]) (μ := μ) f_6_5 rfl).trans (g_congr (pi_iff rfl) (fun h2 => (e_nx f_6_8 rfl).trans ((e_nx f_6_9 rfl).trans ((e_gk f_6_10 (h1) rfl).trans ((e_gk (L := [.ref l0, .ref l1]) (st := [.int (mF (setF μ l0 0 (mF μ l1 0)) l1 1), .ref l0]) (μ := setF μ l0 0 (mF μ l1 0)) f_6_13 ((pi_iff rfl).mpr h2) rfl).trans ((e_nx f_6_16 rfl).trans ((e_nx f_6_17 rfl).trans ((e_gk f_6_18 (h1) rfl).trans ((e_gk (L := [.ref l0, .ref l1]) (st := [.int (mF (setF (setF μ l0 0 (mF μ l1 0)) l0 1 (mF (setF μ l0 0 (mF μ l1 0)) l1 1)) l1 2), .ref l0]) (μ := setF (setF μ l0 0 (mF μ l1 0)) l0 1 (mF (setF μ l0 0 (mF μ l1 0)) l1 1)) f_6_21 ((pi_iff rfl).mpr h2) rfl).trans ((e_nx f_6_24 rfl).trans ((e_nx f_6_25 rfl).trans ((e_gk f_6_26 (h1) rfl).trans ((e_gk (L := [.ref l0, .ref l1]) (st := [.int (mF (setF (setF (setF μ l0 0 (mF μ l1 0)) l0 1 (mF (setF μ l0 0 (mF μ l1 0)) l1 1)) l0 2 (mF (setF (setF μ l0 0 (mF μ l1 0)) l0 1 (mF (setF μ l0 0 (mF μ l1 0)) l1 1)) l1 2)) l1 3), .ref l0]) (μ := setF (setF (setF μ l0 0 (mF μ l1 0)) l0 1 (mF (setF μ l0 0 (mF μ l1 0)) l1 1)) l0 2 (mF (setF (setF μ l0 0 (mF μ l1 0)) l0 1 (mF (setF μ l0 0 (mF μ l1 0)) l1 1)) l1 2)) f_6_29 ((pi_iff rfl).mpr h2) rfl).trans ((e_nx f_6_32 rfl).trans ((e_nx f_6_33 rfl).trans ((e_gk f_6_34 (h1) rfl).trans ((e_gk (L := [.ref l0, .ref l1]) (st := [.int (mF (setF (setF (setF (setF μ l0 0 (mF μ l1 0)) l0 1 (mF (setF μ l0 0 (mF μ l1 0)) l1 1)) l0 2 (mF (setF (setF μ l0 0 (mF μ l1 0)) l0 1 (mF (setF μ l0 0 (mF μ l1 0)) l1 1)) l1 2)) l0 3 (mF (setF (setF (setF μ l0 0 (mF μ l1 0)) l0 1 (mF (setF μ l0 0 (mF μ l1 0)) l1 1)) l0 2 (mF (setF (setF μ l0 0 (mF μ l1 0)) l0 1 (mF (setF μ l0 0 (mF μ l1 0)) l1 1)) l1 2)) l1 3)) l1 4), .ref l0]) (μ := setF (setF (setF (setF μ l0 0 (mF μ l1 0)) l0 1 (mF (setF μ l0 0 (mF μ l1 0)) l1 1)) l0 2 (mF (setF (setF μ l0 0 (mF μ l1 0)) l0 1 (mF (setF μ l0 0 (mF μ l1 0)) l1 1)) l1 2)) l0 3 (mF (setF (setF (setF μ l0 0 (mF μ l1 0)) l0 1 (mF (setF μ l0 0 (mF μ l1 0)) l1 1)) l0 2 (mF (setF (setF μ l0 0 (mF μ l1 0)) l0 1 (mF (setF μ l0 0 (mF μ l1 0)) l1 1)) l1 2)) l1 3)) f_6_37 ((pi_iff rfl).mpr h2) rfl).trans (e_rt f_6_40 rfl))))))))))))))))))))))
theorem pg_7 (pc : Nat) : fe0 7 pc = lk prg_7 pc := rfl
theorem f_7_0 : fe0 7 0 = some (.aload_n 0, 1, 0, 0, 0, 0, 0) := (pg_7 0).trans rfl
theorem f_7_1 : fe0 7 1 = some (.getfield 9, 3, 1, 0, 0, 0, 1064) := (pg_7 1).trans rfl
theorem f_7_4 : fe0 7 4 = some (.istore_n 2, 1, 0, 0, 0, 0, 0) := (pg_7 4).trans rfl
theorem f_7_5 : fe0 7 5 = some (.iconst 0, 1, 0, 0, 0, 0, 0) := (pg_7 5).trans rfl
theorem f_7_6 : fe0 7 6 = some (.istore_n 3, 1, 0, 0, 0, 0, 0) := (pg_7 6).trans rfl
theorem f_7_7 : fe0 7 7 = some (.iload_n 3, 1, 0, 0, 0, 0, 0) := (pg_7 7).trans rfl
theorem f_7_8 : fe0 7 8 = some (.getstatic 27, 3, 1, 1, 0, 0, 2171) := (pg_7 8).trans rfl
theorem f_7_11 : fe0 7 11 = some (.arraylength, 1, 0, 0, 0, 0, 0) := (pg_7 11).trans rfl
theorem f_7_12 : fe0 7 12 = some (.if_icmp .ge 34, 3, 0, 0, 0, 0, 0) := (pg_7 12).trans rfl
theorem f_7_15 : fe0 7 15 = some (.iload_n 2, 1, 0, 0, 0, 0, 0) := (pg_7 15).trans rfl
theorem f_7_16 : fe0 7 16 = some (.ifCond .lt 30, 3, 0, 0, 0, 0, 0) := (pg_7 16).trans rfl
theorem f_7_19 : fe0 7 19 = some (.iload_n 2, 1, 0, 0, 0, 0, 0) := (pg_7 19).trans rfl
theorem f_7_20 : fe0 7 20 = some (.getstatic 27, 3, 1, 1, 0, 0, 2171) := (pg_7 20).trans rfl
theorem f_7_23 : fe0 7 23 = some (.arraylength, 1, 0, 0, 0, 0, 0) := (pg_7 23).trans rfl
theorem f_7_24 : fe0 7 24 = some (.if_icmp .ge 22, 3, 0, 0, 0, 0, 0) := (pg_7 24).trans rfl
theorem f_7_27 : fe0 7 27 = some (.iload_n 2, 1, 0, 0, 0, 0, 0) := (pg_7 27).trans rfl
theorem f_7_28 : fe0 7 28 = some (.iload_n 1, 1, 0, 0, 0, 0, 0) := (pg_7 28).trans rfl
theorem f_7_29 : fe0 7 29 = some (.if_icmp .ne 5, 3, 0, 0, 0, 0, 0) := (pg_7 29).trans rfl
theorem f_7_32 : fe0 7 32 = some (.iconst 1, 1, 0, 0, 0, 0, 0) := (pg_7 32).trans rfl
theorem f_7_33 : fe0 7 33 = some (.ireturn, 1, 1, 0, 0, 0, 0) := (pg_7 33).trans rfl
theorem f_7_34 : fe0 7 34 = some (.getstatic 27, 3, 1, 1, 0, 0, 2171) := (pg_7 34).trans rfl
theorem f_7_37 : fe0 7 37 = some (.iload_n 2, 1, 0, 0, 0, 0, 0) := (pg_7 37).trans rfl
theorem f_7_38 : fe0 7 38 = some (.iaload, 1, 0, 0, 0, 0, 0) := (pg_7 38).trans rfl
theorem f_7_39 : fe0 7 39 = some (.istore_n 2, 1, 0, 0, 0, 0, 0) := (pg_7 39).trans rfl
theorem f_7_40 : fe0 7 40 = some (.iinc 3 1, 3, 0, 0, 0, 0, 0) := (pg_7 40).trans rfl
theorem f_7_43 : fe0 7 43 = some (.goto (-36), 3, 0, 0, 0, 0, 0) := (pg_7 43).trans rfl
theorem f_7_46 : fe0 7 46 = some (.iconst 0, 1, 0, 0, 0, 0, 0) := (pg_7 46).trans rfl
theorem f_7_47 : fe0 7 47 = some (.ireturn, 1, 1, 0, 0, 0, 0) := (pg_7 47).trans rfl
theorem q_7_0 (d : Nat) (l0 : Nat) (x1 : Int32) (μ : aMem) : Rn d 7 (0, [.ref l0, .int x1, un, un], [], μ) = if (mS μ l0).1 = 1 then (Rn d 7 (7, [.ref l0, .int x1, .int (mF μ l0 0), .int 0], [], μ)) else none :=
  (e_nx f_7_0 rfl).trans ((e_gd f_7_1 rfl).trans (g_congr (Iff.rfl) (fun h1 => (e_nx (q := (_, [.ref l0, .int x1, .int (mF μ l0 0), un], _, _)) f_7_4 rfl).trans ((e_nx (q := (_, _, .int 0 :: _, _)) f_7_5 rfl).trans (e_nx (q := (_, [.ref l0, .int x1, .int (mF μ l0 0), .int 0], _, _)) f_7_6 rfl)))))
theorem q_7_7 (d : Nat) (l0 : Nat) (x1 : Int32) (x2 : Int32) (x3 : Int32) (μ : aMem) : Rn d 7 (7, [.ref l0, .int x1, .int x2, .int x3], [], μ) = (rdL μ 1000001).bind fun v1 => if v1 ≤ x3 then (some (some (.int 0), μ)) else (if x2 < 0 then (some (some (.int 0), μ)) else ((rdL μ 1000001).bind fun v4 => if v4 ≤ x2 then (some (some (.int 0), μ)) else (if x2 = x1 then (some (some (.int 1), μ)) else ((rdI μ 1000001 x2).bind fun v7 => Rn d 7 (7, [.ref l0, .int x1, .int v7, .int (x3 + 1)], [], μ))))) :=
  (e_nx f_7_7 rfl).trans ((e_nx f_7_8 rfl).trans ((e_al (L := [.ref l0, .int x1, .int x2, .int x3]) (r := [.int x3]) (μ := μ) f_7_11).trans (m_congr fun v1 => (e_ge f_7_12 rfl).trans (b_congr (fun h2 => (e_nx (q := (_, _, .int 0 :: _, _)) f_7_46 rfl).trans (e_rt f_7_47 rfl)) (fun h2 => (e_nx f_7_15 rfl).trans ((e_lt f_7_16 rfl).trans (b_congr (fun h3 => (e_nx (q := (_, _, .int 0 :: _, _)) f_7_46 rfl).trans (e_rt f_7_47 rfl)) (fun h3 => (e_nx f_7_19 rfl).trans ((e_nx f_7_20 rfl).trans ((e_al (L := [.ref l0, .int x1, .int x2, .int x3]) (r := [.int x2]) (μ := μ) f_7_23).trans (m_congr fun v4 => (e_ge f_7_24 rfl).trans (b_congr (fun h5 => (e_nx (q := (_, _, .int 0 :: _, _)) f_7_46 rfl).trans (e_rt f_7_47 rfl)) (fun h5 => (e_nx f_7_27 rfl).trans ((e_nx f_7_28 rfl).trans ((e_ne f_7_29 rfl).trans (b_congr (fun h6 => (e_nx (q := (_, _, .int 1 :: _, _)) f_7_32 rfl).trans (e_rt f_7_33 rfl)) (fun h6 => (e_nx f_7_34 rfl).trans ((e_nx f_7_37 rfl).trans ((e_ia (L := [.ref l0, .int x1, .int x2, .int x3]) (r := []) (μ := μ) f_7_38).trans (m_congr fun v7 => (e_nx (q := (_, [.ref l0, .int x1, .int v7, .int x3], _, _)) f_7_39 rfl).trans ((e_nx (q := (_, [.ref l0, .int x1, .int v7, .int (x3 + 1)], _, _)) f_7_40 rfl).trans (e_nx f_7_43 rfl))))))))))))))))))))))
theorem pg_8 (pc : Nat) : fe0 8 pc = lk prg_8 pc := rfl
theorem f_8_0 : fe0 8 0 = some (.aload_n 0, 1, 0, 0, 0, 0, 0) := (pg_8 0).trans rfl
theorem f_8_1 : fe0 8 1 = some (.getfield 9, 3, 1, 0, 0, 0, 1064) := (pg_8 1).trans rfl
theorem f_8_4 : fe0 8 4 = some (.tableswitch 82 1 5 #[36, 58, 46, 66, 79], 36, 0, 0, 0, 0, 0) := (pg_8 4).trans rfl
theorem f_8_40 : fe0 8 40 = some (.aload_n 0, 1, 0, 0, 0, 0, 0) := (pg_8 40).trans rfl
theorem f_8_41 : fe0 8 41 = some (.getfield 15, 3, 1, 1, 0, 0, 1068) := (pg_8 41).trans rfl
theorem f_8_44 : fe0 8 44 = some (.aload_n 0, 1, 0, 0, 0, 0, 0) := (pg_8 44).trans rfl
theorem f_8_45 : fe0 8 45 = some (.getfield 18, 3, 1, 2, 0, 0, 1072) := (pg_8 45).trans rfl
theorem f_8_48 : fe0 8 48 = some (.iadd, 1, 0, 0, 0, 0, 0) := (pg_8 48).trans rfl
theorem f_8_49 : fe0 8 49 = some (.ireturn, 1, 0, 0, 0, 0, 0) := (pg_8 49).trans rfl
theorem f_8_50 : fe0 8 50 = some (.iconst 2, 1, 0, 0, 0, 0, 0) := (pg_8 50).trans rfl
theorem f_8_51 : fe0 8 51 = some (.aload_n 0, 1, 0, 0, 0, 0, 0) := (pg_8 51).trans rfl
theorem f_8_52 : fe0 8 52 = some (.getfield 15, 3, 1, 1, 0, 0, 1068) := (pg_8 52).trans rfl
theorem f_8_55 : fe0 8 55 = some (.aload_n 0, 1, 0, 0, 0, 0, 0) := (pg_8 55).trans rfl
theorem f_8_56 : fe0 8 56 = some (.getfield 18, 3, 1, 2, 0, 0, 1072) := (pg_8 56).trans rfl
theorem f_8_59 : fe0 8 59 = some (.iadd, 1, 0, 0, 0, 0, 0) := (pg_8 59).trans rfl
theorem f_8_60 : fe0 8 60 = some (.imul, 1, 0, 0, 0, 0, 0) := (pg_8 60).trans rfl
theorem f_8_61 : fe0 8 61 = some (.ireturn, 1, 0, 0, 0, 0, 0) := (pg_8 61).trans rfl
theorem f_8_62 : fe0 8 62 = some (.bipush 50, 2, 0, 0, 0, 0, 0) := (pg_8 62).trans rfl
theorem f_8_64 : fe0 8 64 = some (.aload_n 0, 1, 0, 0, 0, 0, 0) := (pg_8 64).trans rfl
theorem f_8_65 : fe0 8 65 = some (.getfield 15, 3, 1, 1, 0, 0, 1068) := (pg_8 65).trans rfl
theorem f_8_68 : fe0 8 68 = some (.isub, 1, 0, 0, 0, 0, 0) := (pg_8 68).trans rfl
theorem f_8_69 : fe0 8 69 = some (.ireturn, 1, 0, 0, 0, 0, 0) := (pg_8 69).trans rfl
theorem f_8_70 : fe0 8 70 = some (.bipush 50, 2, 0, 0, 0, 0, 0) := (pg_8 70).trans rfl
theorem f_8_72 : fe0 8 72 = some (.aload_n 0, 1, 0, 0, 0, 0, 0) := (pg_8 72).trans rfl
theorem f_8_73 : fe0 8 73 = some (.getfield 15, 3, 1, 1, 0, 0, 1068) := (pg_8 73).trans rfl
theorem f_8_76 : fe0 8 76 = some (.isub, 1, 0, 0, 0, 0, 0) := (pg_8 76).trans rfl
theorem f_8_77 : fe0 8 77 = some (.aload_n 0, 1, 0, 0, 0, 0, 0) := (pg_8 77).trans rfl
theorem f_8_78 : fe0 8 78 = some (.getfield 21, 3, 1, 3, 0, 0, 1076) := (pg_8 78).trans rfl
theorem f_8_81 : fe0 8 81 = some (.iadd, 1, 0, 0, 0, 0, 0) := (pg_8 81).trans rfl
theorem f_8_82 : fe0 8 82 = some (.ireturn, 1, 0, 0, 0, 0, 0) := (pg_8 82).trans rfl
theorem f_8_83 : fe0 8 83 = some (.bipush 13, 2, 0, 0, 0, 0, 0) := (pg_8 83).trans rfl
theorem f_8_85 : fe0 8 85 = some (.ireturn, 1, 0, 0, 0, 0, 0) := (pg_8 85).trans rfl
theorem f_8_86 : fe0 8 86 = some (.aload_n 0, 1, 0, 0, 0, 0, 0) := (pg_8 86).trans rfl
theorem f_8_87 : fe0 8 87 = some (.getfield 15, 3, 1, 1, 0, 0, 1068) := (pg_8 87).trans rfl
theorem f_8_90 : fe0 8 90 = some (.ireturn, 1, 0, 0, 0, 0, 0) := (pg_8 90).trans rfl
theorem q_8_0 (d : Nat) (l0 : Nat) (μ : aMem) : Rn d 8 (0, [.ref l0], [], μ) = if (mS μ l0).1 = 1 then (if (mF μ l0 0) = 1 then (some (some (.int ((mF μ l0 1) + (mF μ l0 2))), μ)) else (if (mF μ l0 0) = 2 then (some (some (.int (50 - (mF μ l0 1))), μ)) else (if (mF μ l0 0) = 3 then (some (some (.int (2 * ((mF μ l0 1) + (mF μ l0 2)))), μ)) else (if (mF μ l0 0) = 4 then (some (some (.int ((50 - (mF μ l0 1)) + (mF μ l0 3))), μ)) else (if (mF μ l0 0) = 5 then (some (some (.int 13), μ)) else (some (some (.int (mF μ l0 1)), μ))))))) else none :=
  (e_nx f_8_0 rfl).trans ((e_gd f_8_1 rfl).trans (g_congr (Iff.rfl) (fun h1 => (e_tab f_8_4 (ts := [40, 62, 50, 70, 83]) (df := 86) (lo := 1) rfl rfl rfl (by decide) (by decide)).trans (b_congr (fun _ => (e_nx f_8_40 rfl).trans ((e_gk f_8_41 (h1) rfl).trans ((e_nx f_8_44 rfl).trans ((e_gk f_8_45 (h1) rfl).trans ((e_nx f_8_48 rfl).trans (e_rt f_8_49 rfl)))))) (fun _ => b_congr (fun _ => (e_nx (q := (_, _, .int 50 :: _, _)) f_8_62 rfl).trans ((e_nx f_8_64 rfl).trans ((e_gk f_8_65 (h1) rfl).trans ((e_nx f_8_68 rfl).trans (e_rt f_8_69 rfl))))) (fun _ => b_congr (fun _ => (e_nx (q := (_, _, .int 2 :: _, _)) f_8_50 rfl).trans ((e_nx f_8_51 rfl).trans ((e_gk f_8_52 (h1) rfl).trans ((e_nx f_8_55 rfl).trans ((e_gk f_8_56 (h1) rfl).trans ((e_nx f_8_59 rfl).trans ((e_nx f_8_60 rfl).trans (e_rt f_8_61 rfl)))))))) (fun _ => b_congr (fun _ => (e_nx (q := (_, _, .int 50 :: _, _)) f_8_70 rfl).trans ((e_nx f_8_72 rfl).trans ((e_gk f_8_73 (h1) rfl).trans ((e_nx f_8_76 rfl).trans ((e_nx f_8_77 rfl).trans ((e_gk f_8_78 (h1) rfl).trans ((e_nx f_8_81 rfl).trans (e_rt f_8_82 rfl)))))))) (fun _ => b_congr (fun _ => (e_nx (q := (_, _, .int 13 :: _, _)) f_8_83 rfl).trans (e_rt f_8_85 rfl)) (fun _ => (e_nx f_8_86 rfl).trans ((e_gk f_8_87 (h1) rfl).trans (e_rt f_8_90 rfl)))))))))))
theorem pg_9 (pc : Nat) : fe0 9 pc = lk prg_9 pc := rfl
theorem f_9_0 : fe0 9 0 = some (.aload_n 0, 1, 0, 0, 0, 0, 0) := (pg_9 0).trans rfl
theorem f_9_1 : fe0 9 1 = some (.getfield 15, 3, 1, 1, 0, 0, 1068) := (pg_9 1).trans rfl
theorem f_9_4 : fe0 9 4 = some (.ireturn, 1, 0, 0, 0, 0, 0) := (pg_9 4).trans rfl
theorem q_9_0 (d : Nat) (l0 : Nat) (μ : aMem) : Rn d 9 (0, [.ref l0], [], μ) = if (mS μ l0).1 = 1 then (some (some (.int (mF μ l0 1)), μ)) else none :=
  (e_nx f_9_0 rfl).trans ((e_gd f_9_1 rfl).trans (g_congr (Iff.rfl) (fun h1 => e_rt f_9_4 rfl)))
theorem pg_10 (pc : Nat) : fe0 10 pc = lk prg_10 pc := rfl
theorem f_10_0 : fe0 10 0 = some (.iconst 2, 1, 0, 0, 0, 0, 0) := (pg_10 0).trans rfl
theorem f_10_1 : fe0 10 1 = some (.aload_n 0, 1, 0, 0, 0, 0, 0) := (pg_10 1).trans rfl
theorem f_10_2 : fe0 10 2 = some (.getfield 15, 3, 1, 1, 0, 0, 1068) := (pg_10 2).trans rfl
theorem f_10_5 : fe0 10 5 = some (.imul, 1, 0, 0, 0, 0, 0) := (pg_10 5).trans rfl
theorem f_10_6 : fe0 10 6 = some (.iconst 1, 1, 0, 0, 0, 0, 0) := (pg_10 6).trans rfl
theorem f_10_7 : fe0 10 7 = some (.iadd, 1, 0, 0, 0, 0, 0) := (pg_10 7).trans rfl
theorem f_10_8 : fe0 10 8 = some (.ireturn, 1, 0, 0, 0, 0, 0) := (pg_10 8).trans rfl
theorem q_10_0 (d : Nat) (l0 : Nat) (μ : aMem) : Rn d 10 (0, [.ref l0], [], μ) = if (mS μ l0).1 = 1 then (some (some (.int ((2 * (mF μ l0 1)) + 1)), μ)) else none :=
  (e_nx (q := (_, _, .int 2 :: _, _)) f_10_0 rfl).trans ((e_nx f_10_1 rfl).trans ((e_gd f_10_2 rfl).trans (g_congr (Iff.rfl) (fun h1 => (e_nx f_10_5 rfl).trans ((e_nx (q := (_, _, .int 1 :: _, _)) f_10_6 rfl).trans ((e_nx f_10_7 rfl).trans (e_rt f_10_8 rfl)))))))
theorem pg_11 (pc : Nat) : fe0 11 pc = lk prg_11 pc := rfl
theorem f_11_0 : fe0 11 0 = some (.aload_n 0, 1, 0, 0, 0, 0, 0) := (pg_11 0).trans rfl
theorem f_11_1 : fe0 11 1 = some (.invokespecial 3, 3, 0, 0, 6, 0, 1033) := (pg_11 1).trans rfl
theorem f_11_4 : fe0 11 4 = some (.aload_n 0, 1, 0, 0, 0, 0, 0) := (pg_11 4).trans rfl
theorem f_11_5 : fe0 11 5 = some (.bipush 10, 2, 0, 0, 0, 0, 0) := (pg_11 5).trans rfl
theorem f_11_7 : fe0 11 7 = some (.anewarray 9, 3, 12, 0, 0, 0, 1034) := (pg_11 7).trans rfl
theorem f_11_10 : fe0 11 10 = some (.putfield 11, 3, 2, 0, 1, 0, 1098) := (pg_11 10).trans rfl
theorem f_11_13 : fe0 11 13 = some (.aload_n 0, 1, 0, 0, 0, 0, 0) := (pg_11 13).trans rfl
theorem f_11_14 : fe0 11 14 = some (.new 17, 3, 0, 4, 1037, 1003, 1036) := (pg_11 14).trans rfl
theorem f_11_17 : fe0 11 17 = some (.dup, 1, 0, 0, 0, 0, 0) := (pg_11 17).trans rfl
theorem f_11_18 : fe0 11 18 = some (.invokespecial 19, 3, 0, 0, 5, 0, 1038) := (pg_11 18).trans rfl
theorem f_11_21 : fe0 11 21 = some (.putfield 20, 3, 2, 2, 1, 0, 1104) := (pg_11 21).trans rfl
theorem f_11_24 : fe0 11 24 = some (.aload_n 0, 1, 0, 0, 0, 0, 0) := (pg_11 24).trans rfl
theorem f_11_25 : fe0 11 25 = some (.bipush 14, 2, 0, 0, 0, 0, 0) := (pg_11 25).trans rfl
theorem f_11_27 : fe0 11 27 = some (.anewarray 24, 3, 15, 0, 0, 0, 1057) := (pg_11 27).trans rfl
theorem f_11_30 : fe0 11 30 = some (.putfield 26, 3, 2, 3, 1, 0, 1107) := (pg_11 30).trans rfl
theorem f_11_33 : fe0 11 33 = some (.aload_n 0, 1, 0, 0, 0, 0, 0) := (pg_11 33).trans rfl
theorem f_11_34 : fe0 11 34 = some (.iconst 3, 1, 0, 0, 0, 0, 0) := (pg_11 34).trans rfl
theorem f_11_35 : fe0 11 35 = some (.newarray .int, 2, 10, 0, 0, 0, 0) := (pg_11 35).trans rfl
theorem f_11_37 : fe0 11 37 = some (.putfield 30, 3, 2, 5, 1, 0, 1110) := (pg_11 37).trans rfl
theorem f_11_40 : fe0 11 40 = some (.aload_n 0, 1, 0, 0, 0, 0, 0) := (pg_11 40).trans rfl
theorem f_11_41 : fe0 11 41 = some (.iconst 1, 1, 0, 0, 0, 0, 0) := (pg_11 41).trans rfl
theorem f_11_42 : fe0 11 42 = some (.putfield 34, 3, 2, 6, 0, 0, 1112) := (pg_11 42).trans rfl
theorem f_11_45 : fe0 11 45 = some (.iconst 0, 1, 0, 0, 0, 0, 0) := (pg_11 45).trans rfl
theorem f_11_46 : fe0 11 46 = some (.istore_n 1, 1, 0, 0, 0, 0, 0) := (pg_11 46).trans rfl
theorem f_11_47 : fe0 11 47 = some (.iload_n 1, 1, 0, 0, 0, 0, 0) := (pg_11 47).trans rfl
theorem f_11_48 : fe0 11 48 = some (.bipush 10, 2, 0, 0, 0, 0, 0) := (pg_11 48).trans rfl
theorem f_11_50 : fe0 11 50 = some (.if_icmp .ge 22, 3, 0, 0, 0, 0, 0) := (pg_11 50).trans rfl
theorem f_11_53 : fe0 11 53 = some (.aload_n 0, 1, 0, 0, 0, 0, 0) := (pg_11 53).trans rfl
theorem f_11_54 : fe0 11 54 = some (.getfield 11, 3, 2, 0, 1, 0, 1098) := (pg_11 54).trans rfl
theorem f_11_57 : fe0 11 57 = some (.iload_n 1, 1, 0, 0, 0, 0, 0) := (pg_11 57).trans rfl
theorem f_11_58 : fe0 11 58 = some (.new 9, 3, 1, 5, 1059, 1004, 1034) := (pg_11 58).trans rfl
theorem f_11_61 : fe0 11 61 = some (.dup, 1, 0, 0, 0, 0, 0) := (pg_11 61).trans rfl
theorem f_11_62 : fe0 11 62 = some (.invokespecial 38, 3, 5, 0, 5, 0, 1060) := (pg_11 62).trans rfl
theorem f_11_65 : fe0 11 65 = some (.aastore, 1, 0, 0, 0, 0, 0) := (pg_11 65).trans rfl
theorem f_11_66 : fe0 11 66 = some (.iinc 1 1, 3, 0, 0, 0, 0, 0) := (pg_11 66).trans rfl
theorem f_11_69 : fe0 11 69 = some (.goto (-22), 3, 0, 0, 0, 0, 0) := (pg_11 69).trans rfl
theorem f_11_72 : fe0 11 72 = some (.aload_n 0, 1, 0, 0, 0, 0, 0) := (pg_11 72).trans rfl
theorem f_11_73 : fe0 11 73 = some (.getfield 30, 3, 2, 5, 1, 0, 1110) := (pg_11 73).trans rfl
theorem f_11_76 : fe0 11 76 = some (.iconst (-1), 1, 0, 0, 0, 0, 0) := (pg_11 76).trans rfl
theorem f_11_77 : fe0 11 77 = some (.invokestatic 39, 3, 231, 2, 2, 0, 1095) := (pg_11 77).trans rfl
theorem f_11_80 : fe0 11 80 = some (.return_, 1, 0, 0, 0, 0, 0) := (pg_11 80).trans rfl
theorem q_11_0 (d : Nat) (l0 : Nat) (μ : aMem) : Rn (d + 1) 11 (0, [.ref l0, un], [], μ) = if l0 < 999999 then (if mN μ < 900000 then (if (mS (newC μ 12 (ix 10)) l0).1 = 2 ∧ (mN μ) ≤ 999999 then (Rn (d + 1) 11 (13, [.ref l0, un], [], setR (newC μ 12 (ix 10)) l0 0 (mN μ))) else none) else none) else none :=
  (e_nx f_11_0 rfl).trans ((e_gd (L := [.ref l0, un]) (st := [.ref l0]) (μ := μ) f_11_1 rfl).trans (g_congr (oi_iff (Nat.le_of_ble_eq_true rfl)) (fun h1 => (e_nx f_11_4 rfl).trans ((e_nx (q := (_, _, .int 10 :: _, _)) f_11_5 rfl).trans ((e_gd (L := [.ref l0, un]) (st := [.int 10, .ref l0]) (μ := μ) f_11_7 rfl).trans (g_congr (na_iff (by decide)) (fun h2 => (e_gd f_11_10 rfl).trans (g_congr (pr_iff rfl) (fun h3 => rfl)))))))))
theorem q_11_13 (d : Nat) (l0 : Nat) (w1 : Value) (μ : aMem) : Rn (d + 1) 11 (13, [.ref l0, w1], [], μ) = if mN μ < 900000 then (if (mN μ) < 999999 then ((cV d 0 [.ref (mN μ)] (newC μ 0 4)).bind fun p2 => if (mS p2 l0).1 = 2 ∧ (mN μ) ≤ 999999 then (Rn (d + 1) 11 (24, [.ref l0, w1], [], setR p2 l0 2 (mN μ))) else none) else none) else none :=
  (e_nx f_11_13 rfl).trans ((e_gd (L := [.ref l0, w1]) (st := [.ref l0]) (μ := μ) f_11_14 rfl).trans (g_congr (nw_iff (by decide)) (fun h1 => (e_nx f_11_17 rfl).trans ((e_gV (L := [.ref l0, w1]) (st := [.ref (mN μ), .ref (mN μ), .ref l0]) (μ := newC μ 0 4) (L' := [.ref l0, w1]) (st' := [.ref (mN μ), .ref l0]) f_11_18 rfl rfl).trans (g_congr (v_c3 rfl (Nat.le_of_ble_eq_true rfl)) (fun h3 => m_congr fun p2 => (e_gd f_11_21 rfl).trans (g_congr (pr_iff rfl) (fun h4 => rfl))))))))
theorem q_11_24 (d : Nat) (l0 : Nat) (w1 : Value) (μ : aMem) : Rn (d + 1) 11 (24, [.ref l0, w1], [], μ) = if mN μ < 900000 then (if (mS (newC μ 15 (ix 14)) l0).1 = 2 ∧ (mN μ) ≤ 999999 then (Rn (d + 1) 11 (33, [.ref l0, w1], [], setR (newC μ 15 (ix 14)) l0 3 (mN μ))) else none) else none :=
  (e_nx f_11_24 rfl).trans ((e_nx (q := (_, _, .int 14 :: _, _)) f_11_25 rfl).trans ((e_gd (L := [.ref l0, w1]) (st := [.int 14, .ref l0]) (μ := μ) f_11_27 rfl).trans (g_congr (na_iff (by decide)) (fun h1 => (e_gd f_11_30 rfl).trans (g_congr (pr_iff rfl) (fun h2 => rfl))))))
theorem q_11_33 (d : Nat) (l0 : Nat) (w1 : Value) (μ : aMem) : Rn (d + 1) 11 (33, [.ref l0, w1], [], μ) = if mN μ < 900000 then (if (mS (newC μ 10 (ix 3)) l0).1 = 2 ∧ (mN μ) ≤ 999999 then (Rn (d + 1) 11 (40, [.ref l0, w1], [], setR (newC μ 10 (ix 3)) l0 5 (mN μ))) else none) else none :=
  (e_nx f_11_33 rfl).trans ((e_nx (q := (_, _, .int 3 :: _, _)) f_11_34 rfl).trans ((e_gd (L := [.ref l0, w1]) (st := [.int 3, .ref l0]) (μ := μ) f_11_35 rfl).trans (g_congr (na_iff (by decide)) (fun h1 => (e_gd f_11_37 rfl).trans (g_congr (pr_iff rfl) (fun h2 => rfl))))))
theorem q_11_40 (d : Nat) (l0 : Nat) (w1 : Value) (μ : aMem) : Rn (d + 1) 11 (40, [.ref l0, w1], [], μ) = if (mS μ l0).1 = 2 then (Rn (d + 1) 11 (45, [.ref l0, w1], [], setF μ l0 6 1)) else none :=
  (e_nx f_11_40 rfl).trans ((e_nx (q := (_, _, .int 1 :: _, _)) f_11_41 rfl).trans ((e_gd (L := [.ref l0, w1]) (st := [.int 1, .ref l0]) (μ := μ) f_11_42 rfl).trans (g_congr (pi_iff rfl) (fun h1 => rfl))))
theorem q_11_45 (d : Nat) (l0 : Nat) (w1 : Value) (μ : aMem) : Rn (d + 1) 11 (45, [.ref l0, w1], [], μ) = Rn (d + 1) 11 (47, [.ref l0, .int 0], [], μ) :=
  (e_nx (q := (_, _, .int 0 :: _, _)) f_11_45 rfl).trans (e_nx (q := (_, [.ref l0, .int 0], _, _)) f_11_46 rfl)
theorem q_11_47 (d : Nat) (l0 : Nat) (x1 : Int32) (μ : aMem) : Rn (d + 1) 11 (47, [.ref l0, .int x1], [], μ) = if 10 ≤ x1 then (if (mS μ l0).1 = 2 then ((cV d 231 [.ref (mR μ l0 5), .int (-1)] μ).bind fun p3 => some (none, p3)) else none) else (if (mS μ l0).1 = 2 then (if mN μ < 900000 then (if (mN μ) < 999999 then ((cV d 5 [.ref (mN μ)] (newC μ 1 5)).bind fun p6 => if 12 ≤ (mS p6 (mR μ l0 0)).1 ∧ (mS p6 (mR μ l0 0)).1 < 16 ∧ inb x1 (mS p6 (mR μ l0 0)).2 ∧ ((mN μ) = 999999 ∨ ((mN μ) < 999999 ∧ (mS p6 (mN μ)).1 = ecl (mS p6 (mR μ l0 0)).1)) then (Rn (d + 1) 11 (47, [.ref l0, .int (x1 + 1)], [], setR p6 (mR μ l0 0) (ix x1) (mN μ))) else none) else none) else none) else none) :=
  (e_nx f_11_47 rfl).trans ((e_nx (q := (_, _, .int 10 :: _, _)) f_11_48 rfl).trans ((e_ge f_11_50 rfl).trans (b_congr (fun h1 => (e_nx f_11_72 rfl).trans ((e_gd f_11_73 rfl).trans (g_congr (Iff.rfl) (fun h2 => (e_nx (q := (_, _, .int (-1) :: _, _)) f_11_76 rfl).trans ((e_cV (L := [.ref l0, .int x1]) (st := [.int (-1), .ref (mR μ l0 5)]) (μ := μ) (L' := [.ref l0, .int x1]) (st' := []) f_11_77 rfl rfl).trans (m_congr fun p3 => e_rt f_11_80 rfl)))))) (fun h1 => (e_nx f_11_53 rfl).trans ((e_gd f_11_54 rfl).trans (g_congr (Iff.rfl) (fun h4 => (e_nx f_11_57 rfl).trans ((e_gd (L := [.ref l0, .int x1]) (st := [.int x1, .ref (mR μ l0 0)]) (μ := μ) f_11_58 rfl).trans (g_congr (nw_iff (by decide)) (fun h5 => (e_nx f_11_61 rfl).trans ((e_gV (L := [.ref l0, .int x1]) (st := [.ref (mN μ), .ref (mN μ), .int x1, .ref (mR μ l0 0)]) (μ := newC μ 1 5) (L' := [.ref l0, .int x1]) (st' := [.ref (mN μ), .int x1, .ref (mR μ l0 0)]) f_11_62 rfl rfl).trans (g_congr (v_c3 rfl (Nat.le_of_ble_eq_true rfl)) (fun h7 => m_congr fun p6 => (e_gd f_11_65 rfl).trans (g_congr (Iff.rfl) (fun h8 => (e_nx (q := (_, [.ref l0, .int (x1 + 1)], _, _)) f_11_66 rfl).trans (e_nx f_11_69 rfl))))))))))))))))
theorem pg_12 (pc : Nat) : fe0 12 pc = lk prg_12 pc := rfl
theorem f_12_0 : fe0 12 0 = some (.iload_n 1, 1, 0, 0, 0, 0, 0) := (pg_12 0).trans rfl
theorem f_12_1 : fe0 12 1 = some (.ifCond .lt 26, 3, 0, 0, 0, 0, 0) := (pg_12 1).trans rfl
theorem f_12_4 : fe0 12 4 = some (.iload_n 1, 1, 0, 0, 0, 0, 0) := (pg_12 4).trans rfl
theorem f_12_5 : fe0 12 5 = some (.aload_n 0, 1, 0, 0, 0, 0, 0) := (pg_12 5).trans rfl
theorem f_12_6 : fe0 12 6 = some (.getfield 45, 3, 2, 1, 0, 0, 1101) := (pg_12 6).trans rfl
theorem f_12_9 : fe0 12 9 = some (.if_icmp .ge 18, 3, 0, 0, 0, 0, 0) := (pg_12 9).trans rfl
theorem f_12_12 : fe0 12 12 = some (.iload_n 1, 1, 0, 0, 0, 0, 0) := (pg_12 12).trans rfl
theorem f_12_13 : fe0 12 13 = some (.bipush 10, 2, 0, 0, 0, 0, 0) := (pg_12 13).trans rfl
theorem f_12_15 : fe0 12 15 = some (.if_icmp .ge 12, 3, 0, 0, 0, 0, 0) := (pg_12 15).trans rfl
theorem f_12_18 : fe0 12 18 = some (.aload_n 0, 1, 0, 0, 0, 0, 0) := (pg_12 18).trans rfl
theorem f_12_19 : fe0 12 19 = some (.getfield 11, 3, 2, 0, 1, 0, 1098) := (pg_12 19).trans rfl
theorem f_12_22 : fe0 12 22 = some (.iload_n 1, 1, 0, 0, 0, 0, 0) := (pg_12 22).trans rfl
theorem f_12_23 : fe0 12 23 = some (.aaload, 1, 0, 0, 0, 0, 0) := (pg_12 23).trans rfl
theorem f_12_24 : fe0 12 24 = some (.goto 4, 3, 0, 0, 0, 0, 0) := (pg_12 24).trans rfl
theorem f_12_27 : fe0 12 27 = some (.aconst_null, 1, 0, 0, 0, 0, 0) := (pg_12 27).trans rfl
theorem f_12_28 : fe0 12 28 = some (.areturn, 1, 0, 0, 0, 0, 0) := (pg_12 28).trans rfl
theorem q_12_0 (d : Nat) (l0 : Nat) (x1 : Int32) (μ : aMem) : Rn d 12 (0, [.ref l0, .int x1], [], μ) = if x1 < 0 then (some (some (.ref 999999), μ)) else (if (mS μ l0).1 = 2 then (if (mF μ l0 1) ≤ x1 then (some (some (.ref 999999), μ)) else (if 10 ≤ x1 then (some (some (.ref 999999), μ)) else (if 12 ≤ (mS μ (mR μ l0 0)).1 ∧ (mS μ (mR μ l0 0)).1 < 16 ∧ inb x1 (mS μ (mR μ l0 0)).2 then (if (mR μ (mR μ l0 0) (ix x1)) ≤ 999999 then some (some (.ref (mR μ (mR μ l0 0) (ix x1))), μ) else none) else none))) else none) :=
  (e_nx f_12_0 rfl).trans ((e_lt f_12_1 rfl).trans (b_congr (fun h1 => (e_nx f_12_27 rfl).trans (e_rt f_12_28 rfl)) (fun h1 => (e_nx f_12_4 rfl).trans ((e_nx f_12_5 rfl).trans ((e_gd f_12_6 rfl).trans (g_congr (Iff.rfl) (fun h2 => (e_ge f_12_9 rfl).trans (b_congr (fun h3 => (e_nx f_12_27 rfl).trans (e_rt f_12_28 rfl)) (fun h3 => (e_nx f_12_12 rfl).trans ((e_nx (q := (_, _, .int 10 :: _, _)) f_12_13 rfl).trans ((e_ge f_12_15 rfl).trans (b_congr (fun h4 => (e_nx f_12_27 rfl).trans (e_rt f_12_28 rfl)) (fun h4 => (e_nx f_12_18 rfl).trans ((e_gk f_12_19 (h2) rfl).trans ((e_nx f_12_22 rfl).trans ((e_gd f_12_23 rfl).trans (g_congr (Iff.rfl) (fun h5 => (e_nx f_12_24 rfl).trans (e_rg f_12_28 rfl)))))))))))))))))))
theorem pg_13 (pc : Nat) : fe0 13 pc = lk prg_13 pc := rfl
theorem f_13_0 : fe0 13 0 = some (.iload_n 1, 1, 0, 0, 0, 0, 0) := (pg_13 0).trans rfl
theorem f_13_1 : fe0 13 1 = some (.ifCond .lt 26, 3, 0, 0, 0, 0, 0) := (pg_13 1).trans rfl
theorem f_13_4 : fe0 13 4 = some (.iload_n 1, 1, 0, 0, 0, 0, 0) := (pg_13 4).trans rfl
theorem f_13_5 : fe0 13 5 = some (.aload_n 0, 1, 0, 0, 0, 0, 0) := (pg_13 5).trans rfl
theorem f_13_6 : fe0 13 6 = some (.getfield 48, 3, 2, 4, 0, 0, 1108) := (pg_13 6).trans rfl
theorem f_13_9 : fe0 13 9 = some (.if_icmp .ge 18, 3, 0, 0, 0, 0, 0) := (pg_13 9).trans rfl
theorem f_13_12 : fe0 13 12 = some (.iload_n 1, 1, 0, 0, 0, 0, 0) := (pg_13 12).trans rfl
theorem f_13_13 : fe0 13 13 = some (.bipush 14, 2, 0, 0, 0, 0, 0) := (pg_13 13).trans rfl
theorem f_13_15 : fe0 13 15 = some (.if_icmp .ge 12, 3, 0, 0, 0, 0, 0) := (pg_13 15).trans rfl
theorem f_13_18 : fe0 13 18 = some (.aload_n 0, 1, 0, 0, 0, 0, 0) := (pg_13 18).trans rfl
theorem f_13_19 : fe0 13 19 = some (.getfield 26, 3, 2, 3, 1, 0, 1107) := (pg_13 19).trans rfl
theorem f_13_22 : fe0 13 22 = some (.iload_n 1, 1, 0, 0, 0, 0, 0) := (pg_13 22).trans rfl
theorem f_13_23 : fe0 13 23 = some (.aaload, 1, 0, 0, 0, 0, 0) := (pg_13 23).trans rfl
theorem f_13_24 : fe0 13 24 = some (.goto 4, 3, 0, 0, 0, 0, 0) := (pg_13 24).trans rfl
theorem f_13_27 : fe0 13 27 = some (.aconst_null, 1, 0, 0, 0, 0, 0) := (pg_13 27).trans rfl
theorem f_13_28 : fe0 13 28 = some (.areturn, 1, 0, 0, 0, 0, 0) := (pg_13 28).trans rfl
theorem q_13_0 (d : Nat) (l0 : Nat) (x1 : Int32) (μ : aMem) : Rn d 13 (0, [.ref l0, .int x1], [], μ) = if x1 < 0 then (some (some (.ref 999999), μ)) else (if (mS μ l0).1 = 2 then (if (mF μ l0 4) ≤ x1 then (some (some (.ref 999999), μ)) else (if 14 ≤ x1 then (some (some (.ref 999999), μ)) else (if 12 ≤ (mS μ (mR μ l0 3)).1 ∧ (mS μ (mR μ l0 3)).1 < 16 ∧ inb x1 (mS μ (mR μ l0 3)).2 then (if (mR μ (mR μ l0 3) (ix x1)) ≤ 999999 then some (some (.ref (mR μ (mR μ l0 3) (ix x1))), μ) else none) else none))) else none) :=
  (e_nx f_13_0 rfl).trans ((e_lt f_13_1 rfl).trans (b_congr (fun h1 => (e_nx f_13_27 rfl).trans (e_rt f_13_28 rfl)) (fun h1 => (e_nx f_13_4 rfl).trans ((e_nx f_13_5 rfl).trans ((e_gd f_13_6 rfl).trans (g_congr (Iff.rfl) (fun h2 => (e_ge f_13_9 rfl).trans (b_congr (fun h3 => (e_nx f_13_27 rfl).trans (e_rt f_13_28 rfl)) (fun h3 => (e_nx f_13_12 rfl).trans ((e_nx (q := (_, _, .int 14 :: _, _)) f_13_13 rfl).trans ((e_ge f_13_15 rfl).trans (b_congr (fun h4 => (e_nx f_13_27 rfl).trans (e_rt f_13_28 rfl)) (fun h4 => (e_nx f_13_18 rfl).trans ((e_gk f_13_19 (h2) rfl).trans ((e_nx f_13_22 rfl).trans ((e_gd f_13_23 rfl).trans (g_congr (Iff.rfl) (fun h5 => (e_nx f_13_24 rfl).trans (e_rg f_13_28 rfl)))))))))))))))))))
theorem pg_14 (pc : Nat) : fe0 14 pc = lk prg_14 pc := rfl
theorem f_14_0 : fe0 14 0 = some (.aload_n 0, 1, 0, 0, 0, 0, 0) := (pg_14 0).trans rfl
theorem f_14_1 : fe0 14 1 = some (.getfield 45, 3, 2, 1, 0, 0, 1101) := (pg_14 1).trans rfl
theorem f_14_4 : fe0 14 4 = some (.bipush 10, 2, 0, 0, 0, 0, 0) := (pg_14 4).trans rfl
theorem f_14_6 : fe0 14 6 = some (.if_icmp .lt 6, 3, 0, 0, 0, 0, 0) := (pg_14 6).trans rfl
theorem f_14_9 : fe0 14 9 = some (.ldc 51, 2, 0, 0, 3294967293, 0, 2068) := (pg_14 9).trans rfl
theorem f_14_11 : fe0 14 11 = some (.ireturn, 1, 0, 0, 0, 0, 0) := (pg_14 11).trans rfl
theorem f_14_12 : fe0 14 12 = some (.aload_n 0, 1, 0, 0, 0, 0, 0) := (pg_14 12).trans rfl
theorem f_14_13 : fe0 14 13 = some (.getfield 11, 3, 2, 0, 1, 0, 1098) := (pg_14 13).trans rfl
theorem f_14_16 : fe0 14 16 = some (.aload_n 0, 1, 0, 0, 0, 0, 0) := (pg_14 16).trans rfl
theorem f_14_17 : fe0 14 17 = some (.getfield 45, 3, 2, 1, 0, 0, 1101) := (pg_14 17).trans rfl
theorem f_14_20 : fe0 14 20 = some (.aaload, 1, 0, 0, 0, 0, 0) := (pg_14 20).trans rfl
theorem f_14_21 : fe0 14 21 = some (.astore 5, 2, 0, 0, 0, 0, 0) := (pg_14 21).trans rfl
theorem f_14_23 : fe0 14 23 = some (.aload 5, 2, 0, 0, 0, 0, 0) := (pg_14 23).trans rfl
theorem f_14_25 : fe0 14 25 = some (.iload_n 1, 1, 0, 0, 0, 0, 0) := (pg_14 25).trans rfl
theorem f_14_26 : fe0 14 26 = some (.putfield 52, 3, 1, 0, 0, 0, 1066) := (pg_14 26).trans rfl
theorem f_14_29 : fe0 14 29 = some (.aload 5, 2, 0, 0, 0, 0, 0) := (pg_14 29).trans rfl
theorem f_14_31 : fe0 14 31 = some (.iload_n 2, 1, 0, 0, 0, 0, 0) := (pg_14 31).trans rfl
theorem f_14_32 : fe0 14 32 = some (.putfield 55, 3, 1, 1, 0, 0, 1071) := (pg_14 32).trans rfl
theorem f_14_35 : fe0 14 35 = some (.aload 5, 2, 0, 0, 0, 0, 0) := (pg_14 35).trans rfl
theorem f_14_37 : fe0 14 37 = some (.iload_n 3, 1, 0, 0, 0, 0, 0) := (pg_14 37).trans rfl
theorem f_14_38 : fe0 14 38 = some (.putfield 58, 3, 1, 2, 0, 0, 1075) := (pg_14 38).trans rfl
theorem f_14_41 : fe0 14 41 = some (.aload 5, 2, 0, 0, 0, 0, 0) := (pg_14 41).trans rfl
theorem f_14_43 : fe0 14 43 = some (.iload 4, 2, 0, 0, 0, 0, 0) := (pg_14 43).trans rfl
theorem f_14_45 : fe0 14 45 = some (.putfield 61, 3, 1, 3, 0, 0, 1078) := (pg_14 45).trans rfl
theorem f_14_48 : fe0 14 48 = some (.aload 5, 2, 0, 0, 0, 0, 0) := (pg_14 48).trans rfl
theorem f_14_50 : fe0 14 50 = some (.iconst 0, 1, 0, 0, 0, 0, 0) := (pg_14 50).trans rfl
theorem f_14_51 : fe0 14 51 = some (.putfield 64, 3, 1, 4, 0, 0, 1082) := (pg_14 51).trans rfl
theorem f_14_54 : fe0 14 54 = some (.aload_n 0, 1, 0, 0, 0, 0, 0) := (pg_14 54).trans rfl
theorem f_14_55 : fe0 14 55 = some (.dup, 1, 0, 0, 0, 0, 0) := (pg_14 55).trans rfl
theorem f_14_56 : fe0 14 56 = some (.getfield 45, 3, 2, 1, 0, 0, 1101) := (pg_14 56).trans rfl
theorem f_14_59 : fe0 14 59 = some (.iconst 1, 1, 0, 0, 0, 0, 0) := (pg_14 59).trans rfl
theorem f_14_60 : fe0 14 60 = some (.iadd, 1, 0, 0, 0, 0, 0) := (pg_14 60).trans rfl
theorem f_14_61 : fe0 14 61 = some (.putfield 45, 3, 2, 1, 0, 0, 1101) := (pg_14 61).trans rfl
theorem f_14_64 : fe0 14 64 = some (.aload_n 0, 1, 0, 0, 0, 0, 0) := (pg_14 64).trans rfl
theorem f_14_65 : fe0 14 65 = some (.getfield 45, 3, 2, 1, 0, 0, 1101) := (pg_14 65).trans rfl
theorem f_14_68 : fe0 14 68 = some (.iconst 1, 1, 0, 0, 0, 0, 0) := (pg_14 68).trans rfl
theorem f_14_69 : fe0 14 69 = some (.isub, 1, 0, 0, 0, 0, 0) := (pg_14 69).trans rfl
theorem f_14_70 : fe0 14 70 = some (.ireturn, 1, 0, 0, 0, 0, 0) := (pg_14 70).trans rfl
theorem q_14_0 (d : Nat) (l0 : Nat) (x1 : Int32) (x2 : Int32) (x3 : Int32) (x4 : Int32) (μ : aMem) : Rn d 14 (0, [.ref l0, .int x1, .int x2, .int x3, .int x4, un], [], μ) = if (mS μ l0).1 = 2 then (if (mF μ l0 1) < 10 then (if 12 ≤ (mS μ (mR μ l0 0)).1 ∧ (mS μ (mR μ l0 0)).1 < 16 ∧ inb (mF μ l0 1) (mS μ (mR μ l0 0)).2 then (if (mS μ (mR μ (mR μ l0 0) (ix (mF μ l0 1)))).1 = 1 then (some (some (.int ((mF (setF (setF (setF (setF (setF (setF μ (mR μ (mR μ l0 0) (ix (mF μ l0 1))) 0 x1) (mR μ (mR μ l0 0) (ix (mF μ l0 1))) 1 x2) (mR μ (mR μ l0 0) (ix (mF μ l0 1))) 2 x3) (mR μ (mR μ l0 0) (ix (mF μ l0 1))) 3 x4) (mR μ (mR μ l0 0) (ix (mF μ l0 1))) 4 0) l0 1 ((mF (setF (setF (setF (setF (setF μ (mR μ (mR μ l0 0) (ix (mF μ l0 1))) 0 x1) (mR μ (mR μ l0 0) (ix (mF μ l0 1))) 1 x2) (mR μ (mR μ l0 0) (ix (mF μ l0 1))) 2 x3) (mR μ (mR μ l0 0) (ix (mF μ l0 1))) 3 x4) (mR μ (mR μ l0 0) (ix (mF μ l0 1))) 4 0) l0 1) + 1)) l0 1) - 1)), setF (setF (setF (setF (setF (setF μ (mR μ (mR μ l0 0) (ix (mF μ l0 1))) 0 x1) (mR μ (mR μ l0 0) (ix (mF μ l0 1))) 1 x2) (mR μ (mR μ l0 0) (ix (mF μ l0 1))) 2 x3) (mR μ (mR μ l0 0) (ix (mF μ l0 1))) 3 x4) (mR μ (mR μ l0 0) (ix (mF μ l0 1))) 4 0) l0 1 ((mF (setF (setF (setF (setF (setF μ (mR μ (mR μ l0 0) (ix (mF μ l0 1))) 0 x1) (mR μ (mR μ l0 0) (ix (mF μ l0 1))) 1 x2) (mR μ (mR μ l0 0) (ix (mF μ l0 1))) 2 x3) (mR μ (mR μ l0 0) (ix (mF μ l0 1))) 3 x4) (mR μ (mR μ l0 0) (ix (mF μ l0 1))) 4 0) l0 1) + 1))) else none) else none) else (some (some (.int (-1000000003)), μ))) else none :=
  (e_nx f_14_0 rfl).trans ((e_gd f_14_1 rfl).trans (g_congr (Iff.rfl) (fun h1 => (e_nx (q := (_, _, .int 10 :: _, _)) f_14_4 rfl).trans ((e_lt f_14_6 rfl).trans (b_congr (fun h2 => (e_nx f_14_12 rfl).trans ((e_gk f_14_13 (h1) rfl).trans ((e_nx f_14_16 rfl).trans ((e_gk f_14_17 (h1) rfl).trans ((e_gd f_14_20 rfl).trans (g_congr (Iff.rfl) (fun h3 => (e_nx (q := (_, [.ref l0, .int x1, .int x2, .int x3, .int x4, .ref (mR μ (mR μ l0 0) (ix (mF μ l0 1)))], _, _)) f_14_21 rfl).trans ((e_nx f_14_23 rfl).trans ((e_nx f_14_25 rfl).trans ((e_gd (L := [.ref l0, .int x1, .int x2, .int x3, .int x4, .ref (mR μ (mR μ l0 0) (ix (mF μ l0 1)))]) (st := [.int x1, .ref (mR μ (mR μ l0 0) (ix (mF μ l0 1)))]) (μ := μ) f_14_26 rfl).trans (g_congr (pi_iff rfl) (fun h4 => (e_nx f_14_29 rfl).trans ((e_nx f_14_31 rfl).trans ((e_gk (L := [.ref l0, .int x1, .int x2, .int x3, .int x4, .ref (mR μ (mR μ l0 0) (ix (mF μ l0 1)))]) (st := [.int x2, .ref (mR μ (mR μ l0 0) (ix (mF μ l0 1)))]) (μ := setF μ (mR μ (mR μ l0 0) (ix (mF μ l0 1))) 0 x1) f_14_32 ((pi_iff rfl).mpr h4) rfl).trans ((e_nx f_14_35 rfl).trans ((e_nx f_14_37 rfl).trans ((e_gk (L := [.ref l0, .int x1, .int x2, .int x3, .int x4, .ref (mR μ (mR μ l0 0) (ix (mF μ l0 1)))]) (st := [.int x3, .ref (mR μ (mR μ l0 0) (ix (mF μ l0 1)))]) (μ := setF (setF μ (mR μ (mR μ l0 0) (ix (mF μ l0 1))) 0 x1) (mR μ (mR μ l0 0) (ix (mF μ l0 1))) 1 x2) f_14_38 ((pi_iff rfl).mpr h4) rfl).trans ((e_nx f_14_41 rfl).trans ((e_nx f_14_43 rfl).trans ((e_gk (L := [.ref l0, .int x1, .int x2, .int x3, .int x4, .ref (mR μ (mR μ l0 0) (ix (mF μ l0 1)))]) (st := [.int x4, .ref (mR μ (mR μ l0 0) (ix (mF μ l0 1)))]) (μ := setF (setF (setF μ (mR μ (mR μ l0 0) (ix (mF μ l0 1))) 0 x1) (mR μ (mR μ l0 0) (ix (mF μ l0 1))) 1 x2) (mR μ (mR μ l0 0) (ix (mF μ l0 1))) 2 x3) f_14_45 ((pi_iff rfl).mpr h4) rfl).trans ((e_nx f_14_48 rfl).trans ((e_nx (q := (_, _, .int 0 :: _, _)) f_14_50 rfl).trans ((e_gk (L := [.ref l0, .int x1, .int x2, .int x3, .int x4, .ref (mR μ (mR μ l0 0) (ix (mF μ l0 1)))]) (st := [.int 0, .ref (mR μ (mR μ l0 0) (ix (mF μ l0 1)))]) (μ := setF (setF (setF (setF μ (mR μ (mR μ l0 0) (ix (mF μ l0 1))) 0 x1) (mR μ (mR μ l0 0) (ix (mF μ l0 1))) 1 x2) (mR μ (mR μ l0 0) (ix (mF μ l0 1))) 2 x3) (mR μ (mR μ l0 0) (ix (mF μ l0 1))) 3 x4) f_14_51 ((pi_iff rfl).mpr h4) rfl).trans ((e_nx f_14_54 rfl).trans ((e_nx f_14_55 rfl).trans ((e_gk f_14_56 (h1) rfl).trans ((e_nx (q := (_, _, .int 1 :: _, _)) f_14_59 rfl).trans ((e_nx f_14_60 rfl).trans ((e_gk (L := [.ref l0, .int x1, .int x2, .int x3, .int x4, .ref (mR μ (mR μ l0 0) (ix (mF μ l0 1)))]) (st := [.int ((mF (setF (setF (setF (setF (setF μ (mR μ (mR μ l0 0) (ix (mF μ l0 1))) 0 x1) (mR μ (mR μ l0 0) (ix (mF μ l0 1))) 1 x2) (mR μ (mR μ l0 0) (ix (mF μ l0 1))) 2 x3) (mR μ (mR μ l0 0) (ix (mF μ l0 1))) 3 x4) (mR μ (mR μ l0 0) (ix (mF μ l0 1))) 4 0) l0 1) + 1), .ref l0]) (μ := setF (setF (setF (setF (setF μ (mR μ (mR μ l0 0) (ix (mF μ l0 1))) 0 x1) (mR μ (mR μ l0 0) (ix (mF μ l0 1))) 1 x2) (mR μ (mR μ l0 0) (ix (mF μ l0 1))) 2 x3) (mR μ (mR μ l0 0) (ix (mF μ l0 1))) 3 x4) (mR μ (mR μ l0 0) (ix (mF μ l0 1))) 4 0) f_14_61 ((pi_iff rfl).mpr h1) rfl).trans ((e_nx f_14_64 rfl).trans ((e_gk f_14_65 (h1) rfl).trans ((e_nx (q := (_, _, .int 1 :: _, _)) f_14_68 rfl).trans ((e_nx f_14_69 rfl).trans (e_rt f_14_70 rfl)))))))))))))))))))))))))))))))))) (fun h2 => (e_nx (q := (_, _, .int (-1000000003) :: _, _)) f_14_9 rfl).trans (e_rt f_14_11 rfl)))))))
theorem pg_15 (pc : Nat) : fe0 15 pc = lk prg_15 pc := rfl
theorem f_15_0 : fe0 15 0 = some (.aload_n 0, 1, 0, 0, 0, 0, 0) := (pg_15 0).trans rfl
theorem f_15_1 : fe0 15 1 = some (.getfield 48, 3, 2, 4, 0, 0, 1108) := (pg_15 1).trans rfl
theorem f_15_4 : fe0 15 4 = some (.bipush 14, 2, 0, 0, 0, 0, 0) := (pg_15 4).trans rfl
theorem f_15_6 : fe0 15 6 = some (.if_icmp .lt 6, 3, 0, 0, 0, 0, 0) := (pg_15 6).trans rfl
theorem f_15_9 : fe0 15 9 = some (.ldc 51, 2, 0, 0, 3294967293, 0, 2068) := (pg_15 9).trans rfl
theorem f_15_11 : fe0 15 11 = some (.ireturn, 1, 0, 0, 0, 0, 0) := (pg_15 11).trans rfl
theorem f_15_12 : fe0 15 12 = some (.aload_n 0, 1, 0, 0, 0, 0, 0) := (pg_15 12).trans rfl
theorem f_15_13 : fe0 15 13 = some (.getfield 26, 3, 2, 3, 1, 0, 1107) := (pg_15 13).trans rfl
theorem f_15_16 : fe0 15 16 = some (.aload_n 0, 1, 0, 0, 0, 0, 0) := (pg_15 16).trans rfl
theorem f_15_17 : fe0 15 17 = some (.getfield 48, 3, 2, 4, 0, 0, 1108) := (pg_15 17).trans rfl
theorem f_15_20 : fe0 15 20 = some (.aload_n 1, 1, 0, 0, 0, 0, 0) := (pg_15 20).trans rfl
theorem f_15_21 : fe0 15 21 = some (.aastore, 1, 0, 0, 0, 0, 0) := (pg_15 21).trans rfl
theorem f_15_22 : fe0 15 22 = some (.aload_n 1, 1, 0, 0, 0, 0, 0) := (pg_15 22).trans rfl
theorem f_15_23 : fe0 15 23 = some (.getfield 67, 3, 7, 0, 0, 0, 4085) := (pg_15 23).trans rfl
theorem f_15_26 : fe0 15 26 = some (.ifCond .lt 24, 3, 0, 0, 0, 0, 0) := (pg_15 26).trans rfl
theorem f_15_29 : fe0 15 29 = some (.aload_n 1, 1, 0, 0, 0, 0, 0) := (pg_15 29).trans rfl
theorem f_15_30 : fe0 15 30 = some (.getfield 67, 3, 7, 0, 0, 0, 4085) := (pg_15 30).trans rfl
theorem f_15_33 : fe0 15 33 = some (.iconst 3, 1, 0, 0, 0, 0, 0) := (pg_15 33).trans rfl
theorem f_15_34 : fe0 15 34 = some (.if_icmp .ge 16, 3, 0, 0, 0, 0, 0) := (pg_15 34).trans rfl
theorem f_15_37 : fe0 15 37 = some (.aload_n 0, 1, 0, 0, 0, 0, 0) := (pg_15 37).trans rfl
theorem f_15_38 : fe0 15 38 = some (.getfield 30, 3, 2, 5, 1, 0, 1110) := (pg_15 38).trans rfl
theorem f_15_41 : fe0 15 41 = some (.aload_n 1, 1, 0, 0, 0, 0, 0) := (pg_15 41).trans rfl
theorem f_15_42 : fe0 15 42 = some (.getfield 67, 3, 7, 0, 0, 0, 4085) := (pg_15 42).trans rfl
theorem f_15_45 : fe0 15 45 = some (.aload_n 0, 1, 0, 0, 0, 0, 0) := (pg_15 45).trans rfl
theorem f_15_46 : fe0 15 46 = some (.getfield 48, 3, 2, 4, 0, 0, 1108) := (pg_15 46).trans rfl
theorem f_15_49 : fe0 15 49 = some (.iastore, 1, 0, 0, 0, 0, 0) := (pg_15 49).trans rfl
theorem f_15_50 : fe0 15 50 = some (.aload_n 0, 1, 0, 0, 0, 0, 0) := (pg_15 50).trans rfl
theorem f_15_51 : fe0 15 51 = some (.dup, 1, 0, 0, 0, 0, 0) := (pg_15 51).trans rfl
theorem f_15_52 : fe0 15 52 = some (.getfield 48, 3, 2, 4, 0, 0, 1108) := (pg_15 52).trans rfl
theorem f_15_55 : fe0 15 55 = some (.iconst 1, 1, 0, 0, 0, 0, 0) := (pg_15 55).trans rfl
theorem f_15_56 : fe0 15 56 = some (.iadd, 1, 0, 0, 0, 0, 0) := (pg_15 56).trans rfl
theorem f_15_57 : fe0 15 57 = some (.putfield 48, 3, 2, 4, 0, 0, 1108) := (pg_15 57).trans rfl
theorem f_15_60 : fe0 15 60 = some (.aload_n 0, 1, 0, 0, 0, 0, 0) := (pg_15 60).trans rfl
theorem f_15_61 : fe0 15 61 = some (.getfield 48, 3, 2, 4, 0, 0, 1108) := (pg_15 61).trans rfl
theorem f_15_64 : fe0 15 64 = some (.iconst 1, 1, 0, 0, 0, 0, 0) := (pg_15 64).trans rfl
theorem f_15_65 : fe0 15 65 = some (.isub, 1, 0, 0, 0, 0, 0) := (pg_15 65).trans rfl
theorem f_15_66 : fe0 15 66 = some (.ireturn, 1, 0, 0, 0, 0, 0) := (pg_15 66).trans rfl
theorem q_15_0 (d : Nat) (l0 : Nat) (l1 : Nat) (μ : aMem) : Rn d 15 (0, [.ref l0, .ref l1], [], μ) = if (mS μ l0).1 = 2 then (if (mF μ l0 4) < 14 then (if 12 ≤ (mS μ (mR μ l0 3)).1 ∧ (mS μ (mR μ l0 3)).1 < 16 ∧ inb (mF μ l0 4) (mS μ (mR μ l0 3)).2 ∧ (l1 = 999999 ∨ (l1 < 999999 ∧ (mS μ l1).1 = ecl (mS μ (mR μ l0 3)).1)) then (if (mS μ l1).1 = 7 then (if (mF μ l1 0) < 0 then (some (some (.int ((mF (setF μ l0 4 ((mF μ l0 4) + 1)) l0 4) - 1)), setF (setR μ (mR μ l0 3) (ix (mF μ l0 4)) l1) l0 4 ((mF μ l0 4) + 1))) else (if 3 ≤ (mF μ l1 0) then (some (some (.int ((mF (setF μ l0 4 ((mF μ l0 4) + 1)) l0 4) - 1)), setF (setR μ (mR μ l0 3) (ix (mF μ l0 4)) l1) l0 4 ((mF μ l0 4) + 1))) else (if (mS μ (mR (setR μ (mR μ l0 3) (ix (mF μ l0 4)) l1) l0 5)).1 = 10 ∧ inb (mF μ l1 0) (mS μ (mR (setR μ (mR μ l0 3) (ix (mF μ l0 4)) l1) l0 5)).2 then (some (some (.int ((mF (setF (setF μ (mR (setR μ (mR μ l0 3) (ix (mF μ l0 4)) l1) l0 5) (ix (mF μ l1 0)) (mF μ l0 4)) l0 4 ((mF (setF μ (mR (setR μ (mR μ l0 3) (ix (mF μ l0 4)) l1) l0 5) (ix (mF μ l1 0)) (mF μ l0 4)) l0 4) + 1)) l0 4) - 1)), setF (setF (setR μ (mR μ l0 3) (ix (mF μ l0 4)) l1) (mR (setR μ (mR μ l0 3) (ix (mF μ l0 4)) l1) l0 5) (ix (mF μ l1 0)) (mF μ l0 4)) l0 4 ((mF (setF μ (mR (setR μ (mR μ l0 3) (ix (mF μ l0 4)) l1) l0 5) (ix (mF μ l1 0)) (mF μ l0 4)) l0 4) + 1))) else none))) else none) else none) else (some (some (.int (-1000000003)), μ))) else none :=
  (e_nx f_15_0 rfl).trans ((e_gd f_15_1 rfl).trans (g_congr (Iff.rfl) (fun h1 => (e_nx (q := (_, _, .int 14 :: _, _)) f_15_4 rfl).trans ((e_lt f_15_6 rfl).trans (b_congr (fun h2 => (e_nx f_15_12 rfl).trans ((e_gk f_15_13 (h1) rfl).trans ((e_nx f_15_16 rfl).trans ((e_gk f_15_17 (h1) rfl).trans ((e_nx f_15_20 rfl).trans ((e_gd f_15_21 rfl).trans (g_congr (Iff.rfl) (fun h3 => (e_nx f_15_22 rfl).trans ((e_gd f_15_23 rfl).trans (g_congr (Iff.rfl) (fun h4 => (e_lt f_15_26 rfl).trans (b_congr (fun h5 => (e_nx f_15_50 rfl).trans ((e_nx f_15_51 rfl).trans ((e_gk f_15_52 (h1) rfl).trans ((e_nx (q := (_, _, .int 1 :: _, _)) f_15_55 rfl).trans ((e_nx f_15_56 rfl).trans ((e_gk (L := [.ref l0, .ref l1]) (st := [.int ((mF μ l0 4) + 1), .ref l0]) (μ := setR μ (mR μ l0 3) (ix (mF μ l0 4)) l1) f_15_57 ((pi_iff rfl).mpr h1) rfl).trans ((e_nx f_15_60 rfl).trans ((e_gk f_15_61 (h1) rfl).trans ((e_nx (q := (_, _, .int 1 :: _, _)) f_15_64 rfl).trans ((e_nx f_15_65 rfl).trans (e_rt f_15_66 rfl))))))))))) (fun h5 => (e_nx f_15_29 rfl).trans ((e_gk f_15_30 (h4) rfl).trans ((e_nx (q := (_, _, .int 3 :: _, _)) f_15_33 rfl).trans ((e_ge f_15_34 rfl).trans (b_congr (fun h6 => (e_nx f_15_50 rfl).trans ((e_nx f_15_51 rfl).trans ((e_gk f_15_52 (h1) rfl).trans ((e_nx (q := (_, _, .int 1 :: _, _)) f_15_55 rfl).trans ((e_nx f_15_56 rfl).trans ((e_gk (L := [.ref l0, .ref l1]) (st := [.int ((mF μ l0 4) + 1), .ref l0]) (μ := setR μ (mR μ l0 3) (ix (mF μ l0 4)) l1) f_15_57 ((pi_iff rfl).mpr h1) rfl).trans ((e_nx f_15_60 rfl).trans ((e_gk f_15_61 (h1) rfl).trans ((e_nx (q := (_, _, .int 1 :: _, _)) f_15_64 rfl).trans ((e_nx f_15_65 rfl).trans (e_rt f_15_66 rfl))))))))))) (fun h6 => (e_nx f_15_37 rfl).trans ((e_gk f_15_38 (h1) rfl).trans ((e_nx f_15_41 rfl).trans ((e_gk f_15_42 (h4) rfl).trans ((e_nx f_15_45 rfl).trans ((e_gk f_15_46 (h1) rfl).trans ((e_gd f_15_49 rfl).trans (g_congr (Iff.rfl) (fun h7 => (e_nx f_15_50 rfl).trans ((e_nx f_15_51 rfl).trans ((e_gk f_15_52 (h1) rfl).trans ((e_nx (q := (_, _, .int 1 :: _, _)) f_15_55 rfl).trans ((e_nx f_15_56 rfl).trans ((e_gk (L := [.ref l0, .ref l1]) (st := [.int ((mF (setF μ (mR (setR μ (mR μ l0 3) (ix (mF μ l0 4)) l1) l0 5) (ix (mF μ l1 0)) (mF μ l0 4)) l0 4) + 1), .ref l0]) (μ := setF (setR μ (mR μ l0 3) (ix (mF μ l0 4)) l1) (mR (setR μ (mR μ l0 3) (ix (mF μ l0 4)) l1) l0 5) (ix (mF μ l1 0)) (mF μ l0 4)) f_15_57 ((pi_iff rfl).mpr h1) rfl).trans ((e_nx f_15_60 rfl).trans ((e_gk f_15_61 (h1) rfl).trans ((e_nx (q := (_, _, .int 1 :: _, _)) f_15_64 rfl).trans ((e_nx f_15_65 rfl).trans (e_rt f_15_66 rfl)))))))))))))))))))))))))))))))))))) (fun h2 => (e_nx (q := (_, _, .int (-1000000003) :: _, _)) f_15_9 rfl).trans (e_rt f_15_11 rfl)))))))
theorem pg_16 (pc : Nat) : fe0 16 pc = lk prg_16 pc := rfl
theorem f_16_0 : fe0 16 0 = some (.iload_n 1, 1, 0, 0, 0, 0, 0) := (pg_16 0).trans rfl
theorem f_16_1 : fe0 16 1 = some (.ifCond .lt 21, 3, 0, 0, 0, 0, 0) := (pg_16 1).trans rfl
theorem f_16_4 : fe0 16 4 = some (.iload_n 1, 1, 0, 0, 0, 0, 0) := (pg_16 4).trans rfl
theorem f_16_5 : fe0 16 5 = some (.iconst 3, 1, 0, 0, 0, 0, 0) := (pg_16 5).trans rfl
theorem f_16_6 : fe0 16 6 = some (.if_icmp .ge 16, 3, 0, 0, 0, 0, 0) := (pg_16 6).trans rfl
theorem f_16_9 : fe0 16 9 = some (.aload_n 0, 1, 0, 0, 0, 0, 0) := (pg_16 9).trans rfl
theorem f_16_10 : fe0 16 10 = some (.aload_n 0, 1, 0, 0, 0, 0, 0) := (pg_16 10).trans rfl
theorem f_16_11 : fe0 16 11 = some (.getfield 30, 3, 2, 5, 1, 0, 1110) := (pg_16 11).trans rfl
theorem f_16_14 : fe0 16 14 = some (.iload_n 1, 1, 0, 0, 0, 0, 0) := (pg_16 14).trans rfl
theorem f_16_15 : fe0 16 15 = some (.iaload, 1, 0, 0, 0, 0, 0) := (pg_16 15).trans rfl
theorem f_16_16 : fe0 16 16 = some (.invokevirtual 70, 3, 13, 1, 0, 2, 2089) := (pg_16 16).trans rfl
theorem f_16_19 : fe0 16 19 = some (.goto 4, 3, 0, 0, 0, 0, 0) := (pg_16 19).trans rfl
theorem f_16_22 : fe0 16 22 = some (.aconst_null, 1, 0, 0, 0, 0, 0) := (pg_16 22).trans rfl
theorem f_16_23 : fe0 16 23 = some (.areturn, 1, 0, 0, 0, 0, 0) := (pg_16 23).trans rfl
theorem q_16_0 (d : Nat) (l0 : Nat) (x1 : Int32) (μ : aMem) : Rn (d + 1) 16 (0, [.ref l0, .int x1], [], μ) = if x1 < 0 then (some (some (.ref 999999), μ)) else (if 3 ≤ x1 then (some (some (.ref 999999), μ)) else (if (mS μ l0).1 = 2 then ((rdI μ (mR μ l0 5) x1).bind fun v4 => if (mS μ l0).1 = 2 ∧ l0 < 999999 then ((cR d 13 [.ref l0, .int v4] μ).bind fun p5 => if p5.1 ≤ 999999 then some (some (.ref p5.1), p5.2) else none) else none) else none)) :=
  (e_nx f_16_0 rfl).trans ((e_lt f_16_1 rfl).trans (b_congr (fun h1 => (e_nx f_16_22 rfl).trans (e_rt f_16_23 rfl)) (fun h1 => (e_nx f_16_4 rfl).trans ((e_nx (q := (_, _, .int 3 :: _, _)) f_16_5 rfl).trans ((e_ge f_16_6 rfl).trans (b_congr (fun h2 => (e_nx f_16_22 rfl).trans (e_rt f_16_23 rfl)) (fun h2 => (e_nx f_16_9 rfl).trans ((e_nx f_16_10 rfl).trans ((e_gd f_16_11 rfl).trans (g_congr (Iff.rfl) (fun h3 => (e_nx f_16_14 rfl).trans ((e_ia (L := [.ref l0, .int x1]) (r := [.ref l0]) (μ := μ) f_16_15).trans (m_congr fun v4 => (e_gR (L := [.ref l0, .int x1]) (st := [.int v4, .ref l0]) (μ := μ) (L' := [.ref l0, .int x1]) (st' := []) f_16_16 rfl rfl).trans (g_congr (v_c2 rfl (Nat.le_of_ble_eq_true rfl)) (fun h6 => m_congr fun p5 => (e_nx f_16_19 rfl).trans (e_rg f_16_23 rfl))))))))))))))))
theorem pg_17 (pc : Nat) : fe0 17 pc = lk prg_17 pc := rfl
theorem f_17_0 : fe0 17 0 = some (.aload_n 0, 1, 0, 0, 0, 0, 0) := (pg_17 0).trans rfl
theorem f_17_1 : fe0 17 1 = some (.aload_n 0, 1, 0, 0, 0, 0, 0) := (pg_17 1).trans rfl
theorem f_17_2 : fe0 17 2 = some (.getfield 34, 3, 2, 6, 0, 0, 1112) := (pg_17 2).trans rfl
theorem f_17_5 : fe0 17 5 = some (.ldc 74, 2, 0, 0, 1103515245, 0, 2224) := (pg_17 5).trans rfl
theorem f_17_7 : fe0 17 7 = some (.imul, 1, 0, 0, 0, 0, 0) := (pg_17 7).trans rfl
theorem f_17_8 : fe0 17 8 = some (.sipush 12345, 3, 0, 0, 0, 0, 0) := (pg_17 8).trans rfl
theorem f_17_11 : fe0 17 11 = some (.iadd, 1, 0, 0, 0, 0, 0) := (pg_17 11).trans rfl
theorem f_17_12 : fe0 17 12 = some (.putfield 34, 3, 2, 6, 0, 0, 1112) := (pg_17 12).trans rfl
theorem f_17_15 : fe0 17 15 = some (.aload_n 0, 1, 0, 0, 0, 0, 0) := (pg_17 15).trans rfl
theorem f_17_16 : fe0 17 16 = some (.getfield 34, 3, 2, 6, 0, 0, 1112) := (pg_17 16).trans rfl
theorem f_17_19 : fe0 17 19 = some (.bipush 8, 2, 0, 0, 0, 0, 0) := (pg_17 19).trans rfl
theorem f_17_21 : fe0 17 21 = some (.iushr, 1, 0, 0, 0, 0, 0) := (pg_17 21).trans rfl
theorem f_17_22 : fe0 17 22 = some (.ireturn, 1, 0, 0, 0, 0, 0) := (pg_17 22).trans rfl
theorem q_17_0 (d : Nat) (l0 : Nat) (μ : aMem) : Rn d 17 (0, [.ref l0], [], μ) = if (mS μ l0).1 = 2 then (some (some (.int (((mF (setF μ l0 6 (((mF μ l0 6) * 1103515245) + 12345)) l0 6 : Int32).toUInt32 >>> ((8 : Int32).toUInt32 &&& Int32.toUInt32 31)).toInt32)), setF μ l0 6 (((mF μ l0 6) * 1103515245) + 12345))) else none :=
  (e_nx f_17_0 rfl).trans ((e_nx f_17_1 rfl).trans ((e_gd f_17_2 rfl).trans (g_congr (Iff.rfl) (fun h1 => (e_nx (q := (_, _, .int 1103515245 :: _, _)) f_17_5 rfl).trans ((e_nx f_17_7 rfl).trans ((e_nx (q := (_, _, .int 12345 :: _, _)) f_17_8 rfl).trans ((e_nx f_17_11 rfl).trans ((e_gk (L := [.ref l0]) (st := [.int (((mF μ l0 6) * 1103515245) + 12345), .ref l0]) (μ := μ) f_17_12 ((pi_iff rfl).mpr h1) rfl).trans ((e_nx f_17_15 rfl).trans ((e_gk f_17_16 (h1) rfl).trans ((e_nx (q := (_, _, .int 8 :: _, _)) f_17_19 rfl).trans ((e_nx f_17_21 rfl).trans (e_rt f_17_22 rfl)))))))))))))
theorem pg_18 (pc : Nat) : fe0 18 pc = lk prg_18 pc := rfl
theorem f_18_0 : fe0 18 0 = some (.aload_n 0, 1, 0, 0, 0, 0, 0) := (pg_18 0).trans rfl
theorem f_18_1 : fe0 18 1 = some (.invokevirtual 75, 3, 17, 0, 0, 2, 2220) := (pg_18 1).trans rfl
theorem f_18_4 : fe0 18 4 = some (.bipush 6, 2, 0, 0, 0, 0, 0) := (pg_18 4).trans rfl
theorem f_18_6 : fe0 18 6 = some (.irem, 1, 0, 0, 0, 0, 0) := (pg_18 6).trans rfl
theorem f_18_7 : fe0 18 7 = some (.istore_n 1, 1, 0, 0, 0, 0, 0) := (pg_18 7).trans rfl
theorem f_18_8 : fe0 18 8 = some (.aload_n 0, 1, 0, 0, 0, 0, 0) := (pg_18 8).trans rfl
theorem f_18_9 : fe0 18 9 = some (.invokevirtual 75, 3, 17, 0, 0, 2, 2220) := (pg_18 9).trans rfl
theorem f_18_12 : fe0 18 12 = some (.bipush 20, 2, 0, 0, 0, 0, 0) := (pg_18 12).trans rfl
theorem f_18_14 : fe0 18 14 = some (.irem, 1, 0, 0, 0, 0, 0) := (pg_18 14).trans rfl
theorem f_18_15 : fe0 18 15 = some (.istore_n 2, 1, 0, 0, 0, 0, 0) := (pg_18 15).trans rfl
theorem f_18_16 : fe0 18 16 = some (.aload_n 0, 1, 0, 0, 0, 0, 0) := (pg_18 16).trans rfl
theorem f_18_17 : fe0 18 17 = some (.invokevirtual 75, 3, 17, 0, 0, 2, 2220) := (pg_18 17).trans rfl
theorem f_18_20 : fe0 18 20 = some (.bipush 11, 2, 0, 0, 0, 0, 0) := (pg_18 20).trans rfl
theorem f_18_22 : fe0 18 22 = some (.irem, 1, 0, 0, 0, 0, 0) := (pg_18 22).trans rfl
theorem f_18_23 : fe0 18 23 = some (.istore_n 3, 1, 0, 0, 0, 0, 0) := (pg_18 23).trans rfl
theorem f_18_24 : fe0 18 24 = some (.aload_n 0, 1, 0, 0, 0, 0, 0) := (pg_18 24).trans rfl
theorem f_18_25 : fe0 18 25 = some (.invokevirtual 75, 3, 17, 0, 0, 2, 2220) := (pg_18 25).trans rfl
theorem f_18_28 : fe0 18 28 = some (.iconst 3, 1, 0, 0, 0, 0, 0) := (pg_18 28).trans rfl
theorem f_18_29 : fe0 18 29 = some (.irem, 1, 0, 0, 0, 0, 0) := (pg_18 29).trans rfl
theorem f_18_30 : fe0 18 30 = some (.istore 4, 2, 0, 0, 0, 0, 0) := (pg_18 30).trans rfl
theorem f_18_32 : fe0 18 32 = some (.aload_n 0, 1, 0, 0, 0, 0, 0) := (pg_18 32).trans rfl
theorem f_18_33 : fe0 18 33 = some (.iload_n 1, 1, 0, 0, 0, 0, 0) := (pg_18 33).trans rfl
theorem f_18_34 : fe0 18 34 = some (.iload_n 2, 1, 0, 0, 0, 0, 0) := (pg_18 34).trans rfl
theorem f_18_35 : fe0 18 35 = some (.iload_n 3, 1, 0, 0, 0, 0, 0) := (pg_18 35).trans rfl
theorem f_18_36 : fe0 18 36 = some (.iload 4, 2, 0, 0, 0, 0, 0) := (pg_18 36).trans rfl
theorem f_18_38 : fe0 18 38 = some (.invokevirtual 79, 3, 14, 4, 0, 2, 2225) := (pg_18 38).trans rfl
theorem f_18_41 : fe0 18 41 = some (.pop, 1, 0, 0, 0, 0, 0) := (pg_18 41).trans rfl
theorem f_18_42 : fe0 18 42 = some (.return_, 1, 0, 0, 0, 0, 0) := (pg_18 42).trans rfl
theorem q_18_0 (d : Nat) (l0 : Nat) (μ : aMem) : Rn (d + 1) 18 (0, [.ref l0, un, un, un, un], [], μ) = if (mS μ l0).1 = 2 ∧ l0 < 999999 then ((cI d 17 [.ref l0] μ).bind fun p1 => if (mS p1.2 l0).1 = 2 ∧ l0 < 999999 then ((cI d 17 [.ref l0] p1.2).bind fun p3 => if (mS p3.2 l0).1 = 2 ∧ l0 < 999999 then ((cI d 17 [.ref l0] p3.2).bind fun p5 => if (mS p5.2 l0).1 = 2 ∧ l0 < 999999 then ((cI d 17 [.ref l0] p5.2).bind fun p7 => if (mS p7.2 l0).1 = 2 ∧ l0 < 999999 then ((cI d 14 [.ref l0, .int (p1.1 - p1.1 / 6 * 6), .int (p3.1 - p3.1 / 20 * 20), .int (p5.1 - p5.1 / 11 * 11), .int (p7.1 - p7.1 / 3 * 3)] p7.2).bind fun p9 => some (none, p9.2)) else none) else none) else none) else none) else none :=
  (e_nx f_18_0 rfl).trans ((e_gI (L := [.ref l0, un, un, un, un]) (st := [.ref l0]) (μ := μ) (L' := [.ref l0, un, un, un, un]) (st' := []) f_18_1 rfl rfl).trans (g_congr (v_c2 rfl (Nat.le_of_ble_eq_true rfl)) (fun h2 => m_congr fun p1 => (e_nx (q := (_, _, .int 6 :: _, _)) f_18_4 rfl).trans ((e_nx f_18_6 rfl).trans ((e_nx (q := (_, [.ref l0, .int (p1.1 - p1.1 / 6 * 6), un, un, un], _, _)) f_18_7 rfl).trans ((e_nx f_18_8 rfl).trans ((e_gI (L := [.ref l0, .int (p1.1 - p1.1 / 6 * 6), un, un, un]) (st := [.ref l0]) (μ := p1.2) (L' := [.ref l0, .int (p1.1 - p1.1 / 6 * 6), un, un, un]) (st' := []) f_18_9 rfl rfl).trans (g_congr (v_c2 rfl (Nat.le_of_ble_eq_true rfl)) (fun h4 => m_congr fun p3 => (e_nx (q := (_, _, .int 20 :: _, _)) f_18_12 rfl).trans ((e_nx f_18_14 rfl).trans ((e_nx (q := (_, [.ref l0, .int (p1.1 - p1.1 / 6 * 6), .int (p3.1 - p3.1 / 20 * 20), un, un], _, _)) f_18_15 rfl).trans ((e_nx f_18_16 rfl).trans ((e_gI (L := [.ref l0, .int (p1.1 - p1.1 / 6 * 6), .int (p3.1 - p3.1 / 20 * 20), un, un]) (st := [.ref l0]) (μ := p3.2) (L' := [.ref l0, .int (p1.1 - p1.1 / 6 * 6), .int (p3.1 - p3.1 / 20 * 20), un, un]) (st' := []) f_18_17 rfl rfl).trans (g_congr (v_c2 rfl (Nat.le_of_ble_eq_true rfl)) (fun h6 => m_congr fun p5 => (e_nx (q := (_, _, .int 11 :: _, _)) f_18_20 rfl).trans ((e_nx f_18_22 rfl).trans ((e_nx (q := (_, [.ref l0, .int (p1.1 - p1.1 / 6 * 6), .int (p3.1 - p3.1 / 20 * 20), .int (p5.1 - p5.1 / 11 * 11), un], _, _)) f_18_23 rfl).trans ((e_nx f_18_24 rfl).trans ((e_gI (L := [.ref l0, .int (p1.1 - p1.1 / 6 * 6), .int (p3.1 - p3.1 / 20 * 20), .int (p5.1 - p5.1 / 11 * 11), un]) (st := [.ref l0]) (μ := p5.2) (L' := [.ref l0, .int (p1.1 - p1.1 / 6 * 6), .int (p3.1 - p3.1 / 20 * 20), .int (p5.1 - p5.1 / 11 * 11), un]) (st' := []) f_18_25 rfl rfl).trans (g_congr (v_c2 rfl (Nat.le_of_ble_eq_true rfl)) (fun h8 => m_congr fun p7 => (e_nx (q := (_, _, .int 3 :: _, _)) f_18_28 rfl).trans ((e_nx f_18_29 rfl).trans ((e_nx (q := (_, [.ref l0, .int (p1.1 - p1.1 / 6 * 6), .int (p3.1 - p3.1 / 20 * 20), .int (p5.1 - p5.1 / 11 * 11), .int (p7.1 - p7.1 / 3 * 3)], _, _)) f_18_30 rfl).trans ((e_nx f_18_32 rfl).trans ((e_nx f_18_33 rfl).trans ((e_nx f_18_34 rfl).trans ((e_nx f_18_35 rfl).trans ((e_nx f_18_36 rfl).trans ((e_gI (L := [.ref l0, .int (p1.1 - p1.1 / 6 * 6), .int (p3.1 - p3.1 / 20 * 20), .int (p5.1 - p5.1 / 11 * 11), .int (p7.1 - p7.1 / 3 * 3)]) (st := [.int (p7.1 - p7.1 / 3 * 3), .int (p5.1 - p5.1 / 11 * 11), .int (p3.1 - p3.1 / 20 * 20), .int (p1.1 - p1.1 / 6 * 6), .ref l0]) (μ := p7.2) (L' := [.ref l0, .int (p1.1 - p1.1 / 6 * 6), .int (p3.1 - p3.1 / 20 * 20), .int (p5.1 - p5.1 / 11 * 11), .int (p7.1 - p7.1 / 3 * 3)]) (st' := []) f_18_38 rfl rfl).trans (g_congr (v_c2 rfl (Nat.le_of_ble_eq_true rfl)) (fun h10 => m_congr fun p9 => (e_nx f_18_41 rfl).trans (e_rt f_18_42 rfl))))))))))))))))))))))))))))))))
theorem pg_19 (pc : Nat) : fe0 19 pc = lk prg_19 pc := rfl
theorem f_19_0 : fe0 19 0 = some (.aload_n 0, 1, 0, 0, 0, 0, 0) := (pg_19 0).trans rfl
theorem f_19_1 : fe0 19 1 = some (.aload_n 1, 1, 0, 0, 0, 0, 0) := (pg_19 1).trans rfl
theorem f_19_2 : fe0 19 2 = some (.getfield 45, 3, 2, 1, 0, 0, 1101) := (pg_19 2).trans rfl
theorem f_19_5 : fe0 19 5 = some (.putfield 45, 3, 2, 1, 0, 0, 1101) := (pg_19 5).trans rfl
theorem f_19_8 : fe0 19 8 = some (.iconst 0, 1, 0, 0, 0, 0, 0) := (pg_19 8).trans rfl
theorem f_19_9 : fe0 19 9 = some (.istore_n 2, 1, 0, 0, 0, 0, 0) := (pg_19 9).trans rfl
theorem f_19_10 : fe0 19 10 = some (.iload_n 2, 1, 0, 0, 0, 0, 0) := (pg_19 10).trans rfl
theorem f_19_11 : fe0 19 11 = some (.bipush 10, 2, 0, 0, 0, 0, 0) := (pg_19 11).trans rfl
theorem f_19_13 : fe0 19 13 = some (.if_icmp .ge 24, 3, 0, 0, 0, 0, 0) := (pg_19 13).trans rfl
theorem f_19_16 : fe0 19 16 = some (.aload_n 0, 1, 0, 0, 0, 0, 0) := (pg_19 16).trans rfl
theorem f_19_17 : fe0 19 17 = some (.getfield 11, 3, 2, 0, 1, 0, 1098) := (pg_19 17).trans rfl
theorem f_19_20 : fe0 19 20 = some (.iload_n 2, 1, 0, 0, 0, 0, 0) := (pg_19 20).trans rfl
theorem f_19_21 : fe0 19 21 = some (.aaload, 1, 0, 0, 0, 0, 0) := (pg_19 21).trans rfl
theorem f_19_22 : fe0 19 22 = some (.aload_n 1, 1, 0, 0, 0, 0, 0) := (pg_19 22).trans rfl
theorem f_19_23 : fe0 19 23 = some (.getfield 11, 3, 2, 0, 1, 0, 1098) := (pg_19 23).trans rfl
theorem f_19_26 : fe0 19 26 = some (.iload_n 2, 1, 0, 0, 0, 0, 0) := (pg_19 26).trans rfl
theorem f_19_27 : fe0 19 27 = some (.aaload, 1, 0, 0, 0, 0, 0) := (pg_19 27).trans rfl
theorem f_19_28 : fe0 19 28 = some (.invokevirtual 83, 3, 6, 1, 0, 1, 4235) := (pg_19 28).trans rfl
theorem f_19_31 : fe0 19 31 = some (.iinc 2 1, 3, 0, 0, 0, 0, 0) := (pg_19 31).trans rfl
theorem f_19_34 : fe0 19 34 = some (.goto (-24), 3, 0, 0, 0, 0, 0) := (pg_19 34).trans rfl
theorem f_19_37 : fe0 19 37 = some (.aload_n 0, 1, 0, 0, 0, 0, 0) := (pg_19 37).trans rfl
theorem f_19_38 : fe0 19 38 = some (.getfield 20, 3, 2, 2, 1, 0, 1104) := (pg_19 38).trans rfl
theorem f_19_41 : fe0 19 41 = some (.aload_n 1, 1, 0, 0, 0, 0, 0) := (pg_19 41).trans rfl
theorem f_19_42 : fe0 19 42 = some (.getfield 20, 3, 2, 2, 1, 0, 1104) := (pg_19 42).trans rfl
theorem f_19_45 : fe0 19 45 = some (.invokevirtual 87, 3, 4, 1, 0, 0, 4236) := (pg_19 45).trans rfl
theorem f_19_48 : fe0 19 48 = some (.aload_n 0, 1, 0, 0, 0, 0, 0) := (pg_19 48).trans rfl
theorem f_19_49 : fe0 19 49 = some (.aload_n 1, 1, 0, 0, 0, 0, 0) := (pg_19 49).trans rfl
theorem f_19_50 : fe0 19 50 = some (.getfield 48, 3, 2, 4, 0, 0, 1108) := (pg_19 50).trans rfl
theorem f_19_53 : fe0 19 53 = some (.putfield 48, 3, 2, 4, 0, 0, 1108) := (pg_19 53).trans rfl
theorem f_19_56 : fe0 19 56 = some (.iconst 0, 1, 0, 0, 0, 0, 0) := (pg_19 56).trans rfl
theorem f_19_57 : fe0 19 57 = some (.istore_n 2, 1, 0, 0, 0, 0, 0) := (pg_19 57).trans rfl
theorem f_19_58 : fe0 19 58 = some (.iload_n 2, 1, 0, 0, 0, 0, 0) := (pg_19 58).trans rfl
theorem f_19_59 : fe0 19 59 = some (.bipush 14, 2, 0, 0, 0, 0, 0) := (pg_19 59).trans rfl
theorem f_19_61 : fe0 19 61 = some (.if_icmp .ge 21, 3, 0, 0, 0, 0, 0) := (pg_19 61).trans rfl
theorem f_19_64 : fe0 19 64 = some (.aload_n 0, 1, 0, 0, 0, 0, 0) := (pg_19 64).trans rfl
theorem f_19_65 : fe0 19 65 = some (.getfield 26, 3, 2, 3, 1, 0, 1107) := (pg_19 65).trans rfl
theorem f_19_68 : fe0 19 68 = some (.iload_n 2, 1, 0, 0, 0, 0, 0) := (pg_19 68).trans rfl
theorem f_19_69 : fe0 19 69 = some (.aload_n 1, 1, 0, 0, 0, 0, 0) := (pg_19 69).trans rfl
theorem f_19_70 : fe0 19 70 = some (.getfield 26, 3, 2, 3, 1, 0, 1107) := (pg_19 70).trans rfl
theorem f_19_73 : fe0 19 73 = some (.iload_n 2, 1, 0, 0, 0, 0, 0) := (pg_19 73).trans rfl
theorem f_19_74 : fe0 19 74 = some (.aaload, 1, 0, 0, 0, 0, 0) := (pg_19 74).trans rfl
theorem f_19_75 : fe0 19 75 = some (.aastore, 1, 0, 0, 0, 0, 0) := (pg_19 75).trans rfl
theorem f_19_76 : fe0 19 76 = some (.iinc 2 1, 3, 0, 0, 0, 0, 0) := (pg_19 76).trans rfl
theorem f_19_79 : fe0 19 79 = some (.goto (-21), 3, 0, 0, 0, 0, 0) := (pg_19 79).trans rfl
theorem f_19_82 : fe0 19 82 = some (.aload_n 1, 1, 0, 0, 0, 0, 0) := (pg_19 82).trans rfl
theorem f_19_83 : fe0 19 83 = some (.getfield 30, 3, 2, 5, 1, 0, 1110) := (pg_19 83).trans rfl
theorem f_19_86 : fe0 19 86 = some (.iconst 0, 1, 0, 0, 0, 0, 0) := (pg_19 86).trans rfl
theorem f_19_87 : fe0 19 87 = some (.aload_n 0, 1, 0, 0, 0, 0, 0) := (pg_19 87).trans rfl
theorem f_19_88 : fe0 19 88 = some (.getfield 30, 3, 2, 5, 1, 0, 1110) := (pg_19 88).trans rfl
theorem f_19_91 : fe0 19 91 = some (.iconst 0, 1, 0, 0, 0, 0, 0) := (pg_19 91).trans rfl
theorem f_19_92 : fe0 19 92 = some (.iconst 3, 1, 0, 0, 0, 0, 0) := (pg_19 92).trans rfl
theorem f_19_93 : fe0 19 93 = some (.invokestatic 90, 3, 0, 0, 9, 0, 5000) := (pg_19 93).trans rfl
theorem f_19_96 : fe0 19 96 = some (.aload_n 0, 1, 0, 0, 0, 0, 0) := (pg_19 96).trans rfl
theorem f_19_97 : fe0 19 97 = some (.aload_n 1, 1, 0, 0, 0, 0, 0) := (pg_19 97).trans rfl
theorem f_19_98 : fe0 19 98 = some (.getfield 34, 3, 2, 6, 0, 0, 1112) := (pg_19 98).trans rfl
theorem f_19_101 : fe0 19 101 = some (.putfield 34, 3, 2, 6, 0, 0, 1112) := (pg_19 101).trans rfl
theorem f_19_104 : fe0 19 104 = some (.return_, 1, 0, 0, 0, 0, 0) := (pg_19 104).trans rfl
theorem q_19_0 (d : Nat) (l0 : Nat) (l1 : Nat) (μ : aMem) : Rn (d + 1) 19 (0, [.ref l0, .ref l1, un], [], μ) = if (mS μ l1).1 = 2 then (if (mS μ l0).1 = 2 then (Rn (d + 1) 19 (10, [.ref l0, .ref l1, .int 0], [], setF μ l0 1 (mF μ l1 1))) else none) else none :=
  (e_nx f_19_0 rfl).trans ((e_nx f_19_1 rfl).trans ((e_gd f_19_2 rfl).trans (g_congr (Iff.rfl) (fun h1 => (e_gd (L := [.ref l0, .ref l1, un]) (st := [.int (mF μ l1 1), .ref l0]) (μ := μ) f_19_5 rfl).trans (g_congr (pi_iff rfl) (fun h2 => (e_nx (q := (_, _, .int 0 :: _, _)) f_19_8 rfl).trans (e_nx (q := (_, [.ref l0, .ref l1, .int 0], _, _)) f_19_9 rfl)))))))
theorem q_19_10 (d : Nat) (l0 : Nat) (l1 : Nat) (x2 : Int32) (μ : aMem) : Rn (d + 1) 19 (10, [.ref l0, .ref l1, .int x2], [], μ) = if 10 ≤ x2 then (if (mS μ l0).1 = 2 then (if (mS μ l1).1 = 2 then (if (mS μ (mR μ l0 2)).1 = 0 ∧ (mR μ l0 2) < 999999 then ((cV d 4 [.ref (mR μ l0 2), .ref (mR μ l1 2)] μ).bind fun p4 => if (mS p4 l1).1 = 2 then (if (mS p4 l0).1 = 2 then (Rn (d + 1) 19 (58, [.ref l0, .ref l1, .int 0], [], setF p4 l0 4 (mF p4 l1 4))) else none) else none) else none) else none) else none) else (if (mS μ l0).1 = 2 then (if 12 ≤ (mS μ (mR μ l0 0)).1 ∧ (mS μ (mR μ l0 0)).1 < 16 ∧ inb x2 (mS μ (mR μ l0 0)).2 then (if (mS μ l1).1 = 2 then (if 12 ≤ (mS μ (mR μ l1 0)).1 ∧ (mS μ (mR μ l1 0)).1 < 16 ∧ inb x2 (mS μ (mR μ l1 0)).2 then (if (mS μ (mR μ (mR μ l0 0) (ix x2))).1 = 1 ∧ (mR μ (mR μ l0 0) (ix x2)) < 999999 then ((cV d 6 [.ref (mR μ (mR μ l0 0) (ix x2)), .ref (mR μ (mR μ l1 0) (ix x2))] μ).bind fun p12 => Rn (d + 1) 19 (10, [.ref l0, .ref l1, .int (x2 + 1)], [], p12)) else none) else none) else none) else none) else none) :=
  (e_nx f_19_10 rfl).trans ((e_nx (q := (_, _, .int 10 :: _, _)) f_19_11 rfl).trans ((e_ge f_19_13 rfl).trans (b_congr (fun h1 => (e_nx f_19_37 rfl).trans ((e_gd f_19_38 rfl).trans (g_congr (Iff.rfl) (fun h2 => (e_nx f_19_41 rfl).trans ((e_gd f_19_42 rfl).trans (g_congr (Iff.rfl) (fun h3 => (e_gV (L := [.ref l0, .ref l1, .int x2]) (st := [.ref (mR μ l1 2), .ref (mR μ l0 2)]) (μ := μ) (L' := [.ref l0, .ref l1, .int x2]) (st' := []) f_19_45 rfl rfl).trans (g_congr (v_c2 rfl (Nat.le_of_ble_eq_true rfl)) (fun h5 => m_congr fun p4 => (e_nx f_19_48 rfl).trans ((e_nx f_19_49 rfl).trans ((e_gd f_19_50 rfl).trans (g_congr (Iff.rfl) (fun h6 => (e_gd (L := [.ref l0, .ref l1, .int x2]) (st := [.int (mF p4 l1 4), .ref l0]) (μ := p4) f_19_53 rfl).trans (g_congr (pi_iff rfl) (fun h7 => (e_nx (q := (_, _, .int 0 :: _, _)) f_19_56 rfl).trans (e_nx (q := (_, [.ref l0, .ref l1, .int 0], _, _)) f_19_57 rfl)))))))))))))))) (fun h1 => (e_nx f_19_16 rfl).trans ((e_gd f_19_17 rfl).trans (g_congr (Iff.rfl) (fun h8 => (e_nx f_19_20 rfl).trans ((e_gd f_19_21 rfl).trans (g_congr (Iff.rfl) (fun h9 => (e_nx f_19_22 rfl).trans ((e_gd f_19_23 rfl).trans (g_congr (Iff.rfl) (fun h10 => (e_nx f_19_26 rfl).trans ((e_gd f_19_27 rfl).trans (g_congr (Iff.rfl) (fun h11 => (e_gV (L := [.ref l0, .ref l1, .int x2]) (st := [.ref (mR μ (mR μ l1 0) (ix x2)), .ref (mR μ (mR μ l0 0) (ix x2))]) (μ := μ) (L' := [.ref l0, .ref l1, .int x2]) (st' := []) f_19_28 rfl rfl).trans (g_congr (v_c2 rfl (Nat.le_of_ble_eq_true rfl)) (fun h13 => m_congr fun p12 => (e_nx (q := (_, [.ref l0, .ref l1, .int (x2 + 1)], _, _)) f_19_31 rfl).trans (e_nx f_19_34 rfl)))))))))))))))))))
theorem q_19_58 (d : Nat) (l0 : Nat) (l1 : Nat) (x2 : Int32) (μ : aMem) : Rn (d + 1) 19 (58, [.ref l0, .ref l1, .int x2], [], μ) = if 14 ≤ x2 then (if (mS μ l1).1 = 2 then (if (mS μ l0).1 = 2 then (if (mS μ (mR μ l1 5)).1 = 10 ∧ (mS μ (mR μ l0 5)).1 = 10 ∧ ¬ (0 : Int32) < 0 ∧ ¬ (0 : Int32) < 0 ∧ ¬ (3 : Int32) < 0 ∧ ix 0 + ix 3 ≤ (mS μ (mR μ l1 5)).2 ∧ ix 0 + ix 3 ≤ (mS μ (mR μ l0 5)).2 then (some (none, setF (cpyF μ (mR μ l1 5) (mR μ l0 5) (ix 0) (ix 0) (ix 3)) l0 6 (mF (cpyF μ (mR μ l1 5) (mR μ l0 5) (ix 0) (ix 0) (ix 3)) l1 6))) else none) else none) else none) else (if (mS μ l0).1 = 2 then (if (mS μ l1).1 = 2 then (if 12 ≤ (mS μ (mR μ l1 3)).1 ∧ (mS μ (mR μ l1 3)).1 < 16 ∧ inb x2 (mS μ (mR μ l1 3)).2 then (if 12 ≤ (mS μ (mR μ l0 3)).1 ∧ (mS μ (mR μ l0 3)).1 < 16 ∧ inb x2 (mS μ (mR μ l0 3)).2 ∧ ((mR μ (mR μ l1 3) (ix x2)) = 999999 ∨ ((mR μ (mR μ l1 3) (ix x2)) < 999999 ∧ (mS μ (mR μ (mR μ l1 3) (ix x2))).1 = ecl (mS μ (mR μ l0 3)).1)) then (Rn (d + 1) 19 (58, [.ref l0, .ref l1, .int (x2 + 1)], [], setR μ (mR μ l0 3) (ix x2) (mR μ (mR μ l1 3) (ix x2)))) else none) else none) else none) else none) :=
  (e_nx f_19_58 rfl).trans ((e_nx (q := (_, _, .int 14 :: _, _)) f_19_59 rfl).trans ((e_ge f_19_61 rfl).trans (b_congr (fun h1 => (e_nx f_19_82 rfl).trans ((e_gd f_19_83 rfl).trans (g_congr (Iff.rfl) (fun h2 => (e_nx (q := (_, _, .int 0 :: _, _)) f_19_86 rfl).trans ((e_nx f_19_87 rfl).trans ((e_gd f_19_88 rfl).trans (g_congr (Iff.rfl) (fun h3 => (e_nx (q := (_, _, .int 0 :: _, _)) f_19_91 rfl).trans ((e_nx (q := (_, _, .int 3 :: _, _)) f_19_92 rfl).trans ((e_gd (L := [.ref l0, .ref l1, .int x2]) (st := [.int 3, .int 0, .ref (mR μ l0 5), .int 0, .ref (mR μ l1 5)]) (μ := μ) f_19_93 rfl).trans (g_congr (ac_iff (Nat.le_of_ble_eq_true rfl)) (fun h4 => (e_nx f_19_96 rfl).trans ((e_nx f_19_97 rfl).trans ((e_gk f_19_98 (h2) rfl).trans ((e_gk (L := [.ref l0, .ref l1, .int x2]) (st := [.int (mF (cpyF μ (mR μ l1 5) (mR μ l0 5) (ix 0) (ix 0) (ix 3)) l1 6), .ref l0]) (μ := cpyF μ (mR μ l1 5) (mR μ l0 5) (ix 0) (ix 0) (ix 3)) f_19_101 ((pi_iff rfl).mpr h3) rfl).trans (e_rt f_19_104 rfl)))))))))))))))) (fun h1 => (e_nx f_19_64 rfl).trans ((e_gd f_19_65 rfl).trans (g_congr (Iff.rfl) (fun h5 => (e_nx f_19_68 rfl).trans ((e_nx f_19_69 rfl).trans ((e_gd f_19_70 rfl).trans (g_congr (Iff.rfl) (fun h6 => (e_nx f_19_73 rfl).trans ((e_gd f_19_74 rfl).trans (g_congr (Iff.rfl) (fun h7 => (e_gd f_19_75 rfl).trans (g_congr (Iff.rfl) (fun h8 => (e_nx (q := (_, [.ref l0, .ref l1, .int (x2 + 1)], _, _)) f_19_76 rfl).trans (e_nx f_19_79 rfl)))))))))))))))))
theorem pg_20 (pc : Nat) : fe0 20 pc = lk prg_20 pc := rfl
theorem f_20_0 : fe0 20 0 = some (.aload_n 0, 1, 0, 0, 0, 0, 0) := (pg_20 0).trans rfl
theorem f_20_1 : fe0 20 1 = some (.invokespecial 3, 3, 0, 0, 6, 0, 1174) := (pg_20 1).trans rfl
theorem f_20_4 : fe0 20 4 = some (.aload_n 0, 1, 0, 0, 0, 0, 0) := (pg_20 4).trans rfl
theorem f_20_5 : fe0 20 5 = some (.bipush 96, 2, 0, 0, 0, 0, 0) := (pg_20 5).trans rfl
theorem f_20_7 : fe0 20 7 = some (.newarray .int, 2, 10, 0, 0, 0, 0) := (pg_20 7).trans rfl
theorem f_20_9 : fe0 20 9 = some (.putfield 9, 3, 3, 0, 1, 0, 1175) := (pg_20 9).trans rfl
theorem f_20_12 : fe0 20 12 = some (.aload_n 0, 1, 0, 0, 0, 0, 0) := (pg_20 12).trans rfl
theorem f_20_13 : fe0 20 13 = some (.bipush 96, 2, 0, 0, 0, 0, 0) := (pg_20 13).trans rfl
theorem f_20_15 : fe0 20 15 = some (.newarray .int, 2, 10, 0, 0, 0, 0) := (pg_20 15).trans rfl
theorem f_20_17 : fe0 20 17 = some (.putfield 15, 3, 3, 2, 1, 0, 1177) := (pg_20 17).trans rfl
theorem f_20_20 : fe0 20 20 = some (.return_, 1, 0, 0, 0, 0, 0) := (pg_20 20).trans rfl
theorem q_20_0 (d : Nat) (l0 : Nat) (μ : aMem) : Rn d 20 (0, [.ref l0], [], μ) = if l0 < 999999 then (if mN μ < 900000 then (if (mS (newC μ 10 (ix 96)) l0).1 = 3 ∧ (mN μ) ≤ 999999 then (if mN (newC μ 10 (ix 96)) < 900000 then (if (mS (newC (setR (newC μ 10 (ix 96)) l0 0 (mN μ)) 10 (ix 96)) l0).1 = 3 ∧ (mN (newC μ 10 (ix 96))) ≤ 999999 then (some (none, setR (newC (setR (newC μ 10 (ix 96)) l0 0 (mN μ)) 10 (ix 96)) l0 2 (mN (newC μ 10 (ix 96))))) else none) else none) else none) else none) else none :=
  (e_nx f_20_0 rfl).trans ((e_gd (L := [.ref l0]) (st := [.ref l0]) (μ := μ) f_20_1 rfl).trans (g_congr (oi_iff (Nat.le_of_ble_eq_true rfl)) (fun h1 => (e_nx f_20_4 rfl).trans ((e_nx (q := (_, _, .int 96 :: _, _)) f_20_5 rfl).trans ((e_gd (L := [.ref l0]) (st := [.int 96, .ref l0]) (μ := μ) f_20_7 rfl).trans (g_congr (na_iff (by decide)) (fun h2 => (e_gd f_20_9 rfl).trans (g_congr (pr_iff rfl) (fun h3 => (e_nx f_20_12 rfl).trans ((e_nx (q := (_, _, .int 96 :: _, _)) f_20_13 rfl).trans ((e_gd (L := [.ref l0]) (st := [.int 96, .ref l0]) (μ := setR (newC μ 10 (ix 96)) l0 0 (mN μ)) f_20_15 rfl).trans (g_congr (na_iff (by decide)) (fun h4 => (e_gd f_20_17 rfl).trans (g_congr (pr_iff rfl) (fun h5 => e_rt f_20_20 rfl)))))))))))))))
theorem pg_21 (pc : Nat) : fe0 21 pc = lk prg_21 pc := rfl
theorem f_21_0 : fe0 21 0 = some (.aload_n 0, 1, 0, 0, 0, 0, 0) := (pg_21 0).trans rfl
theorem f_21_1 : fe0 21 1 = some (.iconst 0, 1, 0, 0, 0, 0, 0) := (pg_21 1).trans rfl
theorem f_21_2 : fe0 21 2 = some (.iload_n 2, 1, 0, 0, 0, 0, 0) := (pg_21 2).trans rfl
theorem f_21_3 : fe0 21 3 = some (.bipush 96, 2, 0, 0, 0, 0, 0) := (pg_21 3).trans rfl
theorem f_21_5 : fe0 21 5 = some (.invokestatic 18, 3, 0, 0, 8, 0, 3132) := (pg_21 5).trans rfl
theorem f_21_8 : fe0 21 8 = some (.invokestatic 24, 3, 0, 0, 7, 0, 3133) := (pg_21 8).trans rfl
theorem f_21_11 : fe0 21 11 = some (.putfield 27, 3, 3, 1, 0, 0, 1176) := (pg_21 11).trans rfl
theorem f_21_14 : fe0 21 14 = some (.aload_n 1, 1, 0, 0, 0, 0, 0) := (pg_21 14).trans rfl
theorem f_21_15 : fe0 21 15 = some (.iconst 0, 1, 0, 0, 0, 0, 0) := (pg_21 15).trans rfl
theorem f_21_16 : fe0 21 16 = some (.aload_n 0, 1, 0, 0, 0, 0, 0) := (pg_21 16).trans rfl
theorem f_21_17 : fe0 21 17 = some (.getfield 9, 3, 3, 0, 1, 0, 1175) := (pg_21 17).trans rfl
theorem f_21_20 : fe0 21 20 = some (.iconst 0, 1, 0, 0, 0, 0, 0) := (pg_21 20).trans rfl
theorem f_21_21 : fe0 21 21 = some (.aload_n 0, 1, 0, 0, 0, 0, 0) := (pg_21 21).trans rfl
theorem f_21_22 : fe0 21 22 = some (.getfield 27, 3, 3, 1, 0, 0, 1176) := (pg_21 22).trans rfl
theorem f_21_25 : fe0 21 25 = some (.aload_n 1, 1, 0, 0, 0, 0, 0) := (pg_21 25).trans rfl
theorem f_21_26 : fe0 21 26 = some (.arraylength, 1, 0, 0, 0, 0, 0) := (pg_21 26).trans rfl
theorem f_21_27 : fe0 21 27 = some (.invokestatic 18, 3, 0, 0, 8, 0, 3132) := (pg_21 27).trans rfl
theorem f_21_30 : fe0 21 30 = some (.invokestatic 31, 3, 0, 0, 9, 0, 3134) := (pg_21 30).trans rfl
theorem f_21_33 : fe0 21 33 = some (.aload_n 0, 1, 0, 0, 0, 0, 0) := (pg_21 33).trans rfl
theorem f_21_34 : fe0 21 34 = some (.iconst 0, 1, 0, 0, 0, 0, 0) := (pg_21 34).trans rfl
theorem f_21_35 : fe0 21 35 = some (.putfield 37, 3, 3, 3, 0, 0, 1178) := (pg_21 35).trans rfl
theorem f_21_38 : fe0 21 38 = some (.aload_n 0, 1, 0, 0, 0, 0, 0) := (pg_21 38).trans rfl
theorem f_21_39 : fe0 21 39 = some (.iconst 0, 1, 0, 0, 0, 0, 0) := (pg_21 39).trans rfl
theorem f_21_40 : fe0 21 40 = some (.putfield 40, 3, 3, 5, 0, 0, 1180) := (pg_21 40).trans rfl
theorem f_21_43 : fe0 21 43 = some (.aload_n 0, 1, 0, 0, 0, 0, 0) := (pg_21 43).trans rfl
theorem f_21_44 : fe0 21 44 = some (.iconst (-1), 1, 0, 0, 0, 0, 0) := (pg_21 44).trans rfl
theorem f_21_45 : fe0 21 45 = some (.putfield 43, 3, 3, 6, 0, 0, 1181) := (pg_21 45).trans rfl
theorem f_21_48 : fe0 21 48 = some (.aload_n 0, 1, 0, 0, 0, 0, 0) := (pg_21 48).trans rfl
theorem f_21_49 : fe0 21 49 = some (.iconst 0, 1, 0, 0, 0, 0, 0) := (pg_21 49).trans rfl
theorem f_21_50 : fe0 21 50 = some (.putfield 46, 3, 3, 7, 0, 0, 1182) := (pg_21 50).trans rfl
theorem f_21_53 : fe0 21 53 = some (.aload_n 0, 1, 0, 0, 0, 0, 0) := (pg_21 53).trans rfl
theorem f_21_54 : fe0 21 54 = some (.iconst 0, 1, 0, 0, 0, 0, 0) := (pg_21 54).trans rfl
theorem f_21_55 : fe0 21 55 = some (.putfield 49, 3, 3, 9, 0, 0, 1184) := (pg_21 55).trans rfl
theorem f_21_58 : fe0 21 58 = some (.aload_n 0, 1, 0, 0, 0, 0, 0) := (pg_21 58).trans rfl
theorem f_21_59 : fe0 21 59 = some (.invokevirtual 52, 3, 26, 0, 0, 3, 3135) := (pg_21 59).trans rfl
theorem f_21_62 : fe0 21 62 = some (.aload_n 0, 1, 0, 0, 0, 0, 0) := (pg_21 62).trans rfl
theorem f_21_63 : fe0 21 63 = some (.aload_n 0, 1, 0, 0, 0, 0, 0) := (pg_21 63).trans rfl
theorem f_21_64 : fe0 21 64 = some (.invokevirtual 55, 3, 28, 0, 0, 3, 3149) := (pg_21 64).trans rfl
theorem f_21_67 : fe0 21 67 = some (.putfield 59, 3, 3, 4, 0, 0, 1179) := (pg_21 67).trans rfl
theorem f_21_70 : fe0 21 70 = some (.aload_n 0, 1, 0, 0, 0, 0, 0) := (pg_21 70).trans rfl
theorem f_21_71 : fe0 21 71 = some (.getfield 59, 3, 3, 4, 0, 0, 1179) := (pg_21 71).trans rfl
theorem f_21_74 : fe0 21 74 = some (.ifCond .ge 8, 3, 0, 0, 0, 0, 0) := (pg_21 74).trans rfl
theorem f_21_77 : fe0 21 77 = some (.aload_n 0, 1, 0, 0, 0, 0, 0) := (pg_21 77).trans rfl
theorem f_21_78 : fe0 21 78 = some (.getfield 62, 3, 3, 8, 0, 0, 1183) := (pg_21 78).trans rfl
theorem f_21_81 : fe0 21 81 = some (.ireturn, 1, 0, 0, 0, 0, 0) := (pg_21 81).trans rfl
theorem f_21_82 : fe0 21 82 = some (.aload_n 0, 1, 0, 0, 0, 0, 0) := (pg_21 82).trans rfl
theorem f_21_83 : fe0 21 83 = some (.invokevirtual 52, 3, 26, 0, 0, 3, 3135) := (pg_21 83).trans rfl
theorem f_21_86 : fe0 21 86 = some (.aload_n 0, 1, 0, 0, 0, 0, 0) := (pg_21 86).trans rfl
theorem f_21_87 : fe0 21 87 = some (.iconst 0, 1, 0, 0, 0, 0, 0) := (pg_21 87).trans rfl
theorem f_21_88 : fe0 21 88 = some (.iconst 0, 1, 0, 0, 0, 0, 0) := (pg_21 88).trans rfl
theorem f_21_89 : fe0 21 89 = some (.iconst 0, 1, 0, 0, 0, 0, 0) := (pg_21 89).trans rfl
theorem f_21_90 : fe0 21 90 = some (.invokevirtual 65, 3, 35, 3, 0, 3, 3208) := (pg_21 90).trans rfl
theorem f_21_93 : fe0 21 93 = some (.aload_n 0, 1, 0, 0, 0, 0, 0) := (pg_21 93).trans rfl
theorem f_21_94 : fe0 21 94 = some (.getfield 43, 3, 3, 6, 0, 0, 1181) := (pg_21 94).trans rfl
theorem f_21_97 : fe0 21 97 = some (.ifCond .ge 18, 3, 0, 0, 0, 0, 0) := (pg_21 97).trans rfl
theorem f_21_100 : fe0 21 100 = some (.aload_n 0, 1, 0, 0, 0, 0, 0) := (pg_21 100).trans rfl
theorem f_21_101 : fe0 21 101 = some (.getfield 46, 3, 3, 7, 0, 0, 1182) := (pg_21 101).trans rfl
theorem f_21_104 : fe0 21 104 = some (.ifCond .eq 11, 3, 0, 0, 0, 0, 0) := (pg_21 104).trans rfl
theorem f_21_107 : fe0 21 107 = some (.aload_n 0, 1, 0, 0, 0, 0, 0) := (pg_21 107).trans rfl
theorem f_21_108 : fe0 21 108 = some (.aload_n 0, 1, 0, 0, 0, 0, 0) := (pg_21 108).trans rfl
theorem f_21_109 : fe0 21 109 = some (.getfield 62, 3, 3, 8, 0, 0, 1183) := (pg_21 109).trans rfl
theorem f_21_112 : fe0 21 112 = some (.putfield 43, 3, 3, 6, 0, 0, 1181) := (pg_21 112).trans rfl
theorem f_21_115 : fe0 21 115 = some (.aload_n 0, 1, 0, 0, 0, 0, 0) := (pg_21 115).trans rfl
theorem f_21_116 : fe0 21 116 = some (.getfield 43, 3, 3, 6, 0, 0, 1181) := (pg_21 116).trans rfl
theorem f_21_119 : fe0 21 119 = some (.ireturn, 1, 0, 0, 0, 0, 0) := (pg_21 119).trans rfl
theorem q_21_0 (d : Nat) (l0 : Nat) (l1 : Nat) (x2 : Int32) (μ : aMem) : Rn (d + 1) 21 (0, [.ref l0, .ref l1, .int x2], [], μ) = if (mS μ l0).1 = 3 then ((rdL μ l1).bind fun v2 => if (mS μ l1).1 = 10 ∧ (mS μ (mR μ l0 0)).1 = 10 ∧ ¬ (0 : Int32) < 0 ∧ ¬ (0 : Int32) < 0 ∧ ¬ ((if v2 < (mF (setF μ l0 1 (if 0 < (if 96 < x2 then 96 else x2) then (if 96 < x2 then 96 else x2) else 0)) l0 1) then v2 else (mF (setF μ l0 1 (if 0 < (if 96 < x2 then 96 else x2) then (if 96 < x2 then 96 else x2) else 0)) l0 1)) : Int32) < 0 ∧ ix 0 + ix (if v2 < (mF (setF μ l0 1 (if 0 < (if 96 < x2 then 96 else x2) then (if 96 < x2 then 96 else x2) else 0)) l0 1) then v2 else (mF (setF μ l0 1 (if 0 < (if 96 < x2 then 96 else x2) then (if 96 < x2 then 96 else x2) else 0)) l0 1)) ≤ (mS μ l1).2 ∧ ix 0 + ix (if v2 < (mF (setF μ l0 1 (if 0 < (if 96 < x2 then 96 else x2) then (if 96 < x2 then 96 else x2) else 0)) l0 1) then v2 else (mF (setF μ l0 1 (if 0 < (if 96 < x2 then 96 else x2) then (if 96 < x2 then 96 else x2) else 0)) l0 1)) ≤ (mS μ (mR μ l0 0)).2 then (if (mS μ l0).1 = 3 ∧ l0 < 999999 then ((cV d 26 [.ref l0] (setF (setF (setF (setF (setF (cpyF (setF μ l0 1 (if 0 < (if 96 < x2 then 96 else x2) then (if 96 < x2 then 96 else x2) else 0)) l1 (mR μ l0 0) (ix 0) (ix 0) (ix (if v2 < (mF (setF μ l0 1 (if 0 < (if 96 < x2 then 96 else x2) then (if 96 < x2 then 96 else x2) else 0)) l0 1) then v2 else (mF (setF μ l0 1 (if 0 < (if 96 < x2 then 96 else x2) then (if 96 < x2 then 96 else x2) else 0)) l0 1)))) l0 3 0) l0 5 0) l0 6 (-1)) l0 7 0) l0 9 0)).bind fun p4 => if (mS p4 l0).1 = 3 ∧ l0 < 999999 then ((cI d 28 [.ref l0] p4).bind fun p6 => if (mS p6.2 l0).1 = 3 then (if 0 ≤ (mF (setF p6.2 l0 4 p6.1) l0 4) then (if (mS p6.2 l0).1 = 3 ∧ l0 < 999999 then ((cV d 26 [.ref l0] (setF p6.2 l0 4 p6.1)).bind fun p10 => if (mS p10 l0).1 = 3 ∧ l0 < 999999 then ((cV d 35 [.ref l0, .int 0, .int 0, .int 0] p10).bind fun p12 => if (mS p12 l0).1 = 3 then (if 0 ≤ (mF p12 l0 6) then (some (some (.int (mF p12 l0 6)), p12)) else (if (mF p12 l0 7) = 0 then (some (some (.int (mF p12 l0 6)), p12)) else (some (some (.int (mF (setF p12 l0 6 (mF p12 l0 8)) l0 6)), setF p12 l0 6 (mF p12 l0 8))))) else none) else none) else none) else (some (some (.int (mF (setF p6.2 l0 4 p6.1) l0 8)), setF p6.2 l0 4 p6.1))) else none) else none) else none) else none) else none :=
  (e_nx f_21_0 rfl).trans ((e_nx (q := (_, _, .int 0 :: _, _)) f_21_1 rfl).trans ((e_nx f_21_2 rfl).trans ((e_nx (q := (_, _, .int 96 :: _, _)) f_21_3 rfl).trans ((e_nx f_21_5 rfl).trans ((e_nx f_21_8 rfl).trans ((e_gd (L := [.ref l0, .ref l1, .int x2]) (st := [.int (if 0 < (if 96 < x2 then 96 else x2) then (if 96 < x2 then 96 else x2) else 0), .ref l0]) (μ := μ) f_21_11 rfl).trans (g_congr (pi_iff rfl) (fun h1 => (e_nx f_21_14 rfl).trans ((e_nx (q := (_, _, .int 0 :: _, _)) f_21_15 rfl).trans ((e_nx f_21_16 rfl).trans ((e_gk f_21_17 (h1) rfl).trans ((e_nx (q := (_, _, .int 0 :: _, _)) f_21_20 rfl).trans ((e_nx f_21_21 rfl).trans ((e_gk f_21_22 (h1) rfl).trans ((e_nx f_21_25 rfl).trans ((e_al (L := [.ref l0, .ref l1, .int x2]) (r := [.int (mF (setF μ l0 1 (if 0 < (if 96 < x2 then 96 else x2) then (if 96 < x2 then 96 else x2) else 0)) l0 1), .int 0, .ref (mR μ l0 0), .int 0, .ref l1]) (μ := setF μ l0 1 (if 0 < (if 96 < x2 then 96 else x2) then (if 96 < x2 then 96 else x2) else 0)) f_21_26).trans (m_congr fun v2 => (e_nx f_21_27 rfl).trans ((e_gd (L := [.ref l0, .ref l1, .int x2]) (st := [.int (if v2 < (mF (setF μ l0 1 (if 0 < (if 96 < x2 then 96 else x2) then (if 96 < x2 then 96 else x2) else 0)) l0 1) then v2 else (mF (setF μ l0 1 (if 0 < (if 96 < x2 then 96 else x2) then (if 96 < x2 then 96 else x2) else 0)) l0 1)), .int 0, .ref (mR μ l0 0), .int 0, .ref l1]) (μ := setF μ l0 1 (if 0 < (if 96 < x2 then 96 else x2) then (if 96 < x2 then 96 else x2) else 0)) f_21_30 rfl).trans (g_congr (ac_iff (Nat.le_of_ble_eq_true rfl)) (fun h3 => (e_nx f_21_33 rfl).trans ((e_nx (q := (_, _, .int 0 :: _, _)) f_21_34 rfl).trans ((e_gk (L := [.ref l0, .ref l1, .int x2]) (st := [.int 0, .ref l0]) (μ := cpyF (setF μ l0 1 (if 0 < (if 96 < x2 then 96 else x2) then (if 96 < x2 then 96 else x2) else 0)) l1 (mR μ l0 0) (ix 0) (ix 0) (ix (if v2 < (mF (setF μ l0 1 (if 0 < (if 96 < x2 then 96 else x2) then (if 96 < x2 then 96 else x2) else 0)) l0 1) then v2 else (mF (setF μ l0 1 (if 0 < (if 96 < x2 then 96 else x2) then (if 96 < x2 then 96 else x2) else 0)) l0 1)))) f_21_35 ((pi_iff rfl).mpr h1) rfl).trans ((e_nx f_21_38 rfl).trans ((e_nx (q := (_, _, .int 0 :: _, _)) f_21_39 rfl).trans ((e_gk (L := [.ref l0, .ref l1, .int x2]) (st := [.int 0, .ref l0]) (μ := setF (cpyF (setF μ l0 1 (if 0 < (if 96 < x2 then 96 else x2) then (if 96 < x2 then 96 else x2) else 0)) l1 (mR μ l0 0) (ix 0) (ix 0) (ix (if v2 < (mF (setF μ l0 1 (if 0 < (if 96 < x2 then 96 else x2) then (if 96 < x2 then 96 else x2) else 0)) l0 1) then v2 else (mF (setF μ l0 1 (if 0 < (if 96 < x2 then 96 else x2) then (if 96 < x2 then 96 else x2) else 0)) l0 1)))) l0 3 0) f_21_40 ((pi_iff rfl).mpr h1) rfl).trans ((e_nx f_21_43 rfl).trans ((e_nx (q := (_, _, .int (-1) :: _, _)) f_21_44 rfl).trans ((e_gk (L := [.ref l0, .ref l1, .int x2]) (st := [.int (-1), .ref l0]) (μ := setF (setF (cpyF (setF μ l0 1 (if 0 < (if 96 < x2 then 96 else x2) then (if 96 < x2 then 96 else x2) else 0)) l1 (mR μ l0 0) (ix 0) (ix 0) (ix (if v2 < (mF (setF μ l0 1 (if 0 < (if 96 < x2 then 96 else x2) then (if 96 < x2 then 96 else x2) else 0)) l0 1) then v2 else (mF (setF μ l0 1 (if 0 < (if 96 < x2 then 96 else x2) then (if 96 < x2 then 96 else x2) else 0)) l0 1)))) l0 3 0) l0 5 0) f_21_45 ((pi_iff rfl).mpr h1) rfl).trans ((e_nx f_21_48 rfl).trans ((e_nx (q := (_, _, .int 0 :: _, _)) f_21_49 rfl).trans ((e_gk (L := [.ref l0, .ref l1, .int x2]) (st := [.int 0, .ref l0]) (μ := setF (setF (setF (cpyF (setF μ l0 1 (if 0 < (if 96 < x2 then 96 else x2) then (if 96 < x2 then 96 else x2) else 0)) l1 (mR μ l0 0) (ix 0) (ix 0) (ix (if v2 < (mF (setF μ l0 1 (if 0 < (if 96 < x2 then 96 else x2) then (if 96 < x2 then 96 else x2) else 0)) l0 1) then v2 else (mF (setF μ l0 1 (if 0 < (if 96 < x2 then 96 else x2) then (if 96 < x2 then 96 else x2) else 0)) l0 1)))) l0 3 0) l0 5 0) l0 6 (-1)) f_21_50 ((pi_iff rfl).mpr h1) rfl).trans ((e_nx f_21_53 rfl).trans ((e_nx (q := (_, _, .int 0 :: _, _)) f_21_54 rfl).trans ((e_gk (L := [.ref l0, .ref l1, .int x2]) (st := [.int 0, .ref l0]) (μ := setF (setF (setF (setF (cpyF (setF μ l0 1 (if 0 < (if 96 < x2 then 96 else x2) then (if 96 < x2 then 96 else x2) else 0)) l1 (mR μ l0 0) (ix 0) (ix 0) (ix (if v2 < (mF (setF μ l0 1 (if 0 < (if 96 < x2 then 96 else x2) then (if 96 < x2 then 96 else x2) else 0)) l0 1) then v2 else (mF (setF μ l0 1 (if 0 < (if 96 < x2 then 96 else x2) then (if 96 < x2 then 96 else x2) else 0)) l0 1)))) l0 3 0) l0 5 0) l0 6 (-1)) l0 7 0) f_21_55 ((pi_iff rfl).mpr h1) rfl).trans ((e_nx f_21_58 rfl).trans ((e_gV (L := [.ref l0, .ref l1, .int x2]) (st := [.ref l0]) (μ := setF (setF (setF (setF (setF (cpyF (setF μ l0 1 (if 0 < (if 96 < x2 then 96 else x2) then (if 96 < x2 then 96 else x2) else 0)) l1 (mR μ l0 0) (ix 0) (ix 0) (ix (if v2 < (mF (setF μ l0 1 (if 0 < (if 96 < x2 then 96 else x2) then (if 96 < x2 then 96 else x2) else 0)) l0 1) then v2 else (mF (setF μ l0 1 (if 0 < (if 96 < x2 then 96 else x2) then (if 96 < x2 then 96 else x2) else 0)) l0 1)))) l0 3 0) l0 5 0) l0 6 (-1)) l0 7 0) l0 9 0) (L' := [.ref l0, .ref l1, .int x2]) (st' := []) f_21_59 rfl rfl).trans (g_congr (v_c2 rfl (Nat.le_of_ble_eq_true rfl)) (fun h5 => m_congr fun p4 => (e_nx f_21_62 rfl).trans ((e_nx f_21_63 rfl).trans ((e_gI (L := [.ref l0, .ref l1, .int x2]) (st := [.ref l0, .ref l0]) (μ := p4) (L' := [.ref l0, .ref l1, .int x2]) (st' := [.ref l0]) f_21_64 rfl rfl).trans (g_congr (v_c2 rfl (Nat.le_of_ble_eq_true rfl)) (fun h7 => m_congr fun p6 => (e_gd (L := [.ref l0, .ref l1, .int x2]) (st := [.int p6.1, .ref l0]) (μ := p6.2) f_21_67 rfl).trans (g_congr (pi_iff rfl) (fun h8 => (e_nx f_21_70 rfl).trans ((e_gk f_21_71 (h8) rfl).trans ((e_ge f_21_74 rfl).trans (b_congr (fun h9 => (e_nx f_21_82 rfl).trans ((e_gV (L := [.ref l0, .ref l1, .int x2]) (st := [.ref l0]) (μ := setF p6.2 l0 4 p6.1) (L' := [.ref l0, .ref l1, .int x2]) (st' := []) f_21_83 rfl rfl).trans (g_congr (v_c2 rfl (Nat.le_of_ble_eq_true rfl)) (fun h11 => m_congr fun p10 => (e_nx f_21_86 rfl).trans ((e_nx (q := (_, _, .int 0 :: _, _)) f_21_87 rfl).trans ((e_nx (q := (_, _, .int 0 :: _, _)) f_21_88 rfl).trans ((e_nx (q := (_, _, .int 0 :: _, _)) f_21_89 rfl).trans ((e_gV (L := [.ref l0, .ref l1, .int x2]) (st := [.int 0, .int 0, .int 0, .ref l0]) (μ := p10) (L' := [.ref l0, .ref l1, .int x2]) (st' := []) f_21_90 rfl rfl).trans (g_congr (v_c2 rfl (Nat.le_of_ble_eq_true rfl)) (fun h13 => m_congr fun p12 => (e_nx f_21_93 rfl).trans ((e_gd f_21_94 rfl).trans (g_congr (Iff.rfl) (fun h14 => (e_ge f_21_97 rfl).trans (b_congr (fun h15 => (e_nx f_21_115 rfl).trans ((e_gk f_21_116 (h14) rfl).trans (e_rt f_21_119 rfl))) (fun h15 => (e_nx f_21_100 rfl).trans ((e_gk f_21_101 (h14) rfl).trans ((e_eq f_21_104 rfl).trans (b_congr (fun h16 => (e_nx f_21_115 rfl).trans ((e_gk f_21_116 (h14) rfl).trans (e_rt f_21_119 rfl))) (fun h16 => (e_nx f_21_107 rfl).trans ((e_nx f_21_108 rfl).trans ((e_gk f_21_109 (h14) rfl).trans ((e_gk (L := [.ref l0, .ref l1, .int x2]) (st := [.int (mF p12 l0 8), .ref l0]) (μ := p12) f_21_112 ((pi_iff rfl).mpr h14) rfl).trans ((e_nx f_21_115 rfl).trans ((e_gk f_21_116 (h14) rfl).trans (e_rt f_21_119 rfl))))))))))))))))))))))))) (fun h9 => (e_nx f_21_77 rfl).trans ((e_gk f_21_78 (h8) rfl).trans (e_rt f_21_81 rfl))))))))))))))))))))))))))))))))))))))))))))))))))
theorem pg_22 (pc : Nat) : fe0 22 pc = lk prg_22 pc := rfl
theorem f_22_0 : fe0 22 0 = some (.new 69, 3, 7, 3, 4067, 1019, 4066) := (pg_22 0).trans rfl
theorem f_22_3 : fe0 22 3 = some (.dup, 1, 0, 0, 0, 0, 0) := (pg_22 3).trans rfl
theorem f_22_4 : fe0 22 4 = some (.aload_n 0, 1, 0, 0, 0, 0, 0) := (pg_22 4).trans rfl
theorem f_22_5 : fe0 22 5 = some (.getfield 59, 3, 3, 4, 0, 0, 1179) := (pg_22 5).trans rfl
theorem f_22_8 : fe0 22 8 = some (.aload_n 0, 1, 0, 0, 0, 0, 0) := (pg_22 8).trans rfl
theorem f_22_9 : fe0 22 9 = some (.getfield 40, 3, 3, 5, 0, 0, 1180) := (pg_22 9).trans rfl
theorem f_22_12 : fe0 22 12 = some (.aload_n 0, 1, 0, 0, 0, 0, 0) := (pg_22 12).trans rfl
theorem f_22_13 : fe0 22 13 = some (.getfield 15, 3, 3, 2, 1, 0, 1177) := (pg_22 13).trans rfl
theorem f_22_16 : fe0 22 16 = some (.aload_n 0, 1, 0, 0, 0, 0, 0) := (pg_22 16).trans rfl
theorem f_22_17 : fe0 22 17 = some (.getfield 37, 3, 3, 3, 0, 0, 1178) := (pg_22 17).trans rfl
theorem f_22_20 : fe0 22 20 = some (.invokestatic 71, 3, 233, 2, 2, 0, 4068) := (pg_22 20).trans rfl
theorem f_22_23 : fe0 22 23 = some (.invokespecial 77, 3, 80, 3, 3, 0, 4080) := (pg_22 23).trans rfl
theorem f_22_26 : fe0 22 26 = some (.areturn, 1, 0, 0, 0, 0, 0) := (pg_22 26).trans rfl
theorem q_22_0 (d : Nat) (l0 : Nat) (μ : aMem) : Rn (d + 1) 22 (0, [.ref l0], [], μ) = if mN μ < 900000 then (if (mS (newC μ 7 3) l0).1 = 3 then ((cR d 233 [.ref (mR (newC μ 7 3) l0 2), .int (mF (newC μ 7 3) l0 3)] (newC μ 7 3)).bind fun p3 => if (mN μ) < 999999 then ((cV d 80 [.ref (mN μ), .int (mF (newC μ 7 3) l0 4), .int (mF (newC μ 7 3) l0 5), .ref p3.1] p3.2).bind fun p4 => if (mN μ) ≤ 999999 then some (some (.ref (mN μ)), p4) else none) else none) else none) else none :=
  (e_gd (L := [.ref l0]) (st := []) (μ := μ) f_22_0 rfl).trans (g_congr (nw_iff (by decide)) (fun h1 => (e_nx f_22_3 rfl).trans ((e_nx f_22_4 rfl).trans ((e_gd f_22_5 rfl).trans (g_congr (Iff.rfl) (fun h2 => (e_nx f_22_8 rfl).trans ((e_gk f_22_9 (h2) rfl).trans ((e_nx f_22_12 rfl).trans ((e_gk f_22_13 (h2) rfl).trans ((e_nx f_22_16 rfl).trans ((e_gk f_22_17 (h2) rfl).trans ((e_cR (L := [.ref l0]) (st := [.int (mF (newC μ 7 3) l0 3), .ref (mR (newC μ 7 3) l0 2), .int (mF (newC μ 7 3) l0 5), .int (mF (newC μ 7 3) l0 4), .ref (mN μ), .ref (mN μ)]) (μ := newC μ 7 3) (L' := [.ref l0]) (st' := [.int (mF (newC μ 7 3) l0 5), .int (mF (newC μ 7 3) l0 4), .ref (mN μ), .ref (mN μ)]) f_22_20 rfl rfl).trans (m_congr fun p3 => (e_gV (L := [.ref l0]) (st := [.ref p3.1, .int (mF (newC μ 7 3) l0 5), .int (mF (newC μ 7 3) l0 4), .ref (mN μ), .ref (mN μ)]) (μ := p3.2) (L' := [.ref l0]) (st' := [.ref (mN μ)]) f_22_23 rfl rfl).trans (g_congr (v_c3 rfl (Nat.le_of_ble_eq_true rfl)) (fun h5 => m_congr fun p4 => e_rg f_22_26 rfl)))))))))))))))
theorem pg_23 (pc : Nat) : fe0 23 pc = lk prg_23 pc := rfl
theorem f_23_0 : fe0 23 0 = some (.iload_n 1, 1, 0, 0, 0, 0, 0) := (pg_23 0).trans rfl
theorem f_23_1 : fe0 23 1 = some (.ifCond .lt 26, 3, 0, 0, 0, 0, 0) := (pg_23 1).trans rfl
theorem f_23_4 : fe0 23 4 = some (.iload_n 1, 1, 0, 0, 0, 0, 0) := (pg_23 4).trans rfl
theorem f_23_5 : fe0 23 5 = some (.aload_n 0, 1, 0, 0, 0, 0, 0) := (pg_23 5).trans rfl
theorem f_23_6 : fe0 23 6 = some (.getfield 27, 3, 3, 1, 0, 0, 1176) := (pg_23 6).trans rfl
theorem f_23_9 : fe0 23 9 = some (.if_icmp .ge 18, 3, 0, 0, 0, 0, 0) := (pg_23 9).trans rfl
theorem f_23_12 : fe0 23 12 = some (.iload_n 1, 1, 0, 0, 0, 0, 0) := (pg_23 12).trans rfl
theorem f_23_13 : fe0 23 13 = some (.bipush 96, 2, 0, 0, 0, 0, 0) := (pg_23 13).trans rfl
theorem f_23_15 : fe0 23 15 = some (.if_icmp .ge 12, 3, 0, 0, 0, 0, 0) := (pg_23 15).trans rfl
theorem f_23_18 : fe0 23 18 = some (.aload_n 0, 1, 0, 0, 0, 0, 0) := (pg_23 18).trans rfl
theorem f_23_19 : fe0 23 19 = some (.getfield 9, 3, 3, 0, 1, 0, 1175) := (pg_23 19).trans rfl
theorem f_23_22 : fe0 23 22 = some (.iload_n 1, 1, 0, 0, 0, 0, 0) := (pg_23 22).trans rfl
theorem f_23_23 : fe0 23 23 = some (.iaload, 1, 0, 0, 0, 0, 0) := (pg_23 23).trans rfl
theorem f_23_24 : fe0 23 24 = some (.goto 4, 3, 0, 0, 0, 0, 0) := (pg_23 24).trans rfl
theorem f_23_27 : fe0 23 27 = some (.iconst (-1), 1, 0, 0, 0, 0, 0) := (pg_23 27).trans rfl
theorem f_23_28 : fe0 23 28 = some (.ireturn, 1, 0, 0, 0, 0, 0) := (pg_23 28).trans rfl
theorem q_23_0 (d : Nat) (l0 : Nat) (x1 : Int32) (μ : aMem) : Rn d 23 (0, [.ref l0, .int x1], [], μ) = if x1 < 0 then (some (some (.int (-1)), μ)) else (if (mS μ l0).1 = 3 then (if (mF μ l0 1) ≤ x1 then (some (some (.int (-1)), μ)) else (if 96 ≤ x1 then (some (some (.int (-1)), μ)) else ((rdI μ (mR μ l0 0) x1).bind fun v5 => some (some (.int v5), μ)))) else none) :=
  (e_nx f_23_0 rfl).trans ((e_lt f_23_1 rfl).trans (b_congr (fun h1 => (e_nx (q := (_, _, .int (-1) :: _, _)) f_23_27 rfl).trans (e_rt f_23_28 rfl)) (fun h1 => (e_nx f_23_4 rfl).trans ((e_nx f_23_5 rfl).trans ((e_gd f_23_6 rfl).trans (g_congr (Iff.rfl) (fun h2 => (e_ge f_23_9 rfl).trans (b_congr (fun h3 => (e_nx (q := (_, _, .int (-1) :: _, _)) f_23_27 rfl).trans (e_rt f_23_28 rfl)) (fun h3 => (e_nx f_23_12 rfl).trans ((e_nx (q := (_, _, .int 96 :: _, _)) f_23_13 rfl).trans ((e_ge f_23_15 rfl).trans (b_congr (fun h4 => (e_nx (q := (_, _, .int (-1) :: _, _)) f_23_27 rfl).trans (e_rt f_23_28 rfl)) (fun h4 => (e_nx f_23_18 rfl).trans ((e_gk f_23_19 (h2) rfl).trans ((e_nx f_23_22 rfl).trans ((e_ia (L := [.ref l0, .int x1]) (r := []) (μ := μ) f_23_23).trans (m_congr fun v5 => (e_nx f_23_24 rfl).trans (e_rt f_23_28 rfl))))))))))))))))))
theorem pg_24 (pc : Nat) : fe0 24 pc = lk prg_24 pc := rfl
theorem f_24_0 : fe0 24 0 = some (.iload_n 0, 1, 0, 0, 0, 0, 0) := (pg_24 0).trans rfl
theorem f_24_1 : fe0 24 1 = some (.bipush 97, 2, 0, 0, 0, 0, 0) := (pg_24 1).trans rfl
theorem f_24_3 : fe0 24 3 = some (.if_icmp .lt 13, 3, 0, 0, 0, 0, 0) := (pg_24 3).trans rfl
theorem f_24_6 : fe0 24 6 = some (.iload_n 0, 1, 0, 0, 0, 0, 0) := (pg_24 6).trans rfl
theorem f_24_7 : fe0 24 7 = some (.bipush 122, 2, 0, 0, 0, 0, 0) := (pg_24 7).trans rfl
theorem f_24_9 : fe0 24 9 = some (.if_icmp .gt 7, 3, 0, 0, 0, 0, 0) := (pg_24 9).trans rfl
theorem f_24_12 : fe0 24 12 = some (.iconst 1, 1, 0, 0, 0, 0, 0) := (pg_24 12).trans rfl
theorem f_24_13 : fe0 24 13 = some (.goto 4, 3, 0, 0, 0, 0, 0) := (pg_24 13).trans rfl
theorem f_24_16 : fe0 24 16 = some (.iconst 0, 1, 0, 0, 0, 0, 0) := (pg_24 16).trans rfl
theorem f_24_17 : fe0 24 17 = some (.ireturn, 1, 1, 0, 0, 0, 0) := (pg_24 17).trans rfl
theorem q_24_0 (d : Nat) (x0 : Int32) (μ : aMem) : Rn d 24 (0, [.int x0], [], μ) = if x0 < 97 then (some (some (.int 0), μ)) else (if 122 < x0 then (some (some (.int 0), μ)) else (some (some (.int 1), μ))) :=
  (e_nx f_24_0 rfl).trans ((e_nx (q := (_, _, .int 97 :: _, _)) f_24_1 rfl).trans ((e_lt f_24_3 rfl).trans (b_congr (fun h1 => (e_nx (q := (_, _, .int 0 :: _, _)) f_24_16 rfl).trans (e_rt f_24_17 rfl)) (fun h1 => (e_nx f_24_6 rfl).trans ((e_nx (q := (_, _, .int 122 :: _, _)) f_24_7 rfl).trans ((e_gt f_24_9 rfl).trans (b_congr (fun h2 => (e_nx (q := (_, _, .int 0 :: _, _)) f_24_16 rfl).trans (e_rt f_24_17 rfl)) (fun h2 => (e_nx (q := (_, _, .int 1 :: _, _)) f_24_12 rfl).trans ((e_nx f_24_13 rfl).trans (e_rt f_24_17 rfl))))))))))
theorem pg_25 (pc : Nat) : fe0 25 pc = lk prg_25 pc := rfl
theorem f_25_0 : fe0 25 0 = some (.iload_n 0, 1, 0, 0, 0, 0, 0) := (pg_25 0).trans rfl
theorem f_25_1 : fe0 25 1 = some (.bipush 48, 2, 0, 0, 0, 0, 0) := (pg_25 1).trans rfl
theorem f_25_3 : fe0 25 3 = some (.if_icmp .lt 13, 3, 0, 0, 0, 0, 0) := (pg_25 3).trans rfl
theorem f_25_6 : fe0 25 6 = some (.iload_n 0, 1, 0, 0, 0, 0, 0) := (pg_25 6).trans rfl
theorem f_25_7 : fe0 25 7 = some (.bipush 57, 2, 0, 0, 0, 0, 0) := (pg_25 7).trans rfl
theorem f_25_9 : fe0 25 9 = some (.if_icmp .gt 7, 3, 0, 0, 0, 0, 0) := (pg_25 9).trans rfl
theorem f_25_12 : fe0 25 12 = some (.iconst 1, 1, 0, 0, 0, 0, 0) := (pg_25 12).trans rfl
theorem f_25_13 : fe0 25 13 = some (.goto 4, 3, 0, 0, 0, 0, 0) := (pg_25 13).trans rfl
theorem f_25_16 : fe0 25 16 = some (.iconst 0, 1, 0, 0, 0, 0, 0) := (pg_25 16).trans rfl
theorem f_25_17 : fe0 25 17 = some (.ireturn, 1, 1, 0, 0, 0, 0) := (pg_25 17).trans rfl
theorem q_25_0 (d : Nat) (x0 : Int32) (μ : aMem) : Rn d 25 (0, [.int x0], [], μ) = if x0 < 48 then (some (some (.int 0), μ)) else (if 57 < x0 then (some (some (.int 0), μ)) else (some (some (.int 1), μ))) :=
  (e_nx f_25_0 rfl).trans ((e_nx (q := (_, _, .int 48 :: _, _)) f_25_1 rfl).trans ((e_lt f_25_3 rfl).trans (b_congr (fun h1 => (e_nx (q := (_, _, .int 0 :: _, _)) f_25_16 rfl).trans (e_rt f_25_17 rfl)) (fun h1 => (e_nx f_25_6 rfl).trans ((e_nx (q := (_, _, .int 57 :: _, _)) f_25_7 rfl).trans ((e_gt f_25_9 rfl).trans (b_congr (fun h2 => (e_nx (q := (_, _, .int 0 :: _, _)) f_25_16 rfl).trans (e_rt f_25_17 rfl)) (fun h2 => (e_nx (q := (_, _, .int 1 :: _, _)) f_25_12 rfl).trans ((e_nx f_25_13 rfl).trans (e_rt f_25_17 rfl))))))))))
theorem pg_26 (pc : Nat) : fe0 26 pc = lk prg_26 pc := rfl
theorem f_26_0 : fe0 26 0 = some (.aload_n 0, 1, 0, 0, 0, 0, 0) := (pg_26 0).trans rfl
theorem f_26_1 : fe0 26 1 = some (.getfield 46, 3, 3, 7, 0, 0, 1182) := (pg_26 1).trans rfl
theorem f_26_4 : fe0 26 4 = some (.iconst 1, 1, 0, 0, 0, 0, 0) := (pg_26 4).trans rfl
theorem f_26_5 : fe0 26 5 = some (.if_icmp .eq 11, 3, 0, 0, 0, 0, 0) := (pg_26 5).trans rfl
theorem f_26_8 : fe0 26 8 = some (.aload_n 0, 1, 0, 0, 0, 0, 0) := (pg_26 8).trans rfl
theorem f_26_9 : fe0 26 9 = some (.getfield 46, 3, 3, 7, 0, 0, 1182) := (pg_26 9).trans rfl
theorem f_26_12 : fe0 26 12 = some (.iconst 2, 1, 0, 0, 0, 0, 0) := (pg_26 12).trans rfl
theorem f_26_13 : fe0 26 13 = some (.if_icmp .ne 7, 3, 0, 0, 0, 0, 0) := (pg_26 13).trans rfl
theorem f_26_16 : fe0 26 16 = some (.iconst 1, 1, 0, 0, 0, 0, 0) := (pg_26 16).trans rfl
theorem f_26_17 : fe0 26 17 = some (.goto 4, 3, 0, 0, 0, 0, 0) := (pg_26 17).trans rfl
theorem f_26_20 : fe0 26 20 = some (.iconst 0, 1, 0, 0, 0, 0, 0) := (pg_26 20).trans rfl
theorem f_26_21 : fe0 26 21 = some (.istore_n 1, 1, 0, 0, 0, 0, 0) := (pg_26 21).trans rfl
theorem f_26_22 : fe0 26 22 = some (.aload_n 0, 1, 0, 0, 0, 0, 0) := (pg_26 22).trans rfl
theorem f_26_23 : fe0 26 23 = some (.getfield 49, 3, 3, 9, 0, 0, 1184) := (pg_26 23).trans rfl
theorem f_26_26 : fe0 26 26 = some (.istore_n 2, 1, 0, 0, 0, 0, 0) := (pg_26 26).trans rfl
theorem f_26_27 : fe0 26 27 = some (.aload_n 0, 1, 0, 0, 0, 0, 0) := (pg_26 27).trans rfl
theorem f_26_28 : fe0 26 28 = some (.aload_n 0, 1, 0, 0, 0, 0, 0) := (pg_26 28).trans rfl
theorem f_26_29 : fe0 26 29 = some (.getfield 49, 3, 3, 9, 0, 0, 1184) := (pg_26 29).trans rfl
theorem f_26_32 : fe0 26 32 = some (.putfield 62, 3, 3, 8, 0, 0, 1183) := (pg_26 32).trans rfl
theorem f_26_35 : fe0 26 35 = some (.aload_n 0, 1, 0, 0, 0, 0, 0) := (pg_26 35).trans rfl
theorem f_26_36 : fe0 26 36 = some (.getfield 62, 3, 3, 8, 0, 0, 1183) := (pg_26 36).trans rfl
theorem f_26_39 : fe0 26 39 = some (.aload_n 0, 1, 0, 0, 0, 0, 0) := (pg_26 39).trans rfl
theorem f_26_40 : fe0 26 40 = some (.getfield 27, 3, 3, 1, 0, 0, 1176) := (pg_26 40).trans rfl
theorem f_26_43 : fe0 26 43 = some (.if_icmp .ge 29, 3, 0, 0, 0, 0, 0) := (pg_26 43).trans rfl
theorem f_26_46 : fe0 26 46 = some (.aload_n 0, 1, 0, 0, 0, 0, 0) := (pg_26 46).trans rfl
theorem f_26_47 : fe0 26 47 = some (.aload_n 0, 1, 0, 0, 0, 0, 0) := (pg_26 47).trans rfl
theorem f_26_48 : fe0 26 48 = some (.getfield 62, 3, 3, 8, 0, 0, 1183) := (pg_26 48).trans rfl
theorem f_26_51 : fe0 26 51 = some (.invokevirtual 80, 3, 23, 1, 0, 3, 3139) := (pg_26 51).trans rfl
theorem f_26_54 : fe0 26 54 = some (.bipush 32, 2, 0, 0, 0, 0, 0) := (pg_26 54).trans rfl
theorem f_26_56 : fe0 26 56 = some (.if_icmp .ne 16, 3, 0, 0, 0, 0, 0) := (pg_26 56).trans rfl
theorem f_26_59 : fe0 26 59 = some (.aload_n 0, 1, 0, 0, 0, 0, 0) := (pg_26 59).trans rfl
theorem f_26_60 : fe0 26 60 = some (.dup, 1, 0, 0, 0, 0, 0) := (pg_26 60).trans rfl
theorem f_26_61 : fe0 26 61 = some (.getfield 62, 3, 3, 8, 0, 0, 1183) := (pg_26 61).trans rfl
theorem f_26_64 : fe0 26 64 = some (.iconst 1, 1, 0, 0, 0, 0, 0) := (pg_26 64).trans rfl
theorem f_26_65 : fe0 26 65 = some (.iadd, 1, 0, 0, 0, 0, 0) := (pg_26 65).trans rfl
theorem f_26_66 : fe0 26 66 = some (.putfield 62, 3, 3, 8, 0, 0, 1183) := (pg_26 66).trans rfl
theorem f_26_69 : fe0 26 69 = some (.goto (-34), 3, 0, 0, 0, 0, 0) := (pg_26 69).trans rfl
theorem f_26_72 : fe0 26 72 = some (.aload_n 0, 1, 0, 0, 0, 0, 0) := (pg_26 72).trans rfl
theorem f_26_73 : fe0 26 73 = some (.aload_n 0, 1, 0, 0, 0, 0, 0) := (pg_26 73).trans rfl
theorem f_26_74 : fe0 26 74 = some (.getfield 62, 3, 3, 8, 0, 0, 1183) := (pg_26 74).trans rfl
theorem f_26_77 : fe0 26 77 = some (.putfield 49, 3, 3, 9, 0, 0, 1184) := (pg_26 77).trans rfl
theorem f_26_80 : fe0 26 80 = some (.aload_n 0, 1, 0, 0, 0, 0, 0) := (pg_26 80).trans rfl
theorem f_26_81 : fe0 26 81 = some (.getfield 62, 3, 3, 8, 0, 0, 1183) := (pg_26 81).trans rfl
theorem f_26_84 : fe0 26 84 = some (.aload_n 0, 1, 0, 0, 0, 0, 0) := (pg_26 84).trans rfl
theorem f_26_85 : fe0 26 85 = some (.getfield 27, 3, 3, 1, 0, 0, 1176) := (pg_26 85).trans rfl
theorem f_26_88 : fe0 26 88 = some (.if_icmp .lt 9, 3, 0, 0, 0, 0, 0) := (pg_26 88).trans rfl
theorem f_26_91 : fe0 26 91 = some (.aload_n 0, 1, 0, 0, 0, 0, 0) := (pg_26 91).trans rfl
theorem f_26_92 : fe0 26 92 = some (.iconst 0, 1, 0, 0, 0, 0, 0) := (pg_26 92).trans rfl
theorem f_26_93 : fe0 26 93 = some (.putfield 46, 3, 3, 7, 0, 0, 1182) := (pg_26 93).trans rfl
theorem f_26_96 : fe0 26 96 = some (.return_, 1, 0, 0, 0, 0, 0) := (pg_26 96).trans rfl
theorem f_26_97 : fe0 26 97 = some (.aload_n 0, 1, 0, 0, 0, 0, 0) := (pg_26 97).trans rfl
theorem f_26_98 : fe0 26 98 = some (.aload_n 0, 1, 0, 0, 0, 0, 0) := (pg_26 98).trans rfl
theorem f_26_99 : fe0 26 99 = some (.getfield 62, 3, 3, 8, 0, 0, 1183) := (pg_26 99).trans rfl
theorem f_26_102 : fe0 26 102 = some (.invokevirtual 80, 3, 23, 1, 0, 3, 3139) := (pg_26 102).trans rfl
theorem f_26_105 : fe0 26 105 = some (.invokestatic 84, 3, 24, 1, 2, 0, 3143) := (pg_26 105).trans rfl
theorem f_26_108 : fe0 26 108 = some (.ifCond .eq 46, 3, 0, 0, 0, 0, 0) := (pg_26 108).trans rfl
theorem f_26_111 : fe0 26 111 = some (.aload_n 0, 1, 0, 0, 0, 0, 0) := (pg_26 111).trans rfl
theorem f_26_112 : fe0 26 112 = some (.iconst 1, 1, 0, 0, 0, 0, 0) := (pg_26 112).trans rfl
theorem f_26_113 : fe0 26 113 = some (.putfield 46, 3, 3, 7, 0, 0, 1182) := (pg_26 113).trans rfl
theorem f_26_116 : fe0 26 116 = some (.aload_n 0, 1, 0, 0, 0, 0, 0) := (pg_26 116).trans rfl
theorem f_26_117 : fe0 26 117 = some (.getfield 49, 3, 3, 9, 0, 0, 1184) := (pg_26 117).trans rfl
theorem f_26_120 : fe0 26 120 = some (.aload_n 0, 1, 0, 0, 0, 0, 0) := (pg_26 120).trans rfl
theorem f_26_121 : fe0 26 121 = some (.getfield 27, 3, 3, 1, 0, 0, 1176) := (pg_26 121).trans rfl
theorem f_26_124 : fe0 26 124 = some (.if_icmp .ge 102, 3, 0, 0, 0, 0, 0) := (pg_26 124).trans rfl
theorem f_26_127 : fe0 26 127 = some (.aload_n 0, 1, 0, 0, 0, 0, 0) := (pg_26 127).trans rfl
theorem f_26_128 : fe0 26 128 = some (.aload_n 0, 1, 0, 0, 0, 0, 0) := (pg_26 128).trans rfl
theorem f_26_129 : fe0 26 129 = some (.getfield 49, 3, 3, 9, 0, 0, 1184) := (pg_26 129).trans rfl
theorem f_26_132 : fe0 26 132 = some (.invokevirtual 80, 3, 23, 1, 0, 3, 3139) := (pg_26 132).trans rfl
theorem f_26_135 : fe0 26 135 = some (.invokestatic 84, 3, 24, 1, 2, 0, 3143) := (pg_26 135).trans rfl
theorem f_26_138 : fe0 26 138 = some (.ifCond .eq 88, 3, 0, 0, 0, 0, 0) := (pg_26 138).trans rfl
theorem f_26_141 : fe0 26 141 = some (.aload_n 0, 1, 0, 0, 0, 0, 0) := (pg_26 141).trans rfl
theorem f_26_142 : fe0 26 142 = some (.dup, 1, 0, 0, 0, 0, 0) := (pg_26 142).trans rfl
theorem f_26_143 : fe0 26 143 = some (.getfield 49, 3, 3, 9, 0, 0, 1184) := (pg_26 143).trans rfl
theorem f_26_146 : fe0 26 146 = some (.iconst 1, 1, 0, 0, 0, 0, 0) := (pg_26 146).trans rfl
theorem f_26_147 : fe0 26 147 = some (.iadd, 1, 0, 0, 0, 0, 0) := (pg_26 147).trans rfl
theorem f_26_148 : fe0 26 148 = some (.putfield 49, 3, 3, 9, 0, 0, 1184) := (pg_26 148).trans rfl
theorem f_26_151 : fe0 26 151 = some (.goto (-35), 3, 0, 0, 0, 0, 0) := (pg_26 151).trans rfl
theorem f_26_154 : fe0 26 154 = some (.aload_n 0, 1, 0, 0, 0, 0, 0) := (pg_26 154).trans rfl
theorem f_26_155 : fe0 26 155 = some (.aload_n 0, 1, 0, 0, 0, 0, 0) := (pg_26 155).trans rfl
theorem f_26_156 : fe0 26 156 = some (.getfield 62, 3, 3, 8, 0, 0, 1183) := (pg_26 156).trans rfl
theorem f_26_159 : fe0 26 159 = some (.invokevirtual 80, 3, 23, 1, 0, 3, 3139) := (pg_26 159).trans rfl
theorem f_26_162 : fe0 26 162 = some (.invokestatic 88, 3, 25, 1, 2, 0, 3146) := (pg_26 162).trans rfl
theorem f_26_165 : fe0 26 165 = some (.ifCond .eq 46, 3, 0, 0, 0, 0, 0) := (pg_26 165).trans rfl
theorem f_26_168 : fe0 26 168 = some (.aload_n 0, 1, 0, 0, 0, 0, 0) := (pg_26 168).trans rfl
theorem f_26_169 : fe0 26 169 = some (.iconst 2, 1, 0, 0, 0, 0, 0) := (pg_26 169).trans rfl
theorem f_26_170 : fe0 26 170 = some (.putfield 46, 3, 3, 7, 0, 0, 1182) := (pg_26 170).trans rfl
theorem f_26_173 : fe0 26 173 = some (.aload_n 0, 1, 0, 0, 0, 0, 0) := (pg_26 173).trans rfl
theorem f_26_174 : fe0 26 174 = some (.getfield 49, 3, 3, 9, 0, 0, 1184) := (pg_26 174).trans rfl
theorem f_26_177 : fe0 26 177 = some (.aload_n 0, 1, 0, 0, 0, 0, 0) := (pg_26 177).trans rfl
theorem f_26_178 : fe0 26 178 = some (.getfield 27, 3, 3, 1, 0, 0, 1176) := (pg_26 178).trans rfl
theorem f_26_181 : fe0 26 181 = some (.if_icmp .ge 45, 3, 0, 0, 0, 0, 0) := (pg_26 181).trans rfl
theorem f_26_184 : fe0 26 184 = some (.aload_n 0, 1, 0, 0, 0, 0, 0) := (pg_26 184).trans rfl
theorem f_26_185 : fe0 26 185 = some (.aload_n 0, 1, 0, 0, 0, 0, 0) := (pg_26 185).trans rfl
theorem f_26_186 : fe0 26 186 = some (.getfield 49, 3, 3, 9, 0, 0, 1184) := (pg_26 186).trans rfl
theorem f_26_189 : fe0 26 189 = some (.invokevirtual 80, 3, 23, 1, 0, 3, 3139) := (pg_26 189).trans rfl
theorem f_26_192 : fe0 26 192 = some (.invokestatic 88, 3, 25, 1, 2, 0, 3146) := (pg_26 192).trans rfl
theorem f_26_195 : fe0 26 195 = some (.ifCond .eq 31, 3, 0, 0, 0, 0, 0) := (pg_26 195).trans rfl
theorem f_26_198 : fe0 26 198 = some (.aload_n 0, 1, 0, 0, 0, 0, 0) := (pg_26 198).trans rfl
theorem f_26_199 : fe0 26 199 = some (.dup, 1, 0, 0, 0, 0, 0) := (pg_26 199).trans rfl
theorem f_26_200 : fe0 26 200 = some (.getfield 49, 3, 3, 9, 0, 0, 1184) := (pg_26 200).trans rfl
theorem f_26_203 : fe0 26 203 = some (.iconst 1, 1, 0, 0, 0, 0, 0) := (pg_26 203).trans rfl
theorem f_26_204 : fe0 26 204 = some (.iadd, 1, 0, 0, 0, 0, 0) := (pg_26 204).trans rfl
theorem f_26_205 : fe0 26 205 = some (.putfield 49, 3, 3, 9, 0, 0, 1184) := (pg_26 205).trans rfl
theorem f_26_208 : fe0 26 208 = some (.goto (-35), 3, 0, 0, 0, 0, 0) := (pg_26 208).trans rfl
theorem f_26_211 : fe0 26 211 = some (.aload_n 0, 1, 0, 0, 0, 0, 0) := (pg_26 211).trans rfl
theorem f_26_212 : fe0 26 212 = some (.iconst 3, 1, 0, 0, 0, 0, 0) := (pg_26 212).trans rfl
theorem f_26_213 : fe0 26 213 = some (.putfield 46, 3, 3, 7, 0, 0, 1182) := (pg_26 213).trans rfl
theorem f_26_216 : fe0 26 216 = some (.aload_n 0, 1, 0, 0, 0, 0, 0) := (pg_26 216).trans rfl
theorem f_26_217 : fe0 26 217 = some (.dup, 1, 0, 0, 0, 0, 0) := (pg_26 217).trans rfl
theorem f_26_218 : fe0 26 218 = some (.getfield 49, 3, 3, 9, 0, 0, 1184) := (pg_26 218).trans rfl
theorem f_26_221 : fe0 26 221 = some (.iconst 1, 1, 0, 0, 0, 0, 0) := (pg_26 221).trans rfl
theorem f_26_222 : fe0 26 222 = some (.iadd, 1, 0, 0, 0, 0, 0) := (pg_26 222).trans rfl
theorem f_26_223 : fe0 26 223 = some (.putfield 49, 3, 3, 9, 0, 0, 1184) := (pg_26 223).trans rfl
theorem f_26_226 : fe0 26 226 = some (.iload_n 1, 1, 0, 0, 0, 0, 0) := (pg_26 226).trans rfl
theorem f_26_227 : fe0 26 227 = some (.ifCond .eq 23, 3, 0, 0, 0, 0, 0) := (pg_26 227).trans rfl
theorem f_26_230 : fe0 26 230 = some (.aload_n 0, 1, 0, 0, 0, 0, 0) := (pg_26 230).trans rfl
theorem f_26_231 : fe0 26 231 = some (.getfield 62, 3, 3, 8, 0, 0, 1183) := (pg_26 231).trans rfl
theorem f_26_234 : fe0 26 234 = some (.iload_n 2, 1, 0, 0, 0, 0, 0) := (pg_26 234).trans rfl
theorem f_26_235 : fe0 26 235 = some (.if_icmp .ne 15, 3, 0, 0, 0, 0, 0) := (pg_26 235).trans rfl
theorem f_26_238 : fe0 26 238 = some (.aload_n 0, 1, 0, 0, 0, 0, 0) := (pg_26 238).trans rfl
theorem f_26_239 : fe0 26 239 = some (.getfield 46, 3, 3, 7, 0, 0, 1182) := (pg_26 239).trans rfl
theorem f_26_242 : fe0 26 242 = some (.iconst 3, 1, 0, 0, 0, 0, 0) := (pg_26 242).trans rfl
theorem f_26_243 : fe0 26 243 = some (.if_icmp .eq 7, 3, 0, 0, 0, 0, 0) := (pg_26 243).trans rfl
theorem f_26_246 : fe0 26 246 = some (.iconst 1, 1, 0, 0, 0, 0, 0) := (pg_26 246).trans rfl
theorem f_26_247 : fe0 26 247 = some (.goto 4, 3, 0, 0, 0, 0, 0) := (pg_26 247).trans rfl
theorem f_26_250 : fe0 26 250 = some (.iconst 0, 1, 0, 0, 0, 0, 0) := (pg_26 250).trans rfl
theorem f_26_251 : fe0 26 251 = some (.istore_n 3, 1, 0, 0, 0, 0, 0) := (pg_26 251).trans rfl
theorem f_26_252 : fe0 26 252 = some (.aload_n 0, 1, 0, 0, 0, 0, 0) := (pg_26 252).trans rfl
theorem f_26_253 : fe0 26 253 = some (.getfield 46, 3, 3, 7, 0, 0, 1182) := (pg_26 253).trans rfl
theorem f_26_256 : fe0 26 256 = some (.iconst 2, 1, 0, 0, 0, 0, 0) := (pg_26 256).trans rfl
theorem f_26_257 : fe0 26 257 = some (.if_icmp .ne 20, 3, 0, 0, 0, 0, 0) := (pg_26 257).trans rfl
theorem f_26_260 : fe0 26 260 = some (.aload_n 0, 1, 0, 0, 0, 0, 0) := (pg_26 260).trans rfl
theorem f_26_261 : fe0 26 261 = some (.getfield 49, 3, 3, 9, 0, 0, 1184) := (pg_26 261).trans rfl
theorem f_26_264 : fe0 26 264 = some (.aload_n 0, 1, 0, 0, 0, 0, 0) := (pg_26 264).trans rfl
theorem f_26_265 : fe0 26 265 = some (.getfield 62, 3, 3, 8, 0, 0, 1183) := (pg_26 265).trans rfl
theorem f_26_268 : fe0 26 268 = some (.isub, 1, 0, 0, 0, 0, 0) := (pg_26 268).trans rfl
theorem f_26_269 : fe0 26 269 = some (.iconst 4, 1, 0, 0, 0, 0, 0) := (pg_26 269).trans rfl
theorem f_26_270 : fe0 26 270 = some (.if_icmp .le 7, 3, 0, 0, 0, 0, 0) := (pg_26 270).trans rfl
theorem f_26_273 : fe0 26 273 = some (.iconst 1, 1, 0, 0, 0, 0, 0) := (pg_26 273).trans rfl
theorem f_26_274 : fe0 26 274 = some (.goto 4, 3, 0, 0, 0, 0, 0) := (pg_26 274).trans rfl
theorem f_26_277 : fe0 26 277 = some (.iconst 0, 1, 0, 0, 0, 0, 0) := (pg_26 277).trans rfl
theorem f_26_278 : fe0 26 278 = some (.istore 4, 2, 0, 0, 0, 0, 0) := (pg_26 278).trans rfl
theorem f_26_280 : fe0 26 280 = some (.iload_n 3, 1, 0, 0, 0, 0, 0) := (pg_26 280).trans rfl
theorem f_26_281 : fe0 26 281 = some (.ifCond .ne 8, 3, 0, 0, 0, 0, 0) := (pg_26 281).trans rfl
theorem f_26_284 : fe0 26 284 = some (.iload 4, 2, 0, 0, 0, 0, 0) := (pg_26 284).trans rfl
theorem f_26_286 : fe0 26 286 = some (.ifCond .eq 8, 3, 0, 0, 0, 0, 0) := (pg_26 286).trans rfl
theorem f_26_289 : fe0 26 289 = some (.aload_n 0, 1, 0, 0, 0, 0, 0) := (pg_26 289).trans rfl
theorem f_26_290 : fe0 26 290 = some (.iconst 4, 1, 0, 0, 0, 0, 0) := (pg_26 290).trans rfl
theorem f_26_291 : fe0 26 291 = some (.putfield 46, 3, 3, 7, 0, 0, 1182) := (pg_26 291).trans rfl
theorem f_26_294 : fe0 26 294 = some (.return_, 1, 0, 0, 0, 0, 0) := (pg_26 294).trans rfl
theorem q_26_0 (d : Nat) (l0 : Nat) (μ : aMem) : Rn (d + 1) 26 (0, [.ref l0, un, un, un, un], [], μ) = if (mS μ l0).1 = 3 then (if (mF μ l0 7) = 1 then (Rn (d + 1) 26 (16, [.ref l0, un, un, un, un], [], μ)) else (if (mF μ l0 7) = 2 then (Rn (d + 1) 26 (16, [.ref l0, un, un, un, un], [], μ)) else (Rn (d + 1) 26 (21, [.ref l0, un, un, un, un], [.int 0], μ)))) else none :=
  (e_nx f_26_0 rfl).trans ((e_gd f_26_1 rfl).trans (g_congr (Iff.rfl) (fun h1 => (e_nx (q := (_, _, .int 1 :: _, _)) f_26_4 rfl).trans ((e_eq f_26_5 rfl).trans (b_congr (fun h2 => rfl) (fun h2 => (e_nx f_26_8 rfl).trans ((e_gk f_26_9 (h1) rfl).trans ((e_nx (q := (_, _, .int 2 :: _, _)) f_26_12 rfl).trans ((e_ne f_26_13 rfl).trans (b_congr (fun h3 => rfl) (fun h3 => e_nx (q := (_, _, .int 0 :: _, _)) f_26_20 rfl)))))))))))
theorem q_26_16 (d : Nat) (l0 : Nat) (w1 : Value) (w2 : Value) (w3 : Value) (w4 : Value) (μ : aMem) : Rn (d + 1) 26 (16, [.ref l0, w1, w2, w3, w4], [], μ) = Rn (d + 1) 26 (21, [.ref l0, w1, w2, w3, w4], [.int 1], μ) :=
  (e_nx (q := (_, _, .int 1 :: _, _)) f_26_16 rfl).trans (e_nx f_26_17 rfl)
theorem q_26_21 (d : Nat) (l0 : Nat) (w1 : Value) (w2 : Value) (w3 : Value) (w4 : Value) (xs0 : Int32) (μ : aMem) : Rn (d + 1) 26 (21, [.ref l0, w1, w2, w3, w4], [.int xs0], μ) = if (mS μ l0).1 = 3 then (Rn (d + 1) 26 (35, [.ref l0, .int xs0, .int (mF μ l0 9), w3, w4], [], setF μ l0 8 (mF μ l0 9))) else none :=
  (e_nx (q := (_, [.ref l0, .int xs0, w2, w3, w4], _, _)) f_26_21 rfl).trans ((e_nx f_26_22 rfl).trans ((e_gd f_26_23 rfl).trans (g_congr (Iff.rfl) (fun h1 => (e_nx (q := (_, [.ref l0, .int xs0, .int (mF μ l0 9), w3, w4], _, _)) f_26_26 rfl).trans ((e_nx f_26_27 rfl).trans ((e_nx f_26_28 rfl).trans ((e_gk f_26_29 (h1) rfl).trans ((e_gk (L := [.ref l0, .int xs0, .int (mF μ l0 9), w3, w4]) (st := [.int (mF μ l0 9), .ref l0]) (μ := μ) f_26_32 ((pi_iff rfl).mpr h1) rfl).trans (rfl)))))))))
theorem q_26_35 (d : Nat) (l0 : Nat) (x1 : Int32) (x2 : Int32) (w3 : Value) (w4 : Value) (μ : aMem) : Rn (d + 1) 26 (35, [.ref l0, .int x1, .int x2, w3, w4], [], μ) = if (mS μ l0).1 = 3 then (if (mF μ l0 1) ≤ (mF μ l0 8) then (Rn (d + 1) 26 (72, [.ref l0, .int x1, .int x2, w3, w4], [], μ)) else (if (mS μ l0).1 = 3 ∧ l0 < 999999 then ((cI d 23 [.ref l0, .int (mF μ l0 8)] μ).bind fun p3 => if p3.1 = 32 then (if (mS p3.2 l0).1 = 3 then (Rn (d + 1) 26 (35, [.ref l0, .int x1, .int x2, w3, w4], [], setF p3.2 l0 8 ((mF p3.2 l0 8) + 1))) else none) else (Rn (d + 1) 26 (72, [.ref l0, .int x1, .int x2, w3, w4], [], p3.2))) else none)) else none :=
  (e_nx f_26_35 rfl).trans ((e_gd f_26_36 rfl).trans (g_congr (Iff.rfl) (fun h1 => (e_nx f_26_39 rfl).trans ((e_gk f_26_40 (h1) rfl).trans ((e_ge f_26_43 rfl).trans (b_congr (fun h2 => rfl) (fun h2 => (e_nx f_26_46 rfl).trans ((e_nx f_26_47 rfl).trans ((e_gk f_26_48 (h1) rfl).trans ((e_gI (L := [.ref l0, .int x1, .int x2, w3, w4]) (st := [.int (mF μ l0 8), .ref l0]) (μ := μ) (L' := [.ref l0, .int x1, .int x2, w3, w4]) (st' := []) f_26_51 rfl rfl).trans (g_congr (v_c2 rfl (Nat.le_of_ble_eq_true rfl)) (fun h4 => m_congr fun p3 => (e_nx (q := (_, _, .int 32 :: _, _)) f_26_54 rfl).trans ((e_ne f_26_56 rfl).trans (b_congr (fun h5 => (e_nx f_26_59 rfl).trans ((e_nx f_26_60 rfl).trans ((e_gd f_26_61 rfl).trans (g_congr (Iff.rfl) (fun h6 => (e_nx (q := (_, _, .int 1 :: _, _)) f_26_64 rfl).trans ((e_nx f_26_65 rfl).trans ((e_gk (L := [.ref l0, .int x1, .int x2, w3, w4]) (st := [.int ((mF p3.2 l0 8) + 1), .ref l0]) (μ := p3.2) f_26_66 ((pi_iff rfl).mpr h6) rfl).trans (e_nx f_26_69 rfl)))))))) (fun h5 => rfl)))))))))))))))
theorem q_26_72 (d : Nat) (l0 : Nat) (x1 : Int32) (x2 : Int32) (w3 : Value) (w4 : Value) (μ : aMem) : Rn (d + 1) 26 (72, [.ref l0, .int x1, .int x2, w3, w4], [], μ) = if (mS μ l0).1 = 3 then (if (mF (setF μ l0 9 (mF μ l0 8)) l0 8) < (mF (setF μ l0 9 (mF μ l0 8)) l0 1) then (if (mS μ l0).1 = 3 ∧ l0 < 999999 then ((cI d 23 [.ref l0, .int (mF (setF μ l0 9 (mF μ l0 8)) l0 8)] (setF μ l0 9 (mF μ l0 8))).bind fun p3 => (cI d 24 [.int p3.1] p3.2).bind fun p5 => if p5.1 = 0 then (if (mS p5.2 l0).1 = 3 then (if (mS p5.2 l0).1 = 3 ∧ l0 < 999999 then ((cI d 23 [.ref l0, .int (mF p5.2 l0 8)] p5.2).bind fun p8 => (cI d 25 [.int p8.1] p8.2).bind fun p10 => if p10.1 = 0 then (if (mS p10.2 l0).1 = 3 then (Rn (d + 1) 26 (226, [.ref l0, .int x1, .int x2, w3, w4], [], setF (setF p10.2 l0 7 3) l0 9 ((mF (setF p10.2 l0 7 3) l0 9) + 1))) else none) else (if (mS p10.2 l0).1 = 3 then (Rn (d + 1) 26 (173, [.ref l0, .int x1, .int x2, w3, w4], [], setF p10.2 l0 7 2)) else none)) else none) else none) else (if (mS p5.2 l0).1 = 3 then (Rn (d + 1) 26 (116, [.ref l0, .int x1, .int x2, w3, w4], [], setF p5.2 l0 7 1)) else none)) else none) else (some (none, setF (setF μ l0 9 (mF μ l0 8)) l0 7 0))) else none :=
  (e_nx f_26_72 rfl).trans ((e_nx f_26_73 rfl).trans ((e_gd f_26_74 rfl).trans (g_congr (Iff.rfl) (fun h1 => (e_gk (L := [.ref l0, .int x1, .int x2, w3, w4]) (st := [.int (mF μ l0 8), .ref l0]) (μ := μ) f_26_77 ((pi_iff rfl).mpr h1) rfl).trans ((e_nx f_26_80 rfl).trans ((e_gk f_26_81 (h1) rfl).trans ((e_nx f_26_84 rfl).trans ((e_gk f_26_85 (h1) rfl).trans ((e_lt f_26_88 rfl).trans (b_congr (fun h2 => (e_nx f_26_97 rfl).trans ((e_nx f_26_98 rfl).trans ((e_gk f_26_99 (h1) rfl).trans ((e_gI (L := [.ref l0, .int x1, .int x2, w3, w4]) (st := [.int (mF (setF μ l0 9 (mF μ l0 8)) l0 8), .ref l0]) (μ := setF μ l0 9 (mF μ l0 8)) (L' := [.ref l0, .int x1, .int x2, w3, w4]) (st' := []) f_26_102 rfl rfl).trans (g_congr (v_c2 rfl (Nat.le_of_ble_eq_true rfl)) (fun h4 => m_congr fun p3 => (e_cI (L := [.ref l0, .int x1, .int x2, w3, w4]) (st := [.int p3.1]) (μ := p3.2) (L' := [.ref l0, .int x1, .int x2, w3, w4]) (st' := []) f_26_105 rfl rfl).trans (m_congr fun p5 => (e_eq f_26_108 rfl).trans (b_congr (fun h6 => (e_nx f_26_154 rfl).trans ((e_nx f_26_155 rfl).trans ((e_gd f_26_156 rfl).trans (g_congr (Iff.rfl) (fun h7 => (e_gI (L := [.ref l0, .int x1, .int x2, w3, w4]) (st := [.int (mF p5.2 l0 8), .ref l0]) (μ := p5.2) (L' := [.ref l0, .int x1, .int x2, w3, w4]) (st' := []) f_26_159 rfl rfl).trans (g_congr (v_c2 rfl (Nat.le_of_ble_eq_true rfl)) (fun h9 => m_congr fun p8 => (e_cI (L := [.ref l0, .int x1, .int x2, w3, w4]) (st := [.int p8.1]) (μ := p8.2) (L' := [.ref l0, .int x1, .int x2, w3, w4]) (st' := []) f_26_162 rfl rfl).trans (m_congr fun p10 => (e_eq f_26_165 rfl).trans (b_congr (fun h11 => (e_nx f_26_211 rfl).trans ((e_nx (q := (_, _, .int 3 :: _, _)) f_26_212 rfl).trans ((e_gd (L := [.ref l0, .int x1, .int x2, w3, w4]) (st := [.int 3, .ref l0]) (μ := p10.2) f_26_213 rfl).trans (g_congr (pi_iff rfl) (fun h12 => (e_nx f_26_216 rfl).trans ((e_nx f_26_217 rfl).trans ((e_gk f_26_218 (h12) rfl).trans ((e_nx (q := (_, _, .int 1 :: _, _)) f_26_221 rfl).trans ((e_nx f_26_222 rfl).trans ((e_gk (L := [.ref l0, .int x1, .int x2, w3, w4]) (st := [.int ((mF (setF p10.2 l0 7 3) l0 9) + 1), .ref l0]) (μ := setF p10.2 l0 7 3) f_26_223 ((pi_iff rfl).mpr h12) rfl).trans (rfl))))))))))) (fun h11 => (e_nx f_26_168 rfl).trans ((e_nx (q := (_, _, .int 2 :: _, _)) f_26_169 rfl).trans ((e_gd (L := [.ref l0, .int x1, .int x2, w3, w4]) (st := [.int 2, .ref l0]) (μ := p10.2) f_26_170 rfl).trans (g_congr (pi_iff rfl) (fun h13 => rfl)))))))))))))) (fun h6 => (e_nx f_26_111 rfl).trans ((e_nx (q := (_, _, .int 1 :: _, _)) f_26_112 rfl).trans ((e_gd (L := [.ref l0, .int x1, .int x2, w3, w4]) (st := [.int 1, .ref l0]) (μ := p5.2) f_26_113 rfl).trans (g_congr (pi_iff rfl) (fun h14 => rfl))))))))))))) (fun h2 => (e_nx f_26_91 rfl).trans ((e_nx (q := (_, _, .int 0 :: _, _)) f_26_92 rfl).trans ((e_gk (L := [.ref l0, .int x1, .int x2, w3, w4]) (st := [.int 0, .ref l0]) (μ := setF μ l0 9 (mF μ l0 8)) f_26_93 ((pi_iff rfl).mpr h1) rfl).trans (e_rt f_26_96 rfl))))))))))))))
theorem q_26_116 (d : Nat) (l0 : Nat) (x1 : Int32) (x2 : Int32) (w3 : Value) (w4 : Value) (μ : aMem) : Rn (d + 1) 26 (116, [.ref l0, .int x1, .int x2, w3, w4], [], μ) = if (mS μ l0).1 = 3 then (if (mF μ l0 1) ≤ (mF μ l0 9) then (Rn (d + 1) 26 (226, [.ref l0, .int x1, .int x2, w3, w4], [], μ)) else (if (mS μ l0).1 = 3 ∧ l0 < 999999 then ((cI d 23 [.ref l0, .int (mF μ l0 9)] μ).bind fun p3 => (cI d 24 [.int p3.1] p3.2).bind fun p5 => if p5.1 = 0 then (Rn (d + 1) 26 (226, [.ref l0, .int x1, .int x2, w3, w4], [], p5.2)) else (if (mS p5.2 l0).1 = 3 then (Rn (d + 1) 26 (116, [.ref l0, .int x1, .int x2, w3, w4], [], setF p5.2 l0 9 ((mF p5.2 l0 9) + 1))) else none)) else none)) else none :=
  (e_nx f_26_116 rfl).trans ((e_gd f_26_117 rfl).trans (g_congr (Iff.rfl) (fun h1 => (e_nx f_26_120 rfl).trans ((e_gk f_26_121 (h1) rfl).trans ((e_ge f_26_124 rfl).trans (b_congr (fun h2 => rfl) (fun h2 => (e_nx f_26_127 rfl).trans ((e_nx f_26_128 rfl).trans ((e_gk f_26_129 (h1) rfl).trans ((e_gI (L := [.ref l0, .int x1, .int x2, w3, w4]) (st := [.int (mF μ l0 9), .ref l0]) (μ := μ) (L' := [.ref l0, .int x1, .int x2, w3, w4]) (st' := []) f_26_132 rfl rfl).trans (g_congr (v_c2 rfl (Nat.le_of_ble_eq_true rfl)) (fun h4 => m_congr fun p3 => (e_cI (L := [.ref l0, .int x1, .int x2, w3, w4]) (st := [.int p3.1]) (μ := p3.2) (L' := [.ref l0, .int x1, .int x2, w3, w4]) (st' := []) f_26_135 rfl rfl).trans (m_congr fun p5 => (e_eq f_26_138 rfl).trans (b_congr (fun h6 => rfl) (fun h6 => (e_nx f_26_141 rfl).trans ((e_nx f_26_142 rfl).trans ((e_gd f_26_143 rfl).trans (g_congr (Iff.rfl) (fun h7 => (e_nx (q := (_, _, .int 1 :: _, _)) f_26_146 rfl).trans ((e_nx f_26_147 rfl).trans ((e_gk (L := [.ref l0, .int x1, .int x2, w3, w4]) (st := [.int ((mF p5.2 l0 9) + 1), .ref l0]) (μ := p5.2) f_26_148 ((pi_iff rfl).mpr h7) rfl).trans (e_nx f_26_151 rfl))))))))))))))))))))))
theorem q_26_173 (d : Nat) (l0 : Nat) (x1 : Int32) (x2 : Int32) (w3 : Value) (w4 : Value) (μ : aMem) : Rn (d + 1) 26 (173, [.ref l0, .int x1, .int x2, w3, w4], [], μ) = if (mS μ l0).1 = 3 then (if (mF μ l0 1) ≤ (mF μ l0 9) then (Rn (d + 1) 26 (226, [.ref l0, .int x1, .int x2, w3, w4], [], μ)) else (if (mS μ l0).1 = 3 ∧ l0 < 999999 then ((cI d 23 [.ref l0, .int (mF μ l0 9)] μ).bind fun p3 => (cI d 25 [.int p3.1] p3.2).bind fun p5 => if p5.1 = 0 then (Rn (d + 1) 26 (226, [.ref l0, .int x1, .int x2, w3, w4], [], p5.2)) else (if (mS p5.2 l0).1 = 3 then (Rn (d + 1) 26 (173, [.ref l0, .int x1, .int x2, w3, w4], [], setF p5.2 l0 9 ((mF p5.2 l0 9) + 1))) else none)) else none)) else none :=
  (e_nx f_26_173 rfl).trans ((e_gd f_26_174 rfl).trans (g_congr (Iff.rfl) (fun h1 => (e_nx f_26_177 rfl).trans ((e_gk f_26_178 (h1) rfl).trans ((e_ge f_26_181 rfl).trans (b_congr (fun h2 => rfl) (fun h2 => (e_nx f_26_184 rfl).trans ((e_nx f_26_185 rfl).trans ((e_gk f_26_186 (h1) rfl).trans ((e_gI (L := [.ref l0, .int x1, .int x2, w3, w4]) (st := [.int (mF μ l0 9), .ref l0]) (μ := μ) (L' := [.ref l0, .int x1, .int x2, w3, w4]) (st' := []) f_26_189 rfl rfl).trans (g_congr (v_c2 rfl (Nat.le_of_ble_eq_true rfl)) (fun h4 => m_congr fun p3 => (e_cI (L := [.ref l0, .int x1, .int x2, w3, w4]) (st := [.int p3.1]) (μ := p3.2) (L' := [.ref l0, .int x1, .int x2, w3, w4]) (st' := []) f_26_192 rfl rfl).trans (m_congr fun p5 => (e_eq f_26_195 rfl).trans (b_congr (fun h6 => rfl) (fun h6 => (e_nx f_26_198 rfl).trans ((e_nx f_26_199 rfl).trans ((e_gd f_26_200 rfl).trans (g_congr (Iff.rfl) (fun h7 => (e_nx (q := (_, _, .int 1 :: _, _)) f_26_203 rfl).trans ((e_nx f_26_204 rfl).trans ((e_gk (L := [.ref l0, .int x1, .int x2, w3, w4]) (st := [.int ((mF p5.2 l0 9) + 1), .ref l0]) (μ := p5.2) f_26_205 ((pi_iff rfl).mpr h7) rfl).trans (e_nx f_26_208 rfl))))))))))))))))))))))
theorem q_26_226 (d : Nat) (l0 : Nat) (x1 : Int32) (x2 : Int32) (w3 : Value) (w4 : Value) (μ : aMem) : Rn (d + 1) 26 (226, [.ref l0, .int x1, .int x2, w3, w4], [], μ) = if x1 = 0 then (Rn (d + 1) 26 (250, [.ref l0, .int x1, .int x2, w3, w4], [], μ)) else (if (mS μ l0).1 = 3 then (if (mF μ l0 8) = x2 then (if (mF μ l0 7) = 3 then (Rn (d + 1) 26 (250, [.ref l0, .int x1, .int x2, w3, w4], [], μ)) else (Rn (d + 1) 26 (251, [.ref l0, .int x1, .int x2, w3, w4], [.int 1], μ))) else (Rn (d + 1) 26 (250, [.ref l0, .int x1, .int x2, w3, w4], [], μ))) else none) :=
  (e_nx f_26_226 rfl).trans ((e_eq f_26_227 rfl).trans (b_congr (fun h1 => rfl) (fun h1 => (e_nx f_26_230 rfl).trans ((e_gd f_26_231 rfl).trans (g_congr (Iff.rfl) (fun h2 => (e_nx f_26_234 rfl).trans ((e_ne f_26_235 rfl).trans (b_congr (fun h3 => (e_nx f_26_238 rfl).trans ((e_gk f_26_239 (h2) rfl).trans ((e_nx (q := (_, _, .int 3 :: _, _)) f_26_242 rfl).trans ((e_eq f_26_243 rfl).trans (b_congr (fun h4 => rfl) (fun h4 => (e_nx (q := (_, _, .int 1 :: _, _)) f_26_246 rfl).trans (e_nx f_26_247 rfl))))))) (fun h3 => rfl)))))))))
theorem q_26_250 (d : Nat) (l0 : Nat) (x1 : Int32) (x2 : Int32) (w3 : Value) (w4 : Value) (μ : aMem) : Rn (d + 1) 26 (250, [.ref l0, .int x1, .int x2, w3, w4], [], μ) = Rn (d + 1) 26 (251, [.ref l0, .int x1, .int x2, w3, w4], [.int 0], μ) :=
  e_nx (q := (_, _, .int 0 :: _, _)) f_26_250 rfl
theorem q_26_251 (d : Nat) (l0 : Nat) (x1 : Int32) (x2 : Int32) (w3 : Value) (w4 : Value) (xs0 : Int32) (μ : aMem) : Rn (d + 1) 26 (251, [.ref l0, .int x1, .int x2, w3, w4], [.int xs0], μ) = if (mS μ l0).1 = 3 then (if (mF μ l0 7) = 2 then (if ((mF μ l0 9) - (mF μ l0 8)) ≤ 4 then (Rn (d + 1) 26 (277, [.ref l0, .int x1, .int x2, .int xs0, w4], [], μ)) else (Rn (d + 1) 26 (278, [.ref l0, .int x1, .int x2, .int xs0, w4], [.int 1], μ))) else (Rn (d + 1) 26 (277, [.ref l0, .int x1, .int x2, .int xs0, w4], [], μ))) else none :=
  (e_nx (q := (_, [.ref l0, .int x1, .int x2, .int xs0, w4], _, _)) f_26_251 rfl).trans ((e_nx f_26_252 rfl).trans ((e_gd f_26_253 rfl).trans (g_congr (Iff.rfl) (fun h1 => (e_nx (q := (_, _, .int 2 :: _, _)) f_26_256 rfl).trans ((e_ne f_26_257 rfl).trans (b_congr (fun h2 => (e_nx f_26_260 rfl).trans ((e_gk f_26_261 (h1) rfl).trans ((e_nx f_26_264 rfl).trans ((e_gk f_26_265 (h1) rfl).trans ((e_nx f_26_268 rfl).trans ((e_nx (q := (_, _, .int 4 :: _, _)) f_26_269 rfl).trans ((e_le f_26_270 rfl).trans (b_congr (fun h3 => rfl) (fun h3 => (e_nx (q := (_, _, .int 1 :: _, _)) f_26_273 rfl).trans (e_nx f_26_274 rfl)))))))))) (fun h2 => rfl)))))))
theorem q_26_277 (d : Nat) (l0 : Nat) (x1 : Int32) (x2 : Int32) (x3 : Int32) (w4 : Value) (μ : aMem) : Rn (d + 1) 26 (277, [.ref l0, .int x1, .int x2, .int x3, w4], [], μ) = Rn (d + 1) 26 (278, [.ref l0, .int x1, .int x2, .int x3, w4], [.int 0], μ) :=
  e_nx (q := (_, _, .int 0 :: _, _)) f_26_277 rfl
theorem q_26_278 (d : Nat) (l0 : Nat) (x1 : Int32) (x2 : Int32) (x3 : Int32) (w4 : Value) (xs0 : Int32) (μ : aMem) : Rn (d + 1) 26 (278, [.ref l0, .int x1, .int x2, .int x3, w4], [.int xs0], μ) = if x3 = 0 then (if xs0 = 0 then (Rn (d + 1) 26 (294, [.ref l0, .int x1, .int x2, .int x3, .int xs0], [], μ)) else (Rn (d + 1) 26 (289, [.ref l0, .int x1, .int x2, .int x3, .int xs0], [], μ))) else (Rn (d + 1) 26 (289, [.ref l0, .int x1, .int x2, .int x3, .int xs0], [], μ)) :=
  (e_nx (q := (_, [.ref l0, .int x1, .int x2, .int x3, .int xs0], _, _)) f_26_278 rfl).trans ((e_nx f_26_280 rfl).trans ((e_ne f_26_281 rfl).trans (b_congr (fun h1 => (e_nx f_26_284 rfl).trans ((e_eq f_26_286 rfl).trans (b_congr (fun h2 => rfl) (fun h2 => rfl)))) (fun h1 => rfl))))
theorem q_26_289 (d : Nat) (l0 : Nat) (x1 : Int32) (x2 : Int32) (x3 : Int32) (x4 : Int32) (μ : aMem) : Rn (d + 1) 26 (289, [.ref l0, .int x1, .int x2, .int x3, .int x4], [], μ) = if (mS μ l0).1 = 3 then (Rn (d + 1) 26 (294, [.ref l0, .int x1, .int x2, .int x3, .int x4], [], setF μ l0 7 4)) else none :=
  (e_nx f_26_289 rfl).trans ((e_nx (q := (_, _, .int 4 :: _, _)) f_26_290 rfl).trans ((e_gd (L := [.ref l0, .int x1, .int x2, .int x3, .int x4]) (st := [.int 4, .ref l0]) (μ := μ) f_26_291 rfl).trans (g_congr (pi_iff rfl) (fun h1 => rfl))))
theorem q_26_294 (d : Nat) (l0 : Nat) (x1 : Int32) (x2 : Int32) (x3 : Int32) (x4 : Int32) (μ : aMem) : Rn (d + 1) 26 (294, [.ref l0, .int x1, .int x2, .int x3, .int x4], [], μ) = some (none, μ) :=
  e_rt f_26_294 rfl
theorem pg_27 (pc : Nat) : fe0 27 pc = lk prg_27 pc := rfl
theorem f_27_0 : fe0 27 0 = some (.aload_n 0, 1, 0, 0, 0, 0, 0) := (pg_27 0).trans rfl
theorem f_27_1 : fe0 27 1 = some (.getfield 46, 3, 3, 7, 0, 0, 1182) := (pg_27 1).trans rfl
theorem f_27_4 : fe0 27 4 = some (.iconst 1, 1, 0, 0, 0, 0, 0) := (pg_27 4).trans rfl
theorem f_27_5 : fe0 27 5 = some (.if_icmp .ne 19, 3, 0, 0, 0, 0, 0) := (pg_27 5).trans rfl
theorem f_27_8 : fe0 27 8 = some (.aload_n 0, 1, 0, 0, 0, 0, 0) := (pg_27 8).trans rfl
theorem f_27_9 : fe0 27 9 = some (.getfield 49, 3, 3, 9, 0, 0, 1184) := (pg_27 9).trans rfl
theorem f_27_12 : fe0 27 12 = some (.aload_n 0, 1, 0, 0, 0, 0, 0) := (pg_27 12).trans rfl
theorem f_27_13 : fe0 27 13 = some (.getfield 62, 3, 3, 8, 0, 0, 1183) := (pg_27 13).trans rfl
theorem f_27_16 : fe0 27 16 = some (.isub, 1, 0, 0, 0, 0, 0) := (pg_27 16).trans rfl
theorem f_27_17 : fe0 27 17 = some (.aload_n 1, 1, 0, 0, 0, 0, 0) := (pg_27 17).trans rfl
theorem f_27_18 : fe0 27 18 = some (.invokevirtual 91, 3, 234, 0, 1, 0, 3158) := (pg_27 18).trans rfl
theorem f_27_21 : fe0 27 21 = some (.if_icmp .eq 5, 3, 0, 0, 0, 0, 0) := (pg_27 21).trans rfl
theorem f_27_24 : fe0 27 24 = some (.iconst 0, 1, 0, 0, 0, 0, 0) := (pg_27 24).trans rfl
theorem f_27_25 : fe0 27 25 = some (.ireturn, 1, 1, 0, 0, 0, 0) := (pg_27 25).trans rfl
theorem f_27_26 : fe0 27 26 = some (.iconst 0, 1, 0, 0, 0, 0, 0) := (pg_27 26).trans rfl
theorem f_27_27 : fe0 27 27 = some (.istore_n 2, 1, 0, 0, 0, 0, 0) := (pg_27 27).trans rfl
theorem f_27_28 : fe0 27 28 = some (.iload_n 2, 1, 0, 0, 0, 0, 0) := (pg_27 28).trans rfl
theorem f_27_29 : fe0 27 29 = some (.aload_n 1, 1, 0, 0, 0, 0, 0) := (pg_27 29).trans rfl
theorem f_27_30 : fe0 27 30 = some (.invokevirtual 91, 3, 234, 0, 1, 0, 3158) := (pg_27 30).trans rfl
theorem f_27_33 : fe0 27 33 = some (.if_icmp .ge 29, 3, 0, 0, 0, 0, 0) := (pg_27 33).trans rfl
theorem f_27_36 : fe0 27 36 = some (.aload_n 0, 1, 0, 0, 0, 0, 0) := (pg_27 36).trans rfl
theorem f_27_37 : fe0 27 37 = some (.aload_n 0, 1, 0, 0, 0, 0, 0) := (pg_27 37).trans rfl
theorem f_27_38 : fe0 27 38 = some (.getfield 62, 3, 3, 8, 0, 0, 1183) := (pg_27 38).trans rfl
theorem f_27_41 : fe0 27 41 = some (.iload_n 2, 1, 0, 0, 0, 0, 0) := (pg_27 41).trans rfl
theorem f_27_42 : fe0 27 42 = some (.iadd, 1, 0, 0, 0, 0, 0) := (pg_27 42).trans rfl
theorem f_27_43 : fe0 27 43 = some (.invokevirtual 80, 3, 23, 1, 0, 3, 3139) := (pg_27 43).trans rfl
theorem f_27_46 : fe0 27 46 = some (.aload_n 1, 1, 0, 0, 0, 0, 0) := (pg_27 46).trans rfl
theorem f_27_47 : fe0 27 47 = some (.iload_n 2, 1, 0, 0, 0, 0, 0) := (pg_27 47).trans rfl
theorem f_27_48 : fe0 27 48 = some (.invokevirtual 95, 3, 235, 1, 1, 0, 3168) := (pg_27 48).trans rfl
theorem f_27_51 : fe0 27 51 = some (.if_icmp .eq 5, 3, 0, 0, 0, 0, 0) := (pg_27 51).trans rfl
theorem f_27_54 : fe0 27 54 = some (.iconst 0, 1, 0, 0, 0, 0, 0) := (pg_27 54).trans rfl
theorem f_27_55 : fe0 27 55 = some (.ireturn, 1, 1, 0, 0, 0, 0) := (pg_27 55).trans rfl
theorem f_27_56 : fe0 27 56 = some (.iinc 2 1, 3, 0, 0, 0, 0, 0) := (pg_27 56).trans rfl
theorem f_27_59 : fe0 27 59 = some (.goto (-31), 3, 0, 0, 0, 0, 0) := (pg_27 59).trans rfl
theorem f_27_62 : fe0 27 62 = some (.iconst 1, 1, 0, 0, 0, 0, 0) := (pg_27 62).trans rfl
theorem f_27_63 : fe0 27 63 = some (.ireturn, 1, 1, 0, 0, 0, 0) := (pg_27 63).trans rfl
theorem q_27_0 (d : Nat) (l0 : Nat) (l1 : Nat) (μ : aMem) : Rn (d + 1) 27 (0, [.ref l0, .ref l1, un], [], μ) = if (mS μ l0).1 = 3 then (if (mF μ l0 7) = 1 then (if 1000002 ≤ l1 ∧ l1 < 1000008 then ((cI d 234 [.ref l1] μ).bind fun p3 => if ((mF μ l0 9) - (mF μ l0 8)) = p3.1 then (Rn (d + 1) 27 (28, [.ref l0, .ref l1, .int 0], [], p3.2)) else (some (some (.int 0), p3.2))) else none) else (some (some (.int 0), μ))) else none :=
  (e_nx f_27_0 rfl).trans ((e_gd f_27_1 rfl).trans (g_congr (Iff.rfl) (fun h1 => (e_nx (q := (_, _, .int 1 :: _, _)) f_27_4 rfl).trans ((e_ne f_27_5 rfl).trans (b_congr (fun h2 => (e_nx f_27_8 rfl).trans ((e_gk f_27_9 (h1) rfl).trans ((e_nx f_27_12 rfl).trans ((e_gk f_27_13 (h1) rfl).trans ((e_nx f_27_16 rfl).trans ((e_nx f_27_17 rfl).trans ((e_gI (L := [.ref l0, .ref l1, un]) (st := [.ref l1, .int ((mF μ l0 9) - (mF μ l0 8))]) (μ := μ) (L' := [.ref l0, .ref l1, un]) (st' := [.int ((mF μ l0 9) - (mF μ l0 8))]) f_27_18 rfl rfl).trans (g_congr (v_c2 rfl (Nat.le_of_ble_eq_true rfl)) (fun h4 => m_congr fun p3 => (e_eq f_27_21 rfl).trans (b_congr (fun h5 => (e_nx (q := (_, _, .int 0 :: _, _)) f_27_26 rfl).trans (e_nx (q := (_, [.ref l0, .ref l1, .int 0], _, _)) f_27_27 rfl)) (fun h5 => (e_nx (q := (_, _, .int 0 :: _, _)) f_27_24 rfl).trans (e_rt f_27_25 rfl)))))))))))) (fun h2 => (e_nx (q := (_, _, .int 0 :: _, _)) f_27_24 rfl).trans (e_rt f_27_25 rfl)))))))
theorem q_27_28 (d : Nat) (l0 : Nat) (l1 : Nat) (x2 : Int32) (μ : aMem) : Rn (d + 1) 27 (28, [.ref l0, .ref l1, .int x2], [], μ) = if 1000002 ≤ l1 ∧ l1 < 1000008 then ((cI d 234 [.ref l1] μ).bind fun p1 => if p1.1 ≤ x2 then (some (some (.int 1), p1.2)) else (if (mS p1.2 l0).1 = 3 then (if (mS p1.2 l0).1 = 3 ∧ l0 < 999999 then ((cI d 23 [.ref l0, .int ((mF p1.2 l0 8) + x2)] p1.2).bind fun p5 => (cI d 235 [.ref l1, .int x2] p5.2).bind fun p7 => if p5.1 = p7.1 then (Rn (d + 1) 27 (28, [.ref l0, .ref l1, .int (x2 + 1)], [], p7.2)) else (some (some (.int 0), p7.2))) else none) else none)) else none :=
  (e_nx f_27_28 rfl).trans ((e_nx f_27_29 rfl).trans ((e_gI (L := [.ref l0, .ref l1, .int x2]) (st := [.ref l1, .int x2]) (μ := μ) (L' := [.ref l0, .ref l1, .int x2]) (st' := [.int x2]) f_27_30 rfl rfl).trans (g_congr (v_c2 rfl (Nat.le_of_ble_eq_true rfl)) (fun h2 => m_congr fun p1 => (e_ge f_27_33 rfl).trans (b_congr (fun h3 => (e_nx (q := (_, _, .int 1 :: _, _)) f_27_62 rfl).trans (e_rt f_27_63 rfl)) (fun h3 => (e_nx f_27_36 rfl).trans ((e_nx f_27_37 rfl).trans ((e_gd f_27_38 rfl).trans (g_congr (Iff.rfl) (fun h4 => (e_nx f_27_41 rfl).trans ((e_nx f_27_42 rfl).trans ((e_gI (L := [.ref l0, .ref l1, .int x2]) (st := [.int ((mF p1.2 l0 8) + x2), .ref l0]) (μ := p1.2) (L' := [.ref l0, .ref l1, .int x2]) (st' := []) f_27_43 rfl rfl).trans (g_congr (v_c2 rfl (Nat.le_of_ble_eq_true rfl)) (fun h6 => m_congr fun p5 => (e_nx f_27_46 rfl).trans ((e_nx f_27_47 rfl).trans (((e_gI (L := [.ref l0, .ref l1, .int x2]) (st := [.int x2, .ref l1, .int p5.1]) (μ := p5.2) (L' := [.ref l0, .ref l1, .int x2]) (st' := [.int p5.1]) f_27_48 rfl rfl).trans (if_pos ((v_c2 rfl (Nat.le_of_ble_eq_true rfl)).mpr h2))).trans (m_congr fun p7 => (e_eq f_27_51 rfl).trans (b_congr (fun h8 => (e_nx (q := (_, [.ref l0, .ref l1, .int (x2 + 1)], _, _)) f_27_56 rfl).trans (e_nx f_27_59 rfl)) (fun h8 => (e_nx (q := (_, _, .int 0 :: _, _)) f_27_54 rfl).trans (e_rt f_27_55 rfl))))))))))))))))))))
theorem pg_28 (pc : Nat) : fe0 28 pc = lk prg_28 pc := rfl
theorem f_28_0 : fe0 28 0 = some (.aload_n 0, 1, 0, 0, 0, 0, 0) := (pg_28 0).trans rfl
theorem f_28_1 : fe0 28 1 = some (.ldc 99, 2, 1, 0, 0, 0, 3153) := (pg_28 1).trans rfl
theorem f_28_3 : fe0 28 3 = some (.invokevirtual 101, 3, 27, 1, 0, 3, 3154) := (pg_28 3).trans rfl
theorem f_28_6 : fe0 28 6 = some (.ifCond .eq 7, 3, 0, 0, 0, 0, 0) := (pg_28 6).trans rfl
theorem f_28_9 : fe0 28 9 = some (.iconst 0, 1, 0, 0, 0, 0, 0) := (pg_28 9).trans rfl
theorem f_28_10 : fe0 28 10 = some (.goto 30, 3, 0, 0, 0, 0, 0) := (pg_28 10).trans rfl
theorem f_28_13 : fe0 28 13 = some (.aload_n 0, 1, 0, 0, 0, 0, 0) := (pg_28 13).trans rfl
theorem f_28_14 : fe0 28 14 = some (.ldc 105, 2, 1, 0, 1, 0, 3206) := (pg_28 14).trans rfl
theorem f_28_16 : fe0 28 16 = some (.invokevirtual 101, 3, 27, 1, 0, 3, 3154) := (pg_28 16).trans rfl
theorem f_28_19 : fe0 28 19 = some (.ifCond .eq 7, 3, 0, 0, 0, 0, 0) := (pg_28 19).trans rfl
theorem f_28_22 : fe0 28 22 = some (.iconst 1, 1, 0, 0, 0, 0, 0) := (pg_28 22).trans rfl
theorem f_28_23 : fe0 28 23 = some (.goto 17, 3, 0, 0, 0, 0, 0) := (pg_28 23).trans rfl
theorem f_28_26 : fe0 28 26 = some (.aload_n 0, 1, 0, 0, 0, 0, 0) := (pg_28 26).trans rfl
theorem f_28_27 : fe0 28 27 = some (.ldc 107, 2, 1, 0, 2, 0, 3207) := (pg_28 27).trans rfl
theorem f_28_29 : fe0 28 29 = some (.invokevirtual 101, 3, 27, 1, 0, 3, 3154) := (pg_28 29).trans rfl
theorem f_28_32 : fe0 28 32 = some (.ifCond .eq 7, 3, 0, 0, 0, 0, 0) := (pg_28 32).trans rfl
theorem f_28_35 : fe0 28 35 = some (.iconst 2, 1, 0, 0, 0, 0, 0) := (pg_28 35).trans rfl
theorem f_28_36 : fe0 28 36 = some (.goto 4, 3, 0, 0, 0, 0, 0) := (pg_28 36).trans rfl
theorem f_28_39 : fe0 28 39 = some (.iconst (-1), 1, 0, 0, 0, 0, 0) := (pg_28 39).trans rfl
theorem f_28_40 : fe0 28 40 = some (.ireturn, 1, 0, 0, 0, 0, 0) := (pg_28 40).trans rfl
theorem q_28_0 (d : Nat) (l0 : Nat) (μ : aMem) : Rn (d + 1) 28 (0, [.ref l0], [], μ) = if (mS μ l0).1 = 3 ∧ l0 < 999999 then ((cI d 27 [.ref l0, .ref 1000002] μ).bind fun p1 => if p1.1 = 0 then (if (mS p1.2 l0).1 = 3 ∧ l0 < 999999 then ((cI d 27 [.ref l0, .ref 1000003] p1.2).bind fun p4 => if p4.1 = 0 then (if (mS p4.2 l0).1 = 3 ∧ l0 < 999999 then ((cI d 27 [.ref l0, .ref 1000004] p4.2).bind fun p7 => if p7.1 = 0 then (some (some (.int (-1)), p7.2)) else (some (some (.int 2), p7.2))) else none) else (some (some (.int 1), p4.2))) else none) else (some (some (.int 0), p1.2))) else none :=
  (e_nx f_28_0 rfl).trans ((e_nx (q := (_, _, .ref 1000002 :: _, _)) f_28_1 rfl).trans ((e_gI (L := [.ref l0]) (st := [.ref 1000002, .ref l0]) (μ := μ) (L' := [.ref l0]) (st' := []) f_28_3 rfl rfl).trans (g_congr (v_c2 rfl (Nat.le_of_ble_eq_true rfl)) (fun h2 => m_congr fun p1 => (e_eq f_28_6 rfl).trans (b_congr (fun h3 => (e_nx f_28_13 rfl).trans ((e_nx (q := (_, _, .ref 1000003 :: _, _)) f_28_14 rfl).trans ((e_gI (L := [.ref l0]) (st := [.ref 1000003, .ref l0]) (μ := p1.2) (L' := [.ref l0]) (st' := []) f_28_16 rfl rfl).trans (g_congr (v_c2 rfl (Nat.le_of_ble_eq_true rfl)) (fun h5 => m_congr fun p4 => (e_eq f_28_19 rfl).trans (b_congr (fun h6 => (e_nx f_28_26 rfl).trans ((e_nx (q := (_, _, .ref 1000004 :: _, _)) f_28_27 rfl).trans ((e_gI (L := [.ref l0]) (st := [.ref 1000004, .ref l0]) (μ := p4.2) (L' := [.ref l0]) (st' := []) f_28_29 rfl rfl).trans (g_congr (v_c2 rfl (Nat.le_of_ble_eq_true rfl)) (fun h8 => m_congr fun p7 => (e_eq f_28_32 rfl).trans (b_congr (fun h9 => (e_nx (q := (_, _, .int (-1) :: _, _)) f_28_39 rfl).trans (e_rt f_28_40 rfl)) (fun h9 => (e_nx (q := (_, _, .int 2 :: _, _)) f_28_35 rfl).trans ((e_nx f_28_36 rfl).trans (e_rt f_28_40 rfl))))))))) (fun h6 => (e_nx (q := (_, _, .int 1 :: _, _)) f_28_22 rfl).trans ((e_nx f_28_23 rfl).trans (e_rt f_28_40 rfl))))))))) (fun h3 => (e_nx (q := (_, _, .int 0 :: _, _)) f_28_9 rfl).trans ((e_nx f_28_10 rfl).trans (e_rt f_28_40 rfl))))))))
theorem pg_29 (pc : Nat) : fe0 29 pc = lk prg_29 pc := rfl
theorem f_29_0 : fe0 29 0 = some (.aload_n 0, 1, 0, 0, 0, 0, 0) := (pg_29 0).trans rfl
theorem f_29_1 : fe0 29 1 = some (.getfield 46, 3, 3, 7, 0, 0, 1182) := (pg_29 1).trans rfl
theorem f_29_4 : fe0 29 4 = some (.iconst 1, 1, 0, 0, 0, 0, 0) := (pg_29 4).trans rfl
theorem f_29_5 : fe0 29 5 = some (.if_icmp .ne 16, 3, 0, 0, 0, 0, 0) := (pg_29 5).trans rfl
theorem f_29_8 : fe0 29 8 = some (.aload_n 0, 1, 0, 0, 0, 0, 0) := (pg_29 8).trans rfl
theorem f_29_9 : fe0 29 9 = some (.getfield 49, 3, 3, 9, 0, 0, 1184) := (pg_29 9).trans rfl
theorem f_29_12 : fe0 29 12 = some (.aload_n 0, 1, 0, 0, 0, 0, 0) := (pg_29 12).trans rfl
theorem f_29_13 : fe0 29 13 = some (.getfield 62, 3, 3, 8, 0, 0, 1183) := (pg_29 13).trans rfl
theorem f_29_16 : fe0 29 16 = some (.isub, 1, 0, 0, 0, 0, 0) := (pg_29 16).trans rfl
theorem f_29_17 : fe0 29 17 = some (.iconst 1, 1, 0, 0, 0, 0, 0) := (pg_29 17).trans rfl
theorem f_29_18 : fe0 29 18 = some (.if_icmp .eq 5, 3, 0, 0, 0, 0, 0) := (pg_29 18).trans rfl
theorem f_29_21 : fe0 29 21 = some (.iconst (-1), 1, 0, 0, 0, 0, 0) := (pg_29 21).trans rfl
theorem f_29_22 : fe0 29 22 = some (.ireturn, 1, 0, 0, 0, 0, 0) := (pg_29 22).trans rfl
theorem f_29_23 : fe0 29 23 = some (.aload_n 0, 1, 0, 0, 0, 0, 0) := (pg_29 23).trans rfl
theorem f_29_24 : fe0 29 24 = some (.getfield 59, 3, 3, 4, 0, 0, 1179) := (pg_29 24).trans rfl
theorem f_29_27 : fe0 29 27 = some (.ifCond .ne 8, 3, 0, 0, 0, 0, 0) := (pg_29 27).trans rfl
theorem f_29_30 : fe0 29 30 = some (.ldc 109, 2, 1, 0, 3, 0, 3232) := (pg_29 30).trans rfl
theorem f_29_32 : fe0 29 32 = some (.goto 18, 3, 0, 0, 0, 0, 0) := (pg_29 32).trans rfl
theorem f_29_35 : fe0 29 35 = some (.aload_n 0, 1, 0, 0, 0, 0, 0) := (pg_29 35).trans rfl
theorem f_29_36 : fe0 29 36 = some (.getfield 59, 3, 3, 4, 0, 0, 1179) := (pg_29 36).trans rfl
theorem f_29_39 : fe0 29 39 = some (.iconst 1, 1, 0, 0, 0, 0, 0) := (pg_29 39).trans rfl
theorem f_29_40 : fe0 29 40 = some (.if_icmp .ne 8, 3, 0, 0, 0, 0, 0) := (pg_29 40).trans rfl
theorem f_29_43 : fe0 29 43 = some (.ldc 111, 2, 1, 0, 4, 0, 3233) := (pg_29 43).trans rfl
theorem f_29_45 : fe0 29 45 = some (.goto 5, 3, 0, 0, 0, 0, 0) := (pg_29 45).trans rfl
theorem f_29_48 : fe0 29 48 = some (.ldc 113, 2, 1, 0, 5, 0, 3234) := (pg_29 48).trans rfl
theorem f_29_50 : fe0 29 50 = some (.astore_n 1, 1, 0, 0, 0, 0, 0) := (pg_29 50).trans rfl
theorem f_29_51 : fe0 29 51 = some (.aload_n 1, 1, 0, 0, 0, 0, 0) := (pg_29 51).trans rfl
theorem f_29_52 : fe0 29 52 = some (.aload_n 0, 1, 0, 0, 0, 0, 0) := (pg_29 52).trans rfl
theorem f_29_53 : fe0 29 53 = some (.aload_n 0, 1, 0, 0, 0, 0, 0) := (pg_29 53).trans rfl
theorem f_29_54 : fe0 29 54 = some (.getfield 62, 3, 3, 8, 0, 0, 1183) := (pg_29 54).trans rfl
theorem f_29_57 : fe0 29 57 = some (.invokevirtual 80, 3, 23, 1, 0, 3, 3139) := (pg_29 57).trans rfl
theorem f_29_60 : fe0 29 60 = some (.i2c, 1, 0, 0, 0, 0, 0) := (pg_29 60).trans rfl
theorem f_29_61 : fe0 29 61 = some (.invokevirtual 115, 3, 236, 1, 1, 0, 3235) := (pg_29 61).trans rfl
theorem f_29_64 : fe0 29 64 = some (.ireturn, 1, 0, 0, 0, 0, 0) := (pg_29 64).trans rfl
theorem q_29_0 (d : Nat) (l0 : Nat) (μ : aMem) : Rn (d + 1) 29 (0, [.ref l0, un], [], μ) = if (mS μ l0).1 = 3 then (if (mF μ l0 7) = 1 then (if ((mF μ l0 9) - (mF μ l0 8)) = 1 then (if (mF μ l0 4) = 0 then (if (mS μ l0).1 = 3 ∧ l0 < 999999 then ((cI d 23 [.ref l0, .int (mF μ l0 8)] μ).bind fun p5 => (cI d 236 [.ref 1000005, .int (((p5.1 : Int32).toUInt32 % 65536).toInt32)] p5.2).bind fun p7 => some (some (.int p7.1), p7.2)) else none) else (if (mF μ l0 4) = 1 then (if (mS μ l0).1 = 3 ∧ l0 < 999999 then ((cI d 23 [.ref l0, .int (mF μ l0 8)] μ).bind fun p9 => (cI d 236 [.ref 1000006, .int (((p9.1 : Int32).toUInt32 % 65536).toInt32)] p9.2).bind fun p11 => some (some (.int p11.1), p11.2)) else none) else (if (mS μ l0).1 = 3 ∧ l0 < 999999 then ((cI d 23 [.ref l0, .int (mF μ l0 8)] μ).bind fun p12 => (cI d 236 [.ref 1000007, .int (((p12.1 : Int32).toUInt32 % 65536).toInt32)] p12.2).bind fun p14 => some (some (.int p14.1), p14.2)) else none))) else (some (some (.int (-1)), μ))) else (some (some (.int (-1)), μ))) else none :=
  (e_nx f_29_0 rfl).trans ((e_gd f_29_1 rfl).trans (g_congr (Iff.rfl) (fun h1 => (e_nx (q := (_, _, .int 1 :: _, _)) f_29_4 rfl).trans ((e_ne f_29_5 rfl).trans (b_congr (fun h2 => (e_nx f_29_8 rfl).trans ((e_gk f_29_9 (h1) rfl).trans ((e_nx f_29_12 rfl).trans ((e_gk f_29_13 (h1) rfl).trans ((e_nx f_29_16 rfl).trans ((e_nx (q := (_, _, .int 1 :: _, _)) f_29_17 rfl).trans ((e_eq f_29_18 rfl).trans (b_congr (fun h3 => (e_nx f_29_23 rfl).trans ((e_gk f_29_24 (h1) rfl).trans ((e_ne f_29_27 rfl).trans (b_congr (fun h4 => (e_nx (q := (_, _, .ref 1000005 :: _, _)) f_29_30 rfl).trans ((e_nx f_29_32 rfl).trans ((e_nx (q := (_, [.ref l0, .ref 1000005], _, _)) f_29_50 rfl).trans ((e_nx f_29_51 rfl).trans ((e_nx f_29_52 rfl).trans ((e_nx f_29_53 rfl).trans ((e_gk f_29_54 (h1) rfl).trans ((e_gI (L := [.ref l0, .ref 1000005]) (st := [.int (mF μ l0 8), .ref l0, .ref 1000005]) (μ := μ) (L' := [.ref l0, .ref 1000005]) (st' := [.ref 1000005]) f_29_57 rfl rfl).trans (g_congr (v_c2 rfl (Nat.le_of_ble_eq_true rfl)) (fun h6 => m_congr fun p5 => (e_nx f_29_60 rfl).trans ((e_cI f_29_61 rfl rfl).trans (m_congr fun p7 => e_rt f_29_64 rfl)))))))))))) (fun h4 => (e_nx f_29_35 rfl).trans ((e_gk f_29_36 (h1) rfl).trans ((e_nx (q := (_, _, .int 1 :: _, _)) f_29_39 rfl).trans ((e_ne f_29_40 rfl).trans (b_congr (fun h8 => (e_nx (q := (_, _, .ref 1000006 :: _, _)) f_29_43 rfl).trans ((e_nx f_29_45 rfl).trans ((e_nx (q := (_, [.ref l0, .ref 1000006], _, _)) f_29_50 rfl).trans ((e_nx f_29_51 rfl).trans ((e_nx f_29_52 rfl).trans ((e_nx f_29_53 rfl).trans ((e_gk f_29_54 (h1) rfl).trans ((e_gI (L := [.ref l0, .ref 1000006]) (st := [.int (mF μ l0 8), .ref l0, .ref 1000006]) (μ := μ) (L' := [.ref l0, .ref 1000006]) (st' := [.ref 1000006]) f_29_57 rfl rfl).trans (g_congr (v_c2 rfl (Nat.le_of_ble_eq_true rfl)) (fun h10 => m_congr fun p9 => (e_nx f_29_60 rfl).trans ((e_cI f_29_61 rfl rfl).trans (m_congr fun p11 => e_rt f_29_64 rfl)))))))))))) (fun h8 => (e_nx (q := (_, _, .ref 1000007 :: _, _)) f_29_48 rfl).trans ((e_nx (q := (_, [.ref l0, .ref 1000007], _, _)) f_29_50 rfl).trans ((e_nx f_29_51 rfl).trans ((e_nx f_29_52 rfl).trans ((e_nx f_29_53 rfl).trans ((e_gk f_29_54 (h1) rfl).trans ((e_gI (L := [.ref l0, .ref 1000007]) (st := [.int (mF μ l0 8), .ref l0, .ref 1000007]) (μ := μ) (L' := [.ref l0, .ref 1000007]) (st' := [.ref 1000007]) f_29_57 rfl rfl).trans (g_congr (v_c2 rfl (Nat.le_of_ble_eq_true rfl)) (fun h13 => m_congr fun p12 => (e_nx f_29_60 rfl).trans ((e_cI f_29_61 rfl rfl).trans (m_congr fun p14 => e_rt f_29_64 rfl)))))))))))))))))))) (fun h3 => (e_nx (q := (_, _, .int (-1) :: _, _)) f_29_21 rfl).trans (e_rt f_29_22 rfl)))))))))) (fun h2 => (e_nx (q := (_, _, .int (-1) :: _, _)) f_29_21 rfl).trans (e_rt f_29_22 rfl)))))))
theorem pg_30 (pc : Nat) : fe0 30 pc = lk prg_30 pc := rfl
theorem f_30_0 : fe0 30 0 = some (.iconst 0, 1, 0, 0, 0, 0, 0) := (pg_30 0).trans rfl
theorem f_30_1 : fe0 30 1 = some (.istore_n 1, 1, 0, 0, 0, 0, 0) := (pg_30 1).trans rfl
theorem f_30_2 : fe0 30 2 = some (.aload_n 0, 1, 0, 0, 0, 0, 0) := (pg_30 2).trans rfl
theorem f_30_3 : fe0 30 3 = some (.getfield 62, 3, 3, 8, 0, 0, 1183) := (pg_30 3).trans rfl
theorem f_30_6 : fe0 30 6 = some (.istore_n 2, 1, 0, 0, 0, 0, 0) := (pg_30 6).trans rfl
theorem f_30_7 : fe0 30 7 = some (.iload_n 2, 1, 0, 0, 0, 0, 0) := (pg_30 7).trans rfl
theorem f_30_8 : fe0 30 8 = some (.aload_n 0, 1, 0, 0, 0, 0, 0) := (pg_30 8).trans rfl
theorem f_30_9 : fe0 30 9 = some (.getfield 49, 3, 3, 9, 0, 0, 1184) := (pg_30 9).trans rfl
theorem f_30_12 : fe0 30 12 = some (.if_icmp .ge 23, 3, 0, 0, 0, 0, 0) := (pg_30 12).trans rfl
theorem f_30_15 : fe0 30 15 = some (.bipush 10, 2, 0, 0, 0, 0, 0) := (pg_30 15).trans rfl
theorem f_30_17 : fe0 30 17 = some (.iload_n 1, 1, 0, 0, 0, 0, 0) := (pg_30 17).trans rfl
theorem f_30_18 : fe0 30 18 = some (.imul, 1, 0, 0, 0, 0, 0) := (pg_30 18).trans rfl
theorem f_30_19 : fe0 30 19 = some (.aload_n 0, 1, 0, 0, 0, 0, 0) := (pg_30 19).trans rfl
theorem f_30_20 : fe0 30 20 = some (.iload_n 2, 1, 0, 0, 0, 0, 0) := (pg_30 20).trans rfl
theorem f_30_21 : fe0 30 21 = some (.invokevirtual 80, 3, 23, 1, 0, 3, 3139) := (pg_30 21).trans rfl
theorem f_30_24 : fe0 30 24 = some (.iadd, 1, 0, 0, 0, 0, 0) := (pg_30 24).trans rfl
theorem f_30_25 : fe0 30 25 = some (.bipush 48, 2, 0, 0, 0, 0, 0) := (pg_30 25).trans rfl
theorem f_30_27 : fe0 30 27 = some (.isub, 1, 0, 0, 0, 0, 0) := (pg_30 27).trans rfl
theorem f_30_28 : fe0 30 28 = some (.istore_n 1, 1, 0, 0, 0, 0, 0) := (pg_30 28).trans rfl
theorem f_30_29 : fe0 30 29 = some (.iinc 2 1, 3, 0, 0, 0, 0, 0) := (pg_30 29).trans rfl
theorem f_30_32 : fe0 30 32 = some (.goto (-25), 3, 0, 0, 0, 0, 0) := (pg_30 32).trans rfl
theorem f_30_35 : fe0 30 35 = some (.iload_n 1, 1, 0, 0, 0, 0, 0) := (pg_30 35).trans rfl
theorem f_30_36 : fe0 30 36 = some (.ireturn, 1, 0, 0, 0, 0, 0) := (pg_30 36).trans rfl
theorem q_30_0 (d : Nat) (l0 : Nat) (μ : aMem) : Rn (d + 1) 30 (0, [.ref l0, un, un], [], μ) = if (mS μ l0).1 = 3 then (Rn (d + 1) 30 (7, [.ref l0, .int 0, .int (mF μ l0 8)], [], μ)) else none :=
  (e_nx (q := (_, _, .int 0 :: _, _)) f_30_0 rfl).trans ((e_nx (q := (_, [.ref l0, .int 0, un], _, _)) f_30_1 rfl).trans ((e_nx f_30_2 rfl).trans ((e_gd f_30_3 rfl).trans (g_congr (Iff.rfl) (fun h1 => e_nx (q := (_, [.ref l0, .int 0, .int (mF μ l0 8)], _, _)) f_30_6 rfl)))))
theorem q_30_7 (d : Nat) (l0 : Nat) (x1 : Int32) (x2 : Int32) (μ : aMem) : Rn (d + 1) 30 (7, [.ref l0, .int x1, .int x2], [], μ) = if (mS μ l0).1 = 3 then (if (mF μ l0 9) ≤ x2 then (some (some (.int x1), μ)) else (if (mS μ l0).1 = 3 ∧ l0 < 999999 then ((cI d 23 [.ref l0, .int x2] μ).bind fun p3 => Rn (d + 1) 30 (7, [.ref l0, .int (((10 * x1) + p3.1) - 48), .int (x2 + 1)], [], p3.2)) else none)) else none :=
  (e_nx f_30_7 rfl).trans ((e_nx f_30_8 rfl).trans ((e_gd f_30_9 rfl).trans (g_congr (Iff.rfl) (fun h1 => (e_ge f_30_12 rfl).trans (b_congr (fun h2 => (e_nx f_30_35 rfl).trans (e_rt f_30_36 rfl)) (fun h2 => (e_nx (q := (_, _, .int 10 :: _, _)) f_30_15 rfl).trans ((e_nx f_30_17 rfl).trans ((e_nx f_30_18 rfl).trans ((e_nx f_30_19 rfl).trans ((e_nx f_30_20 rfl).trans ((e_gI (L := [.ref l0, .int x1, .int x2]) (st := [.int x2, .ref l0, .int (10 * x1)]) (μ := μ) (L' := [.ref l0, .int x1, .int x2]) (st' := [.int (10 * x1)]) f_30_21 rfl rfl).trans (g_congr (v_c2 rfl (Nat.le_of_ble_eq_true rfl)) (fun h4 => m_congr fun p3 => (e_nx f_30_24 rfl).trans ((e_nx (q := (_, _, .int 48 :: _, _)) f_30_25 rfl).trans ((e_nx f_30_27 rfl).trans ((e_nx (q := (_, [.ref l0, .int (((10 * x1) + p3.1) - 48), .int x2], _, _)) f_30_28 rfl).trans ((e_nx (q := (_, [.ref l0, .int (((10 * x1) + p3.1) - 48), .int (x2 + 1)], _, _)) f_30_29 rfl).trans (e_nx f_30_32 rfl))))))))))))))))))
theorem pg_31 (pc : Nat) : fe0 31 pc = lk prg_31 pc := rfl
theorem f_31_0 : fe0 31 0 = some (.aload_n 0, 1, 0, 0, 0, 0, 0) := (pg_31 0).trans rfl
theorem f_31_1 : fe0 31 1 = some (.getfield 46, 3, 3, 7, 0, 0, 1182) := (pg_31 1).trans rfl
theorem f_31_4 : fe0 31 4 = some (.iconst 3, 1, 0, 0, 0, 0, 0) := (pg_31 4).trans rfl
theorem f_31_5 : fe0 31 5 = some (.if_icmp .ne 19, 3, 0, 0, 0, 0, 0) := (pg_31 5).trans rfl
theorem f_31_8 : fe0 31 8 = some (.aload_n 0, 1, 0, 0, 0, 0, 0) := (pg_31 8).trans rfl
theorem f_31_9 : fe0 31 9 = some (.aload_n 0, 1, 0, 0, 0, 0, 0) := (pg_31 9).trans rfl
theorem f_31_10 : fe0 31 10 = some (.getfield 62, 3, 3, 8, 0, 0, 1183) := (pg_31 10).trans rfl
theorem f_31_13 : fe0 31 13 = some (.invokevirtual 80, 3, 23, 1, 0, 3, 3139) := (pg_31 13).trans rfl
theorem f_31_16 : fe0 31 16 = some (.iload_n 1, 1, 0, 0, 0, 0, 0) := (pg_31 16).trans rfl
theorem f_31_17 : fe0 31 17 = some (.if_icmp .ne 7, 3, 0, 0, 0, 0, 0) := (pg_31 17).trans rfl
theorem f_31_20 : fe0 31 20 = some (.iconst 1, 1, 0, 0, 0, 0, 0) := (pg_31 20).trans rfl
theorem f_31_21 : fe0 31 21 = some (.goto 4, 3, 0, 0, 0, 0, 0) := (pg_31 21).trans rfl
theorem f_31_24 : fe0 31 24 = some (.iconst 0, 1, 0, 0, 0, 0, 0) := (pg_31 24).trans rfl
theorem f_31_25 : fe0 31 25 = some (.ireturn, 1, 1, 0, 0, 0, 0) := (pg_31 25).trans rfl
theorem q_31_0 (d : Nat) (l0 : Nat) (x1 : Int32) (μ : aMem) : Rn (d + 1) 31 (0, [.ref l0, .int x1], [], μ) = if (mS μ l0).1 = 3 then (if (mF μ l0 7) = 3 then (if (mS μ l0).1 = 3 ∧ l0 < 999999 then ((cI d 23 [.ref l0, .int (mF μ l0 8)] μ).bind fun p3 => if p3.1 = x1 then (some (some (.int 1), p3.2)) else (some (some (.int 0), p3.2))) else none) else (some (some (.int 0), μ))) else none :=
  (e_nx f_31_0 rfl).trans ((e_gd f_31_1 rfl).trans (g_congr (Iff.rfl) (fun h1 => (e_nx (q := (_, _, .int 3 :: _, _)) f_31_4 rfl).trans ((e_ne f_31_5 rfl).trans (b_congr (fun h2 => (e_nx f_31_8 rfl).trans ((e_nx f_31_9 rfl).trans ((e_gk f_31_10 (h1) rfl).trans ((e_gI (L := [.ref l0, .int x1]) (st := [.int (mF μ l0 8), .ref l0]) (μ := μ) (L' := [.ref l0, .int x1]) (st' := []) f_31_13 rfl rfl).trans (g_congr (v_c2 rfl (Nat.le_of_ble_eq_true rfl)) (fun h4 => m_congr fun p3 => (e_nx f_31_16 rfl).trans ((e_ne f_31_17 rfl).trans (b_congr (fun h5 => (e_nx (q := (_, _, .int 1 :: _, _)) f_31_20 rfl).trans ((e_nx f_31_21 rfl).trans (e_rt f_31_25 rfl))) (fun h5 => (e_nx (q := (_, _, .int 0 :: _, _)) f_31_24 rfl).trans (e_rt f_31_25 rfl)))))))))) (fun h2 => (e_nx (q := (_, _, .int 0 :: _, _)) f_31_24 rfl).trans (e_rt f_31_25 rfl)))))))
theorem pg_32 (pc : Nat) : fe0 32 pc = lk prg_32 pc := rfl
theorem f_32_0 : fe0 32 0 = some (.iload_n 1, 1, 0, 0, 0, 0, 0) := (pg_32 0).trans rfl
theorem f_32_1 : fe0 32 1 = some (.tableswitch 130 0 4 #[35, 42, 49, 82, 106], 35, 0, 0, 0, 0, 0) := (pg_32 1).trans rfl
theorem f_32_36 : fe0 32 36 = some (.aload_n 0, 1, 0, 0, 0, 0, 0) := (pg_32 36).trans rfl
theorem f_32_37 : fe0 32 37 = some (.bipush 124, 2, 0, 0, 0, 0, 0) := (pg_32 37).trans rfl
theorem f_32_39 : fe0 32 39 = some (.invokevirtual 118, 3, 31, 1, 0, 3, 4050) := (pg_32 39).trans rfl
theorem f_32_42 : fe0 32 42 = some (.ireturn, 1, 1, 0, 0, 0, 0) := (pg_32 42).trans rfl
theorem f_32_43 : fe0 32 43 = some (.aload_n 0, 1, 0, 0, 0, 0, 0) := (pg_32 43).trans rfl
theorem f_32_44 : fe0 32 44 = some (.bipush 38, 2, 0, 0, 0, 0, 0) := (pg_32 44).trans rfl
theorem f_32_46 : fe0 32 46 = some (.invokevirtual 118, 3, 31, 1, 0, 3, 4050) := (pg_32 46).trans rfl
theorem f_32_49 : fe0 32 49 = some (.ireturn, 1, 1, 0, 0, 0, 0) := (pg_32 49).trans rfl
theorem f_32_50 : fe0 32 50 = some (.aload_n 0, 1, 0, 0, 0, 0, 0) := (pg_32 50).trans rfl
theorem f_32_51 : fe0 32 51 = some (.bipush 60, 2, 0, 0, 0, 0, 0) := (pg_32 51).trans rfl
theorem f_32_53 : fe0 32 53 = some (.invokevirtual 118, 3, 31, 1, 0, 3, 4050) := (pg_32 53).trans rfl
theorem f_32_56 : fe0 32 56 = some (.ifCond .ne 21, 3, 0, 0, 0, 0, 0) := (pg_32 56).trans rfl
theorem f_32_59 : fe0 32 59 = some (.aload_n 0, 1, 0, 0, 0, 0, 0) := (pg_32 59).trans rfl
theorem f_32_60 : fe0 32 60 = some (.bipush 61, 2, 0, 0, 0, 0, 0) := (pg_32 60).trans rfl
theorem f_32_62 : fe0 32 62 = some (.invokevirtual 118, 3, 31, 1, 0, 3, 4050) := (pg_32 62).trans rfl
theorem f_32_65 : fe0 32 65 = some (.ifCond .ne 12, 3, 0, 0, 0, 0, 0) := (pg_32 65).trans rfl
theorem f_32_68 : fe0 32 68 = some (.aload_n 0, 1, 0, 0, 0, 0, 0) := (pg_32 68).trans rfl
theorem f_32_69 : fe0 32 69 = some (.bipush 62, 2, 0, 0, 0, 0, 0) := (pg_32 69).trans rfl
theorem f_32_71 : fe0 32 71 = some (.invokevirtual 118, 3, 31, 1, 0, 3, 4050) := (pg_32 71).trans rfl
theorem f_32_74 : fe0 32 74 = some (.ifCond .eq 7, 3, 0, 0, 0, 0, 0) := (pg_32 74).trans rfl
theorem f_32_77 : fe0 32 77 = some (.iconst 1, 1, 0, 0, 0, 0, 0) := (pg_32 77).trans rfl
theorem f_32_78 : fe0 32 78 = some (.goto 4, 3, 0, 0, 0, 0, 0) := (pg_32 78).trans rfl
theorem f_32_81 : fe0 32 81 = some (.iconst 0, 1, 0, 0, 0, 0, 0) := (pg_32 81).trans rfl
theorem f_32_82 : fe0 32 82 = some (.ireturn, 1, 1, 0, 0, 0, 0) := (pg_32 82).trans rfl
theorem f_32_83 : fe0 32 83 = some (.aload_n 0, 1, 0, 0, 0, 0, 0) := (pg_32 83).trans rfl
theorem f_32_84 : fe0 32 84 = some (.bipush 43, 2, 0, 0, 0, 0, 0) := (pg_32 84).trans rfl
theorem f_32_86 : fe0 32 86 = some (.invokevirtual 118, 3, 31, 1, 0, 3, 4050) := (pg_32 86).trans rfl
theorem f_32_89 : fe0 32 89 = some (.ifCond .ne 12, 3, 0, 0, 0, 0, 0) := (pg_32 89).trans rfl
theorem f_32_92 : fe0 32 92 = some (.aload_n 0, 1, 0, 0, 0, 0, 0) := (pg_32 92).trans rfl
theorem f_32_93 : fe0 32 93 = some (.bipush 45, 2, 0, 0, 0, 0, 0) := (pg_32 93).trans rfl
theorem f_32_95 : fe0 32 95 = some (.invokevirtual 118, 3, 31, 1, 0, 3, 4050) := (pg_32 95).trans rfl
theorem f_32_98 : fe0 32 98 = some (.ifCond .eq 7, 3, 0, 0, 0, 0, 0) := (pg_32 98).trans rfl
theorem f_32_101 : fe0 32 101 = some (.iconst 1, 1, 0, 0, 0, 0, 0) := (pg_32 101).trans rfl
theorem f_32_102 : fe0 32 102 = some (.goto 4, 3, 0, 0, 0, 0, 0) := (pg_32 102).trans rfl
theorem f_32_105 : fe0 32 105 = some (.iconst 0, 1, 0, 0, 0, 0, 0) := (pg_32 105).trans rfl
theorem f_32_106 : fe0 32 106 = some (.ireturn, 1, 1, 0, 0, 0, 0) := (pg_32 106).trans rfl
theorem f_32_107 : fe0 32 107 = some (.aload_n 0, 1, 0, 0, 0, 0, 0) := (pg_32 107).trans rfl
theorem f_32_108 : fe0 32 108 = some (.bipush 42, 2, 0, 0, 0, 0, 0) := (pg_32 108).trans rfl
theorem f_32_110 : fe0 32 110 = some (.invokevirtual 118, 3, 31, 1, 0, 3, 4050) := (pg_32 110).trans rfl
theorem f_32_113 : fe0 32 113 = some (.ifCond .ne 12, 3, 0, 0, 0, 0, 0) := (pg_32 113).trans rfl
theorem f_32_116 : fe0 32 116 = some (.aload_n 0, 1, 0, 0, 0, 0, 0) := (pg_32 116).trans rfl
theorem f_32_117 : fe0 32 117 = some (.bipush 47, 2, 0, 0, 0, 0, 0) := (pg_32 117).trans rfl
theorem f_32_119 : fe0 32 119 = some (.invokevirtual 118, 3, 31, 1, 0, 3, 4050) := (pg_32 119).trans rfl
theorem f_32_122 : fe0 32 122 = some (.ifCond .eq 7, 3, 0, 0, 0, 0, 0) := (pg_32 122).trans rfl
theorem f_32_125 : fe0 32 125 = some (.iconst 1, 1, 0, 0, 0, 0, 0) := (pg_32 125).trans rfl
theorem f_32_126 : fe0 32 126 = some (.goto 4, 3, 0, 0, 0, 0, 0) := (pg_32 126).trans rfl
theorem f_32_129 : fe0 32 129 = some (.iconst 0, 1, 0, 0, 0, 0, 0) := (pg_32 129).trans rfl
theorem f_32_130 : fe0 32 130 = some (.ireturn, 1, 1, 0, 0, 0, 0) := (pg_32 130).trans rfl
theorem f_32_131 : fe0 32 131 = some (.iconst 0, 1, 0, 0, 0, 0, 0) := (pg_32 131).trans rfl
theorem f_32_132 : fe0 32 132 = some (.ireturn, 1, 1, 0, 0, 0, 0) := (pg_32 132).trans rfl
theorem q_32_0 (d : Nat) (l0 : Nat) (x1 : Int32) (μ : aMem) : Rn (d + 1) 32 (0, [.ref l0, .int x1], [], μ) = if x1 = 0 then (if (mS μ l0).1 = 3 ∧ l0 < 999999 then ((cI d 31 [.ref l0, .int 124] μ).bind fun p1 => if p1.1 = 0 ∨ p1.1 = 1 then some (some (.int p1.1), p1.2) else none) else none) else (if x1 = 1 then (if (mS μ l0).1 = 3 ∧ l0 < 999999 then ((cI d 31 [.ref l0, .int 38] μ).bind fun p3 => if p3.1 = 0 ∨ p3.1 = 1 then some (some (.int p3.1), p3.2) else none) else none) else (if x1 = 2 then (if (mS μ l0).1 = 3 ∧ l0 < 999999 then ((cI d 31 [.ref l0, .int 60] μ).bind fun p5 => if p5.1 = 0 then (if (mS p5.2 l0).1 = 3 ∧ l0 < 999999 then ((cI d 31 [.ref l0, .int 61] p5.2).bind fun p8 => if p8.1 = 0 then (if (mS p8.2 l0).1 = 3 ∧ l0 < 999999 then ((cI d 31 [.ref l0, .int 62] p8.2).bind fun p11 => if p11.1 = 0 then (some (some (.int 0), p11.2)) else (some (some (.int 1), p11.2))) else none) else (some (some (.int 1), p8.2))) else none) else (some (some (.int 1), p5.2))) else none) else (if x1 = 3 then (if (mS μ l0).1 = 3 ∧ l0 < 999999 then ((cI d 31 [.ref l0, .int 43] μ).bind fun p14 => if p14.1 = 0 then (if (mS p14.2 l0).1 = 3 ∧ l0 < 999999 then ((cI d 31 [.ref l0, .int 45] p14.2).bind fun p17 => if p17.1 = 0 then (some (some (.int 0), p17.2)) else (some (some (.int 1), p17.2))) else none) else (some (some (.int 1), p14.2))) else none) else (if x1 = 4 then (if (mS μ l0).1 = 3 ∧ l0 < 999999 then ((cI d 31 [.ref l0, .int 42] μ).bind fun p20 => if p20.1 = 0 then (if (mS p20.2 l0).1 = 3 ∧ l0 < 999999 then ((cI d 31 [.ref l0, .int 47] p20.2).bind fun p23 => if p23.1 = 0 then (some (some (.int 0), p23.2)) else (some (some (.int 1), p23.2))) else none) else (some (some (.int 1), p20.2))) else none) else (some (some (.int 0), μ)))))) :=
  (e_nx f_32_0 rfl).trans ((e_tab f_32_1 (ts := [36, 43, 50, 83, 107]) (df := 131) (lo := 0) rfl rfl rfl (by decide) (by decide)).trans (b_congr (fun _ => (e_nx f_32_36 rfl).trans ((e_nx (q := (_, _, .int 124 :: _, _)) f_32_37 rfl).trans ((e_gI (L := [.ref l0, .int x1]) (st := [.int 124, .ref l0]) (μ := μ) (L' := [.ref l0, .int x1]) (st' := []) f_32_39 rfl rfl).trans (g_congr (v_c2 rfl (Nat.le_of_ble_eq_true rfl)) (fun h2 => m_congr fun p1 => (e_rg f_32_42 rfl).trans (g_congr rt1_iff (fun _ => rfl))))))) (fun _ => b_congr (fun _ => (e_nx f_32_43 rfl).trans ((e_nx (q := (_, _, .int 38 :: _, _)) f_32_44 rfl).trans ((e_gI (L := [.ref l0, .int x1]) (st := [.int 38, .ref l0]) (μ := μ) (L' := [.ref l0, .int x1]) (st' := []) f_32_46 rfl rfl).trans (g_congr (v_c2 rfl (Nat.le_of_ble_eq_true rfl)) (fun h4 => m_congr fun p3 => (e_rg f_32_49 rfl).trans (g_congr rt1_iff (fun _ => rfl))))))) (fun _ => b_congr (fun _ => (e_nx f_32_50 rfl).trans ((e_nx (q := (_, _, .int 60 :: _, _)) f_32_51 rfl).trans ((e_gI (L := [.ref l0, .int x1]) (st := [.int 60, .ref l0]) (μ := μ) (L' := [.ref l0, .int x1]) (st' := []) f_32_53 rfl rfl).trans (g_congr (v_c2 rfl (Nat.le_of_ble_eq_true rfl)) (fun h6 => m_congr fun p5 => (e_ne f_32_56 rfl).trans (b_congr (fun h7 => (e_nx f_32_59 rfl).trans ((e_nx (q := (_, _, .int 61 :: _, _)) f_32_60 rfl).trans ((e_gI (L := [.ref l0, .int x1]) (st := [.int 61, .ref l0]) (μ := p5.2) (L' := [.ref l0, .int x1]) (st' := []) f_32_62 rfl rfl).trans (g_congr (v_c2 rfl (Nat.le_of_ble_eq_true rfl)) (fun h9 => m_congr fun p8 => (e_ne f_32_65 rfl).trans (b_congr (fun h10 => (e_nx f_32_68 rfl).trans ((e_nx (q := (_, _, .int 62 :: _, _)) f_32_69 rfl).trans ((e_gI (L := [.ref l0, .int x1]) (st := [.int 62, .ref l0]) (μ := p8.2) (L' := [.ref l0, .int x1]) (st' := []) f_32_71 rfl rfl).trans (g_congr (v_c2 rfl (Nat.le_of_ble_eq_true rfl)) (fun h12 => m_congr fun p11 => (e_eq f_32_74 rfl).trans (b_congr (fun h13 => (e_nx (q := (_, _, .int 0 :: _, _)) f_32_81 rfl).trans (e_rt f_32_82 rfl)) (fun h13 => (e_nx (q := (_, _, .int 1 :: _, _)) f_32_77 rfl).trans ((e_nx f_32_78 rfl).trans (e_rt f_32_82 rfl))))))))) (fun h10 => (e_nx (q := (_, _, .int 1 :: _, _)) f_32_77 rfl).trans ((e_nx f_32_78 rfl).trans (e_rt f_32_82 rfl))))))))) (fun h7 => (e_nx (q := (_, _, .int 1 :: _, _)) f_32_77 rfl).trans ((e_nx f_32_78 rfl).trans (e_rt f_32_82 rfl))))))))) (fun _ => b_congr (fun _ => (e_nx f_32_83 rfl).trans ((e_nx (q := (_, _, .int 43 :: _, _)) f_32_84 rfl).trans ((e_gI (L := [.ref l0, .int x1]) (st := [.int 43, .ref l0]) (μ := μ) (L' := [.ref l0, .int x1]) (st' := []) f_32_86 rfl rfl).trans (g_congr (v_c2 rfl (Nat.le_of_ble_eq_true rfl)) (fun h15 => m_congr fun p14 => (e_ne f_32_89 rfl).trans (b_congr (fun h16 => (e_nx f_32_92 rfl).trans ((e_nx (q := (_, _, .int 45 :: _, _)) f_32_93 rfl).trans ((e_gI (L := [.ref l0, .int x1]) (st := [.int 45, .ref l0]) (μ := p14.2) (L' := [.ref l0, .int x1]) (st' := []) f_32_95 rfl rfl).trans (g_congr (v_c2 rfl (Nat.le_of_ble_eq_true rfl)) (fun h18 => m_congr fun p17 => (e_eq f_32_98 rfl).trans (b_congr (fun h19 => (e_nx (q := (_, _, .int 0 :: _, _)) f_32_105 rfl).trans (e_rt f_32_106 rfl)) (fun h19 => (e_nx (q := (_, _, .int 1 :: _, _)) f_32_101 rfl).trans ((e_nx f_32_102 rfl).trans (e_rt f_32_106 rfl))))))))) (fun h16 => (e_nx (q := (_, _, .int 1 :: _, _)) f_32_101 rfl).trans ((e_nx f_32_102 rfl).trans (e_rt f_32_106 rfl))))))))) (fun _ => b_congr (fun _ => (e_nx f_32_107 rfl).trans ((e_nx (q := (_, _, .int 42 :: _, _)) f_32_108 rfl).trans ((e_gI (L := [.ref l0, .int x1]) (st := [.int 42, .ref l0]) (μ := μ) (L' := [.ref l0, .int x1]) (st' := []) f_32_110 rfl rfl).trans (g_congr (v_c2 rfl (Nat.le_of_ble_eq_true rfl)) (fun h21 => m_congr fun p20 => (e_ne f_32_113 rfl).trans (b_congr (fun h22 => (e_nx f_32_116 rfl).trans ((e_nx (q := (_, _, .int 47 :: _, _)) f_32_117 rfl).trans ((e_gI (L := [.ref l0, .int x1]) (st := [.int 47, .ref l0]) (μ := p20.2) (L' := [.ref l0, .int x1]) (st' := []) f_32_119 rfl rfl).trans (g_congr (v_c2 rfl (Nat.le_of_ble_eq_true rfl)) (fun h24 => m_congr fun p23 => (e_eq f_32_122 rfl).trans (b_congr (fun h25 => (e_nx (q := (_, _, .int 0 :: _, _)) f_32_129 rfl).trans (e_rt f_32_130 rfl)) (fun h25 => (e_nx (q := (_, _, .int 1 :: _, _)) f_32_125 rfl).trans ((e_nx f_32_126 rfl).trans (e_rt f_32_130 rfl))))))))) (fun h22 => (e_nx (q := (_, _, .int 1 :: _, _)) f_32_125 rfl).trans ((e_nx f_32_126 rfl).trans (e_rt f_32_130 rfl))))))))) (fun _ => (e_nx (q := (_, _, .int 0 :: _, _)) f_32_131 rfl).trans (e_rt f_32_132 rfl))))))))
theorem pg_33 (pc : Nat) : fe0 33 pc = lk prg_33 pc := rfl
theorem f_33_0 : fe0 33 0 = some (.aload_n 0, 1, 0, 0, 0, 0, 0) := (pg_33 0).trans rfl
theorem f_33_1 : fe0 33 1 = some (.getfield 37, 3, 3, 3, 0, 0, 1178) := (pg_33 1).trans rfl
theorem f_33_4 : fe0 33 4 = some (.bipush 96, 2, 0, 0, 0, 0, 0) := (pg_33 4).trans rfl
theorem f_33_6 : fe0 33 6 = some (.if_icmp .ge 23, 3, 0, 0, 0, 0, 0) := (pg_33 6).trans rfl
theorem f_33_9 : fe0 33 9 = some (.aload_n 0, 1, 0, 0, 0, 0, 0) := (pg_33 9).trans rfl
theorem f_33_10 : fe0 33 10 = some (.getfield 15, 3, 3, 2, 1, 0, 1177) := (pg_33 10).trans rfl
theorem f_33_13 : fe0 33 13 = some (.aload_n 0, 1, 0, 0, 0, 0, 0) := (pg_33 13).trans rfl
theorem f_33_14 : fe0 33 14 = some (.getfield 37, 3, 3, 3, 0, 0, 1178) := (pg_33 14).trans rfl
theorem f_33_17 : fe0 33 17 = some (.iload_n 1, 1, 0, 0, 0, 0, 0) := (pg_33 17).trans rfl
theorem f_33_18 : fe0 33 18 = some (.iastore, 1, 0, 0, 0, 0, 0) := (pg_33 18).trans rfl
theorem f_33_19 : fe0 33 19 = some (.aload_n 0, 1, 0, 0, 0, 0, 0) := (pg_33 19).trans rfl
theorem f_33_20 : fe0 33 20 = some (.dup, 1, 0, 0, 0, 0, 0) := (pg_33 20).trans rfl
theorem f_33_21 : fe0 33 21 = some (.getfield 37, 3, 3, 3, 0, 0, 1178) := (pg_33 21).trans rfl
theorem f_33_24 : fe0 33 24 = some (.iconst 1, 1, 0, 0, 0, 0, 0) := (pg_33 24).trans rfl
theorem f_33_25 : fe0 33 25 = some (.iadd, 1, 0, 0, 0, 0, 0) := (pg_33 25).trans rfl
theorem f_33_26 : fe0 33 26 = some (.putfield 37, 3, 3, 3, 0, 0, 1178) := (pg_33 26).trans rfl
theorem f_33_29 : fe0 33 29 = some (.return_, 1, 0, 0, 0, 0, 0) := (pg_33 29).trans rfl
theorem q_33_0 (d : Nat) (l0 : Nat) (x1 : Int32) (μ : aMem) : Rn d 33 (0, [.ref l0, .int x1], [], μ) = if (mS μ l0).1 = 3 then (if 96 ≤ (mF μ l0 3) then (some (none, μ)) else (if (mS μ (mR μ l0 2)).1 = 10 ∧ inb (mF μ l0 3) (mS μ (mR μ l0 2)).2 then (some (none, setF (setF μ (mR μ l0 2) (ix (mF μ l0 3)) x1) l0 3 ((mF (setF μ (mR μ l0 2) (ix (mF μ l0 3)) x1) l0 3) + 1))) else none)) else none :=
  (e_nx f_33_0 rfl).trans ((e_gd f_33_1 rfl).trans (g_congr (Iff.rfl) (fun h1 => (e_nx (q := (_, _, .int 96 :: _, _)) f_33_4 rfl).trans ((e_ge f_33_6 rfl).trans (b_congr (fun h2 => e_rt f_33_29 rfl) (fun h2 => (e_nx f_33_9 rfl).trans ((e_gk f_33_10 (h1) rfl).trans ((e_nx f_33_13 rfl).trans ((e_gk f_33_14 (h1) rfl).trans ((e_nx f_33_17 rfl).trans ((e_gd f_33_18 rfl).trans (g_congr (Iff.rfl) (fun h3 => (e_nx f_33_19 rfl).trans ((e_nx f_33_20 rfl).trans ((e_gk f_33_21 (h1) rfl).trans ((e_nx (q := (_, _, .int 1 :: _, _)) f_33_24 rfl).trans ((e_nx f_33_25 rfl).trans ((e_gk (L := [.ref l0, .int x1]) (st := [.int ((mF (setF μ (mR μ l0 2) (ix (mF μ l0 3)) x1) l0 3) + 1), .ref l0]) (μ := setF μ (mR μ l0 2) (ix (mF μ l0 3)) x1) f_33_26 ((pi_iff rfl).mpr h1) rfl).trans (e_rt f_33_29 rfl)))))))))))))))))))
theorem pg_34 (pc : Nat) : fe0 34 pc = lk prg_34 pc := rfl
theorem f_34_0 : fe0 34 0 = some (.aload_n 0, 1, 0, 0, 0, 0, 0) := (pg_34 0).trans rfl
theorem f_34_1 : fe0 34 1 = some (.getfield 43, 3, 3, 6, 0, 0, 1181) := (pg_34 1).trans rfl
theorem f_34_4 : fe0 34 4 = some (.ifCond .ge 11, 3, 0, 0, 0, 0, 0) := (pg_34 4).trans rfl
theorem f_34_7 : fe0 34 7 = some (.aload_n 0, 1, 0, 0, 0, 0, 0) := (pg_34 7).trans rfl
theorem f_34_8 : fe0 34 8 = some (.aload_n 0, 1, 0, 0, 0, 0, 0) := (pg_34 8).trans rfl
theorem f_34_9 : fe0 34 9 = some (.getfield 62, 3, 3, 8, 0, 0, 1183) := (pg_34 9).trans rfl
theorem f_34_12 : fe0 34 12 = some (.putfield 43, 3, 3, 6, 0, 0, 1181) := (pg_34 12).trans rfl
theorem f_34_15 : fe0 34 15 = some (.return_, 1, 0, 0, 0, 0, 0) := (pg_34 15).trans rfl
theorem q_34_0 (d : Nat) (l0 : Nat) (μ : aMem) : Rn d 34 (0, [.ref l0], [], μ) = if (mS μ l0).1 = 3 then (if 0 ≤ (mF μ l0 6) then (some (none, μ)) else (some (none, setF μ l0 6 (mF μ l0 8)))) else none :=
  (e_nx f_34_0 rfl).trans ((e_gd f_34_1 rfl).trans (g_congr (Iff.rfl) (fun h1 => (e_ge f_34_4 rfl).trans (b_congr (fun h2 => e_rt f_34_15 rfl) (fun h2 => (e_nx f_34_7 rfl).trans ((e_nx f_34_8 rfl).trans ((e_gk f_34_9 (h1) rfl).trans ((e_gk (L := [.ref l0]) (st := [.int (mF μ l0 8), .ref l0]) (μ := μ) f_34_12 ((pi_iff rfl).mpr h1) rfl).trans (e_rt f_34_15 rfl)))))))))
theorem pg_35 (pc : Nat) : fe0 35 pc = lk prg_35 pc := rfl
theorem f_35_0 : fe0 35 0 = some (.iload_n 1, 1, 0, 0, 0, 0, 0) := (pg_35 0).trans rfl
theorem f_35_1 : fe0 35 1 = some (.iconst 5, 1, 0, 0, 0, 0, 0) := (pg_35 1).trans rfl
theorem f_35_2 : fe0 35 2 = some (.if_icmp .lt 10, 3, 0, 0, 0, 0, 0) := (pg_35 2).trans rfl
theorem f_35_5 : fe0 35 5 = some (.aload_n 0, 1, 0, 0, 0, 0, 0) := (pg_35 5).trans rfl
theorem f_35_6 : fe0 35 6 = some (.iload_n 2, 1, 0, 0, 0, 0, 0) := (pg_35 6).trans rfl
theorem f_35_7 : fe0 35 7 = some (.iload_n 3, 1, 0, 0, 0, 0, 0) := (pg_35 7).trans rfl
theorem f_35_8 : fe0 35 8 = some (.invokevirtual 121, 3, 36, 2, 0, 3, 3212) := (pg_35 8).trans rfl
theorem f_35_11 : fe0 35 11 = some (.return_, 1, 0, 0, 0, 0, 0) := (pg_35 11).trans rfl
theorem f_35_12 : fe0 35 12 = some (.aload_n 0, 1, 0, 0, 0, 0, 0) := (pg_35 12).trans rfl
theorem f_35_13 : fe0 35 13 = some (.iload_n 1, 1, 0, 0, 0, 0, 0) := (pg_35 13).trans rfl
theorem f_35_14 : fe0 35 14 = some (.iconst 1, 1, 0, 0, 0, 0, 0) := (pg_35 14).trans rfl
theorem f_35_15 : fe0 35 15 = some (.iadd, 1, 0, 0, 0, 0, 0) := (pg_35 15).trans rfl
theorem f_35_16 : fe0 35 16 = some (.iload_n 2, 1, 0, 0, 0, 0, 0) := (pg_35 16).trans rfl
theorem f_35_17 : fe0 35 17 = some (.iload_n 3, 1, 0, 0, 0, 0, 0) := (pg_35 17).trans rfl
theorem f_35_18 : fe0 35 18 = some (.invokevirtual 65, 3, 35, 3, 0, 3, 3208) := (pg_35 18).trans rfl
theorem f_35_21 : fe0 35 21 = some (.iconst 0, 1, 0, 0, 0, 0, 0) := (pg_35 21).trans rfl
theorem f_35_22 : fe0 35 22 = some (.istore 4, 2, 0, 0, 0, 0, 0) := (pg_35 22).trans rfl
theorem f_35_24 : fe0 35 24 = some (.iload 4, 2, 0, 0, 0, 0, 0) := (pg_35 24).trans rfl
theorem f_35_26 : fe0 35 26 = some (.bipush 96, 2, 0, 0, 0, 0, 0) := (pg_35 26).trans rfl
theorem f_35_28 : fe0 35 28 = some (.if_icmp .ge 60, 3, 0, 0, 0, 0, 0) := (pg_35 28).trans rfl
theorem f_35_31 : fe0 35 31 = some (.aload_n 0, 1, 0, 0, 0, 0, 0) := (pg_35 31).trans rfl
theorem f_35_32 : fe0 35 32 = some (.getfield 43, 3, 3, 6, 0, 0, 1181) := (pg_35 32).trans rfl
theorem f_35_35 : fe0 35 35 = some (.ifCond .ge 53, 3, 0, 0, 0, 0, 0) := (pg_35 35).trans rfl
theorem f_35_38 : fe0 35 38 = some (.aload_n 0, 1, 0, 0, 0, 0, 0) := (pg_35 38).trans rfl
theorem f_35_39 : fe0 35 39 = some (.iload_n 1, 1, 0, 0, 0, 0, 0) := (pg_35 39).trans rfl
theorem f_35_40 : fe0 35 40 = some (.invokevirtual 125, 3, 32, 1, 0, 3, 4058) := (pg_35 40).trans rfl
theorem f_35_43 : fe0 35 43 = some (.ifCond .eq 45, 3, 0, 0, 0, 0, 0) := (pg_35 43).trans rfl
theorem f_35_46 : fe0 35 46 = some (.aload_n 0, 1, 0, 0, 0, 0, 0) := (pg_35 46).trans rfl
theorem f_35_47 : fe0 35 47 = some (.aload_n 0, 1, 0, 0, 0, 0, 0) := (pg_35 47).trans rfl
theorem f_35_48 : fe0 35 48 = some (.getfield 62, 3, 3, 8, 0, 0, 1183) := (pg_35 48).trans rfl
theorem f_35_51 : fe0 35 51 = some (.invokevirtual 80, 3, 23, 1, 0, 3, 3139) := (pg_35 51).trans rfl
theorem f_35_54 : fe0 35 54 = some (.istore 5, 2, 0, 0, 0, 0, 0) := (pg_35 54).trans rfl
theorem f_35_56 : fe0 35 56 = some (.aload_n 0, 1, 0, 0, 0, 0, 0) := (pg_35 56).trans rfl
theorem f_35_57 : fe0 35 57 = some (.invokevirtual 52, 3, 26, 0, 0, 3, 3135) := (pg_35 57).trans rfl
theorem f_35_60 : fe0 35 60 = some (.aload_n 0, 1, 0, 0, 0, 0, 0) := (pg_35 60).trans rfl
theorem f_35_61 : fe0 35 61 = some (.iload_n 1, 1, 0, 0, 0, 0, 0) := (pg_35 61).trans rfl
theorem f_35_62 : fe0 35 62 = some (.iconst 1, 1, 0, 0, 0, 0, 0) := (pg_35 62).trans rfl
theorem f_35_63 : fe0 35 63 = some (.iadd, 1, 0, 0, 0, 0, 0) := (pg_35 63).trans rfl
theorem f_35_64 : fe0 35 64 = some (.iload_n 2, 1, 0, 0, 0, 0, 0) := (pg_35 64).trans rfl
theorem f_35_65 : fe0 35 65 = some (.iload_n 3, 1, 0, 0, 0, 0, 0) := (pg_35 65).trans rfl
theorem f_35_66 : fe0 35 66 = some (.invokevirtual 65, 3, 35, 3, 0, 3, 3208) := (pg_35 66).trans rfl
theorem f_35_69 : fe0 35 69 = some (.aload_n 0, 1, 0, 0, 0, 0, 0) := (pg_35 69).trans rfl
theorem f_35_70 : fe0 35 70 = some (.iload 5, 2, 0, 0, 0, 0, 0) := (pg_35 70).trans rfl
theorem f_35_72 : fe0 35 72 = some (.ineg, 1, 0, 0, 0, 0, 0) := (pg_35 72).trans rfl
theorem f_35_73 : fe0 35 73 = some (.invokevirtual 128, 3, 33, 1, 0, 3, 3224) := (pg_35 73).trans rfl
theorem f_35_76 : fe0 35 76 = some (.iload_n 1, 1, 0, 0, 0, 0, 0) := (pg_35 76).trans rfl
theorem f_35_77 : fe0 35 77 = some (.iconst 2, 1, 0, 0, 0, 0, 0) := (pg_35 77).trans rfl
theorem f_35_78 : fe0 35 78 = some (.if_icmp .ne 4, 3, 0, 0, 0, 0, 0) := (pg_35 78).trans rfl
theorem f_35_81 : fe0 35 81 = some (.return_, 1, 0, 0, 0, 0, 0) := (pg_35 81).trans rfl
theorem f_35_82 : fe0 35 82 = some (.iinc 4 1, 3, 0, 0, 0, 0, 0) := (pg_35 82).trans rfl
theorem f_35_85 : fe0 35 85 = some (.goto (-61), 3, 0, 0, 0, 0, 0) := (pg_35 85).trans rfl
theorem f_35_88 : fe0 35 88 = some (.return_, 1, 0, 0, 0, 0, 0) := (pg_35 88).trans rfl
theorem q_35_0 (d : Nat) (l0 : Nat) (x1 : Int32) (x2 : Int32) (x3 : Int32) (μ : aMem) : Rn (d + 1) 35 (0, [.ref l0, .int x1, .int x2, .int x3, un, un], [], μ) = if x1 < 5 then (if (mS μ l0).1 = 3 ∧ l0 < 999999 then ((cV d 35 [.ref l0, .int (x1 + 1), .int x2, .int x3] μ).bind fun p2 => Rn (d + 1) 35 (24, [.ref l0, .int x1, .int x2, .int x3, .int 0, un], [], p2)) else none) else (if (mS μ l0).1 = 3 ∧ l0 < 999999 then ((cV d 36 [.ref l0, .int x2, .int x3] μ).bind fun p4 => some (none, p4)) else none) :=
  (e_nx f_35_0 rfl).trans ((e_nx (q := (_, _, .int 5 :: _, _)) f_35_1 rfl).trans ((e_lt f_35_2 rfl).trans (b_congr (fun h1 => (e_nx f_35_12 rfl).trans ((e_nx f_35_13 rfl).trans ((e_nx (q := (_, _, .int 1 :: _, _)) f_35_14 rfl).trans ((e_nx f_35_15 rfl).trans ((e_nx f_35_16 rfl).trans ((e_nx f_35_17 rfl).trans ((e_gV (L := [.ref l0, .int x1, .int x2, .int x3, un, un]) (st := [.int x3, .int x2, .int (x1 + 1), .ref l0]) (μ := μ) (L' := [.ref l0, .int x1, .int x2, .int x3, un, un]) (st' := []) f_35_18 rfl rfl).trans (g_congr (v_c2 rfl (Nat.le_of_ble_eq_true rfl)) (fun h3 => m_congr fun p2 => (e_nx (q := (_, _, .int 0 :: _, _)) f_35_21 rfl).trans (e_nx (q := (_, [.ref l0, .int x1, .int x2, .int x3, .int 0, un], _, _)) f_35_22 rfl)))))))))) (fun h1 => (e_nx f_35_5 rfl).trans ((e_nx f_35_6 rfl).trans ((e_nx f_35_7 rfl).trans ((e_gV (L := [.ref l0, .int x1, .int x2, .int x3, un, un]) (st := [.int x3, .int x2, .ref l0]) (μ := μ) (L' := [.ref l0, .int x1, .int x2, .int x3, un, un]) (st' := []) f_35_8 rfl rfl).trans (g_congr (v_c2 rfl (Nat.le_of_ble_eq_true rfl)) (fun h5 => m_congr fun p4 => e_rt f_35_11 rfl)))))))))
theorem q_35_24 (d : Nat) (l0 : Nat) (x1 : Int32) (x2 : Int32) (x3 : Int32) (x4 : Int32) (w5 : Value) (μ : aMem) : Rn (d + 1) 35 (24, [.ref l0, .int x1, .int x2, .int x3, .int x4, w5], [], μ) = if 96 ≤ x4 then (some (none, μ)) else (if (mS μ l0).1 = 3 then (if 0 ≤ (mF μ l0 6) then (some (none, μ)) else (if (mS μ l0).1 = 3 ∧ l0 < 999999 then ((cI d 32 [.ref l0, .int x1] μ).bind fun p4 => if p4.1 = 0 then (some (none, p4.2)) else (if (mS p4.2 l0).1 = 3 then (if (mS p4.2 l0).1 = 3 ∧ l0 < 999999 then ((cI d 23 [.ref l0, .int (mF p4.2 l0 8)] p4.2).bind fun p8 => if (mS p8.2 l0).1 = 3 ∧ l0 < 999999 then ((cV d 26 [.ref l0] p8.2).bind fun p10 => if (mS p10 l0).1 = 3 ∧ l0 < 999999 then ((cV d 35 [.ref l0, .int (x1 + 1), .int x2, .int x3] p10).bind fun p12 => if (mS p12 l0).1 = 3 ∧ l0 < 999999 then ((cV d 33 [.ref l0, .int (-p8.1)] p12).bind fun p14 => if x1 = 2 then (some (none, p14)) else (Rn (d + 1) 35 (24, [.ref l0, .int x1, .int x2, .int x3, .int (x4 + 1), .int p8.1], [], p14))) else none) else none) else none) else none) else none)) else none)) else none) :=
  (e_nx f_35_24 rfl).trans ((e_nx (q := (_, _, .int 96 :: _, _)) f_35_26 rfl).trans ((e_ge f_35_28 rfl).trans (b_congr (fun h1 => e_rt f_35_88 rfl) (fun h1 => (e_nx f_35_31 rfl).trans ((e_gd f_35_32 rfl).trans (g_congr (Iff.rfl) (fun h2 => (e_ge f_35_35 rfl).trans (b_congr (fun h3 => e_rt f_35_88 rfl) (fun h3 => (e_nx f_35_38 rfl).trans ((e_nx f_35_39 rfl).trans ((e_gI (L := [.ref l0, .int x1, .int x2, .int x3, .int x4, w5]) (st := [.int x1, .ref l0]) (μ := μ) (L' := [.ref l0, .int x1, .int x2, .int x3, .int x4, w5]) (st' := []) f_35_40 rfl rfl).trans (g_congr (v_c2 rfl (Nat.le_of_ble_eq_true rfl)) (fun h5 => m_congr fun p4 => (e_eq f_35_43 rfl).trans (b_congr (fun h6 => e_rt f_35_88 rfl) (fun h6 => (e_nx f_35_46 rfl).trans ((e_nx f_35_47 rfl).trans ((e_gd f_35_48 rfl).trans (g_congr (Iff.rfl) (fun h7 => (e_gI (L := [.ref l0, .int x1, .int x2, .int x3, .int x4, w5]) (st := [.int (mF p4.2 l0 8), .ref l0]) (μ := p4.2) (L' := [.ref l0, .int x1, .int x2, .int x3, .int x4, w5]) (st' := []) f_35_51 rfl rfl).trans (g_congr (v_c2 rfl (Nat.le_of_ble_eq_true rfl)) (fun h9 => m_congr fun p8 => (e_nx (q := (_, [.ref l0, .int x1, .int x2, .int x3, .int x4, .int p8.1], _, _)) f_35_54 rfl).trans ((e_nx f_35_56 rfl).trans ((e_gV (L := [.ref l0, .int x1, .int x2, .int x3, .int x4, .int p8.1]) (st := [.ref l0]) (μ := p8.2) (L' := [.ref l0, .int x1, .int x2, .int x3, .int x4, .int p8.1]) (st' := []) f_35_57 rfl rfl).trans (g_congr (v_c2 rfl (Nat.le_of_ble_eq_true rfl)) (fun h11 => m_congr fun p10 => (e_nx f_35_60 rfl).trans ((e_nx f_35_61 rfl).trans ((e_nx (q := (_, _, .int 1 :: _, _)) f_35_62 rfl).trans ((e_nx f_35_63 rfl).trans ((e_nx f_35_64 rfl).trans ((e_nx f_35_65 rfl).trans ((e_gV (L := [.ref l0, .int x1, .int x2, .int x3, .int x4, .int p8.1]) (st := [.int x3, .int x2, .int (x1 + 1), .ref l0]) (μ := p10) (L' := [.ref l0, .int x1, .int x2, .int x3, .int x4, .int p8.1]) (st' := []) f_35_66 rfl rfl).trans (g_congr (v_c2 rfl (Nat.le_of_ble_eq_true rfl)) (fun h13 => m_congr fun p12 => (e_nx f_35_69 rfl).trans ((e_nx f_35_70 rfl).trans ((e_nx f_35_72 rfl).trans ((e_gV (L := [.ref l0, .int x1, .int x2, .int x3, .int x4, .int p8.1]) (st := [.int (-p8.1), .ref l0]) (μ := p12) (L' := [.ref l0, .int x1, .int x2, .int x3, .int x4, .int p8.1]) (st' := []) f_35_73 rfl rfl).trans (g_congr (v_c2 rfl (Nat.le_of_ble_eq_true rfl)) (fun h15 => m_congr fun p14 => (e_nx f_35_76 rfl).trans ((e_nx (q := (_, _, .int 2 :: _, _)) f_35_77 rfl).trans ((e_ne f_35_78 rfl).trans (b_congr (fun h16 => e_rt f_35_81 rfl) (fun h16 => (e_nx (q := (_, [.ref l0, .int x1, .int x2, .int x3, .int (x4 + 1), .int p8.1], _, _)) f_35_82 rfl).trans (e_nx f_35_85 rfl)))))))))))))))))))))))))))))))))))))))))))
theorem pg_36 (pc : Nat) : fe0 36 pc = lk prg_36 pc := rfl
theorem f_36_0 : fe0 36 0 = some (.aload_n 0, 1, 0, 0, 0, 0, 0) := (pg_36 0).trans rfl
theorem f_36_1 : fe0 36 1 = some (.getfield 46, 3, 3, 7, 0, 0, 1182) := (pg_36 1).trans rfl
theorem f_36_4 : fe0 36 4 = some (.iconst 2, 1, 0, 0, 0, 0, 0) := (pg_36 4).trans rfl
theorem f_36_5 : fe0 36 5 = some (.if_icmp .ne 14, 3, 0, 0, 0, 0, 0) := (pg_36 5).trans rfl
theorem f_36_8 : fe0 36 8 = some (.aload_n 0, 1, 0, 0, 0, 0, 0) := (pg_36 8).trans rfl
theorem f_36_9 : fe0 36 9 = some (.aload_n 0, 1, 0, 0, 0, 0, 0) := (pg_36 9).trans rfl
theorem f_36_10 : fe0 36 10 = some (.invokevirtual 132, 3, 30, 0, 0, 3, 3216) := (pg_36 10).trans rfl
theorem f_36_13 : fe0 36 13 = some (.invokevirtual 135, 3, 37, 1, 0, 3, 3220) := (pg_36 13).trans rfl
theorem f_36_16 : fe0 36 16 = some (.goto 121, 3, 0, 0, 0, 0, 0) := (pg_36 16).trans rfl
theorem f_36_19 : fe0 36 19 = some (.aload_n 0, 1, 0, 0, 0, 0, 0) := (pg_36 19).trans rfl
theorem f_36_20 : fe0 36 20 = some (.invokevirtual 138, 3, 29, 0, 0, 3, 3228) := (pg_36 20).trans rfl
theorem f_36_23 : fe0 36 23 = some (.ifCond .lt 16, 3, 0, 0, 0, 0, 0) := (pg_36 23).trans rfl
theorem f_36_26 : fe0 36 26 = some (.aload_n 0, 1, 0, 0, 0, 0, 0) := (pg_36 26).trans rfl
theorem f_36_27 : fe0 36 27 = some (.iconst (-1), 1, 0, 0, 0, 0, 0) := (pg_36 27).trans rfl
theorem f_36_28 : fe0 36 28 = some (.aload_n 0, 1, 0, 0, 0, 0, 0) := (pg_36 28).trans rfl
theorem f_36_29 : fe0 36 29 = some (.invokevirtual 138, 3, 29, 0, 0, 3, 3228) := (pg_36 29).trans rfl
theorem f_36_32 : fe0 36 32 = some (.isub, 1, 0, 0, 0, 0, 0) := (pg_36 32).trans rfl
theorem f_36_33 : fe0 36 33 = some (.invokevirtual 135, 3, 37, 1, 0, 3, 3220) := (pg_36 33).trans rfl
theorem f_36_36 : fe0 36 36 = some (.goto 101, 3, 0, 0, 0, 0, 0) := (pg_36 36).trans rfl
theorem f_36_39 : fe0 36 39 = some (.aload_n 0, 1, 0, 0, 0, 0, 0) := (pg_36 39).trans rfl
theorem f_36_40 : fe0 36 40 = some (.bipush 33, 2, 0, 0, 0, 0, 0) := (pg_36 40).trans rfl
theorem f_36_42 : fe0 36 42 = some (.invokevirtual 118, 3, 31, 1, 0, 3, 4050) := (pg_36 42).trans rfl
theorem f_36_45 : fe0 36 45 = some (.ifCond .eq 30, 3, 0, 0, 0, 0, 0) := (pg_36 45).trans rfl
theorem f_36_48 : fe0 36 48 = some (.iload_n 2, 1, 0, 0, 0, 0, 0) := (pg_36 48).trans rfl
theorem f_36_49 : fe0 36 49 = some (.bipush 8, 2, 0, 0, 0, 0, 0) := (pg_36 49).trans rfl
theorem f_36_51 : fe0 36 51 = some (.if_icmp .ge 24, 3, 0, 0, 0, 0, 0) := (pg_36 51).trans rfl
theorem f_36_54 : fe0 36 54 = some (.aload_n 0, 1, 0, 0, 0, 0, 0) := (pg_36 54).trans rfl
theorem f_36_55 : fe0 36 55 = some (.invokevirtual 52, 3, 26, 0, 0, 3, 3135) := (pg_36 55).trans rfl
theorem f_36_58 : fe0 36 58 = some (.aload_n 0, 1, 0, 0, 0, 0, 0) := (pg_36 58).trans rfl
theorem f_36_59 : fe0 36 59 = some (.iload_n 1, 1, 0, 0, 0, 0, 0) := (pg_36 59).trans rfl
theorem f_36_60 : fe0 36 60 = some (.iload_n 2, 1, 0, 0, 0, 0, 0) := (pg_36 60).trans rfl
theorem f_36_61 : fe0 36 61 = some (.iconst 1, 1, 0, 0, 0, 0, 0) := (pg_36 61).trans rfl
theorem f_36_62 : fe0 36 62 = some (.iadd, 1, 0, 0, 0, 0, 0) := (pg_36 62).trans rfl
theorem f_36_63 : fe0 36 63 = some (.invokevirtual 121, 3, 36, 2, 0, 3, 3212) := (pg_36 63).trans rfl
theorem f_36_66 : fe0 36 66 = some (.aload_n 0, 1, 0, 0, 0, 0, 0) := (pg_36 66).trans rfl
theorem f_36_67 : fe0 36 67 = some (.bipush (-33), 2, 0, 0, 0, 0, 0) := (pg_36 67).trans rfl
theorem f_36_69 : fe0 36 69 = some (.invokevirtual 128, 3, 33, 1, 0, 3, 3224) := (pg_36 69).trans rfl
theorem f_36_72 : fe0 36 72 = some (.goto 65, 3, 0, 0, 0, 0, 0) := (pg_36 72).trans rfl
theorem f_36_75 : fe0 36 75 = some (.aload_n 0, 1, 0, 0, 0, 0, 0) := (pg_36 75).trans rfl
theorem f_36_76 : fe0 36 76 = some (.bipush 40, 2, 0, 0, 0, 0, 0) := (pg_36 76).trans rfl
theorem f_36_78 : fe0 36 78 = some (.invokevirtual 118, 3, 31, 1, 0, 3, 4050) := (pg_36 78).trans rfl
theorem f_36_81 : fe0 36 81 = some (.ifCond .eq 52, 3, 0, 0, 0, 0, 0) := (pg_36 81).trans rfl
theorem f_36_84 : fe0 36 84 = some (.iload_n 1, 1, 0, 0, 0, 0, 0) := (pg_36 84).trans rfl
theorem f_36_85 : fe0 36 85 = some (.bipush 8, 2, 0, 0, 0, 0, 0) := (pg_36 85).trans rfl
theorem f_36_87 : fe0 36 87 = some (.if_icmp .ge 46, 3, 0, 0, 0, 0, 0) := (pg_36 87).trans rfl
theorem f_36_90 : fe0 36 90 = some (.aload_n 0, 1, 0, 0, 0, 0, 0) := (pg_36 90).trans rfl
theorem f_36_91 : fe0 36 91 = some (.invokevirtual 52, 3, 26, 0, 0, 3, 3135) := (pg_36 91).trans rfl
theorem f_36_94 : fe0 36 94 = some (.aload_n 0, 1, 0, 0, 0, 0, 0) := (pg_36 94).trans rfl
theorem f_36_95 : fe0 36 95 = some (.iconst 0, 1, 0, 0, 0, 0, 0) := (pg_36 95).trans rfl
theorem f_36_96 : fe0 36 96 = some (.iload_n 1, 1, 0, 0, 0, 0, 0) := (pg_36 96).trans rfl
theorem f_36_97 : fe0 36 97 = some (.iconst 1, 1, 0, 0, 0, 0, 0) := (pg_36 97).trans rfl
theorem f_36_98 : fe0 36 98 = some (.iadd, 1, 0, 0, 0, 0, 0) := (pg_36 98).trans rfl
theorem f_36_99 : fe0 36 99 = some (.iload_n 2, 1, 0, 0, 0, 0, 0) := (pg_36 99).trans rfl
theorem f_36_100 : fe0 36 100 = some (.invokevirtual 65, 3, 35, 3, 0, 3, 3208) := (pg_36 100).trans rfl
theorem f_36_103 : fe0 36 103 = some (.aload_n 0, 1, 0, 0, 0, 0, 0) := (pg_36 103).trans rfl
theorem f_36_104 : fe0 36 104 = some (.getfield 43, 3, 3, 6, 0, 0, 1181) := (pg_36 104).trans rfl
theorem f_36_107 : fe0 36 107 = some (.ifCond .ge 19, 3, 0, 0, 0, 0, 0) := (pg_36 107).trans rfl
theorem f_36_110 : fe0 36 110 = some (.aload_n 0, 1, 0, 0, 0, 0, 0) := (pg_36 110).trans rfl
theorem f_36_111 : fe0 36 111 = some (.bipush 41, 2, 0, 0, 0, 0, 0) := (pg_36 111).trans rfl
theorem f_36_113 : fe0 36 113 = some (.invokevirtual 118, 3, 31, 1, 0, 3, 4050) := (pg_36 113).trans rfl
theorem f_36_116 : fe0 36 116 = some (.ifCond .eq 10, 3, 0, 0, 0, 0, 0) := (pg_36 116).trans rfl
theorem f_36_119 : fe0 36 119 = some (.aload_n 0, 1, 0, 0, 0, 0, 0) := (pg_36 119).trans rfl
theorem f_36_120 : fe0 36 120 = some (.invokevirtual 52, 3, 26, 0, 0, 3, 3135) := (pg_36 120).trans rfl
theorem f_36_123 : fe0 36 123 = some (.goto 14, 3, 0, 0, 0, 0, 0) := (pg_36 123).trans rfl
theorem f_36_126 : fe0 36 126 = some (.aload_n 0, 1, 0, 0, 0, 0, 0) := (pg_36 126).trans rfl
theorem f_36_127 : fe0 36 127 = some (.invokevirtual 141, 3, 34, 0, 0, 3, 4054) := (pg_36 127).trans rfl
theorem f_36_130 : fe0 36 130 = some (.goto 7, 3, 0, 0, 0, 0, 0) := (pg_36 130).trans rfl
theorem f_36_133 : fe0 36 133 = some (.aload_n 0, 1, 0, 0, 0, 0, 0) := (pg_36 133).trans rfl
theorem f_36_134 : fe0 36 134 = some (.invokevirtual 141, 3, 34, 0, 0, 3, 4054) := (pg_36 134).trans rfl
theorem f_36_137 : fe0 36 137 = some (.return_, 1, 0, 0, 0, 0, 0) := (pg_36 137).trans rfl
theorem q_36_0 (d : Nat) (l0 : Nat) (x1 : Int32) (x2 : Int32) (μ : aMem) : Rn (d + 1) 36 (0, [.ref l0, .int x1, .int x2], [], μ) = if (mS μ l0).1 = 3 then (if (mF μ l0 7) = 2 then (if (mS μ l0).1 = 3 ∧ l0 < 999999 then ((cI d 30 [.ref l0] μ).bind fun p3 => if (mS p3.2 l0).1 = 3 ∧ l0 < 999999 then ((cV d 37 [.ref l0, .int p3.1] p3.2).bind fun p5 => some (none, p5)) else none) else none) else (if (mS μ l0).1 = 3 ∧ l0 < 999999 then ((cI d 29 [.ref l0] μ).bind fun p7 => if p7.1 < 0 then (if (mS p7.2 l0).1 = 3 ∧ l0 < 999999 then ((cI d 31 [.ref l0, .int 33] p7.2).bind fun p10 => if p10.1 = 0 then (if (mS p10.2 l0).1 = 3 ∧ l0 < 999999 then ((cI d 31 [.ref l0, .int 40] p10.2).bind fun p13 => if p13.1 = 0 then (if (mS p13.2 l0).1 = 3 ∧ l0 < 999999 then ((cV d 34 [.ref l0] p13.2).bind fun p16 => some (none, p16)) else none) else (if 8 ≤ x1 then (if (mS p13.2 l0).1 = 3 ∧ l0 < 999999 then ((cV d 34 [.ref l0] p13.2).bind fun p19 => some (none, p19)) else none) else (if (mS p13.2 l0).1 = 3 ∧ l0 < 999999 then ((cV d 26 [.ref l0] p13.2).bind fun p21 => if (mS p21 l0).1 = 3 ∧ l0 < 999999 then ((cV d 35 [.ref l0, .int 0, .int (x1 + 1), .int x2] p21).bind fun p23 => if (mS p23 l0).1 = 3 then (if 0 ≤ (mF p23 l0 6) then (if (mS p23 l0).1 = 3 ∧ l0 < 999999 then ((cV d 34 [.ref l0] p23).bind fun p27 => some (none, p27)) else none) else (if (mS p23 l0).1 = 3 ∧ l0 < 999999 then ((cI d 31 [.ref l0, .int 41] p23).bind fun p29 => if p29.1 = 0 then (if (mS p29.2 l0).1 = 3 ∧ l0 < 999999 then ((cV d 34 [.ref l0] p29.2).bind fun p32 => some (none, p32)) else none) else (if (mS p29.2 l0).1 = 3 ∧ l0 < 999999 then ((cV d 26 [.ref l0] p29.2).bind fun p34 => some (none, p34)) else none)) else none)) else none) else none) else none))) else none) else (if 8 ≤ x2 then (if (mS p10.2 l0).1 = 3 ∧ l0 < 999999 then ((cI d 31 [.ref l0, .int 40] p10.2).bind fun p37 => if p37.1 = 0 then (if (mS p37.2 l0).1 = 3 ∧ l0 < 999999 then ((cV d 34 [.ref l0] p37.2).bind fun p40 => some (none, p40)) else none) else (if 8 ≤ x1 then (if (mS p37.2 l0).1 = 3 ∧ l0 < 999999 then ((cV d 34 [.ref l0] p37.2).bind fun p43 => some (none, p43)) else none) else (if (mS p37.2 l0).1 = 3 ∧ l0 < 999999 then ((cV d 26 [.ref l0] p37.2).bind fun p45 => if (mS p45 l0).1 = 3 ∧ l0 < 999999 then ((cV d 35 [.ref l0, .int 0, .int (x1 + 1), .int x2] p45).bind fun p47 => if (mS p47 l0).1 = 3 then (if 0 ≤ (mF p47 l0 6) then (if (mS p47 l0).1 = 3 ∧ l0 < 999999 then ((cV d 34 [.ref l0] p47).bind fun p51 => some (none, p51)) else none) else (if (mS p47 l0).1 = 3 ∧ l0 < 999999 then ((cI d 31 [.ref l0, .int 41] p47).bind fun p53 => if p53.1 = 0 then (if (mS p53.2 l0).1 = 3 ∧ l0 < 999999 then ((cV d 34 [.ref l0] p53.2).bind fun p56 => some (none, p56)) else none) else (if (mS p53.2 l0).1 = 3 ∧ l0 < 999999 then ((cV d 26 [.ref l0] p53.2).bind fun p58 => some (none, p58)) else none)) else none)) else none) else none) else none))) else none) else (if (mS p10.2 l0).1 = 3 ∧ l0 < 999999 then ((cV d 26 [.ref l0] p10.2).bind fun p60 => if (mS p60 l0).1 = 3 ∧ l0 < 999999 then ((cV d 36 [.ref l0, .int x1, .int (x2 + 1)] p60).bind fun p62 => if (mS p62 l0).1 = 3 ∧ l0 < 999999 then ((cV d 33 [.ref l0, .int (-33)] p62).bind fun p64 => some (none, p64)) else none) else none) else none))) else none) else (if (mS p7.2 l0).1 = 3 ∧ l0 < 999999 then ((cI d 29 [.ref l0] p7.2).bind fun p66 => if (mS p66.2 l0).1 = 3 ∧ l0 < 999999 then ((cV d 37 [.ref l0, .int ((-1) - p66.1)] p66.2).bind fun p68 => some (none, p68)) else none) else none)) else none)) else none :=
  (e_nx f_36_0 rfl).trans ((e_gd f_36_1 rfl).trans (g_congr (Iff.rfl) (fun h1 => (e_nx (q := (_, _, .int 2 :: _, _)) f_36_4 rfl).trans ((e_ne f_36_5 rfl).trans (b_congr (fun h2 => (e_nx f_36_8 rfl).trans ((e_nx f_36_9 rfl).trans ((e_gI (L := [.ref l0, .int x1, .int x2]) (st := [.ref l0, .ref l0]) (μ := μ) (L' := [.ref l0, .int x1, .int x2]) (st' := [.ref l0]) f_36_10 rfl rfl).trans (g_congr (v_c2 rfl (Nat.le_of_ble_eq_true rfl)) (fun h4 => m_congr fun p3 => (e_gV (L := [.ref l0, .int x1, .int x2]) (st := [.int p3.1, .ref l0]) (μ := p3.2) (L' := [.ref l0, .int x1, .int x2]) (st' := []) f_36_13 rfl rfl).trans (g_congr (v_c2 rfl (Nat.le_of_ble_eq_true rfl)) (fun h6 => m_congr fun p5 => (e_nx f_36_16 rfl).trans (e_rt f_36_137 rfl)))))))) (fun h2 => (e_nx f_36_19 rfl).trans ((e_gI (L := [.ref l0, .int x1, .int x2]) (st := [.ref l0]) (μ := μ) (L' := [.ref l0, .int x1, .int x2]) (st' := []) f_36_20 rfl rfl).trans (g_congr (v_c2 rfl (Nat.le_of_ble_eq_true rfl)) (fun h8 => m_congr fun p7 => (e_lt f_36_23 rfl).trans (b_congr (fun h9 => (e_nx f_36_39 rfl).trans ((e_nx (q := (_, _, .int 33 :: _, _)) f_36_40 rfl).trans ((e_gI (L := [.ref l0, .int x1, .int x2]) (st := [.int 33, .ref l0]) (μ := p7.2) (L' := [.ref l0, .int x1, .int x2]) (st' := []) f_36_42 rfl rfl).trans (g_congr (v_c2 rfl (Nat.le_of_ble_eq_true rfl)) (fun h11 => m_congr fun p10 => (e_eq f_36_45 rfl).trans (b_congr (fun h12 => (e_nx f_36_75 rfl).trans ((e_nx (q := (_, _, .int 40 :: _, _)) f_36_76 rfl).trans ((e_gI (L := [.ref l0, .int x1, .int x2]) (st := [.int 40, .ref l0]) (μ := p10.2) (L' := [.ref l0, .int x1, .int x2]) (st' := []) f_36_78 rfl rfl).trans (g_congr (v_c2 rfl (Nat.le_of_ble_eq_true rfl)) (fun h14 => m_congr fun p13 => (e_eq f_36_81 rfl).trans (b_congr (fun h15 => (e_nx f_36_133 rfl).trans ((e_gV (L := [.ref l0, .int x1, .int x2]) (st := [.ref l0]) (μ := p13.2) (L' := [.ref l0, .int x1, .int x2]) (st' := []) f_36_134 rfl rfl).trans (g_congr (v_c2 rfl (Nat.le_of_ble_eq_true rfl)) (fun h17 => m_congr fun p16 => e_rt f_36_137 rfl)))) (fun h15 => (e_nx f_36_84 rfl).trans ((e_nx (q := (_, _, .int 8 :: _, _)) f_36_85 rfl).trans ((e_ge f_36_87 rfl).trans (b_congr (fun h18 => (e_nx f_36_133 rfl).trans ((e_gV (L := [.ref l0, .int x1, .int x2]) (st := [.ref l0]) (μ := p13.2) (L' := [.ref l0, .int x1, .int x2]) (st' := []) f_36_134 rfl rfl).trans (g_congr (v_c2 rfl (Nat.le_of_ble_eq_true rfl)) (fun h20 => m_congr fun p19 => e_rt f_36_137 rfl)))) (fun h18 => (e_nx f_36_90 rfl).trans ((e_gV (L := [.ref l0, .int x1, .int x2]) (st := [.ref l0]) (μ := p13.2) (L' := [.ref l0, .int x1, .int x2]) (st' := []) f_36_91 rfl rfl).trans (g_congr (v_c2 rfl (Nat.le_of_ble_eq_true rfl)) (fun h22 => m_congr fun p21 => (e_nx f_36_94 rfl).trans ((e_nx (q := (_, _, .int 0 :: _, _)) f_36_95 rfl).trans ((e_nx f_36_96 rfl).trans ((e_nx (q := (_, _, .int 1 :: _, _)) f_36_97 rfl).trans ((e_nx f_36_98 rfl).trans ((e_nx f_36_99 rfl).trans ((e_gV (L := [.ref l0, .int x1, .int x2]) (st := [.int x2, .int (x1 + 1), .int 0, .ref l0]) (μ := p21) (L' := [.ref l0, .int x1, .int x2]) (st' := []) f_36_100 rfl rfl).trans (g_congr (v_c2 rfl (Nat.le_of_ble_eq_true rfl)) (fun h24 => m_congr fun p23 => (e_nx f_36_103 rfl).trans ((e_gd f_36_104 rfl).trans (g_congr (Iff.rfl) (fun h25 => (e_ge f_36_107 rfl).trans (b_congr (fun h26 => (e_nx f_36_126 rfl).trans ((e_gV (L := [.ref l0, .int x1, .int x2]) (st := [.ref l0]) (μ := p23) (L' := [.ref l0, .int x1, .int x2]) (st' := []) f_36_127 rfl rfl).trans (g_congr (v_c2 rfl (Nat.le_of_ble_eq_true rfl)) (fun h28 => m_congr fun p27 => (e_nx f_36_130 rfl).trans (e_rt f_36_137 rfl))))) (fun h26 => (e_nx f_36_110 rfl).trans ((e_nx (q := (_, _, .int 41 :: _, _)) f_36_111 rfl).trans ((e_gI (L := [.ref l0, .int x1, .int x2]) (st := [.int 41, .ref l0]) (μ := p23) (L' := [.ref l0, .int x1, .int x2]) (st' := []) f_36_113 rfl rfl).trans (g_congr (v_c2 rfl (Nat.le_of_ble_eq_true rfl)) (fun h30 => m_congr fun p29 => (e_eq f_36_116 rfl).trans (b_congr (fun h31 => (e_nx f_36_126 rfl).trans ((e_gV (L := [.ref l0, .int x1, .int x2]) (st := [.ref l0]) (μ := p29.2) (L' := [.ref l0, .int x1, .int x2]) (st' := []) f_36_127 rfl rfl).trans (g_congr (v_c2 rfl (Nat.le_of_ble_eq_true rfl)) (fun h33 => m_congr fun p32 => (e_nx f_36_130 rfl).trans (e_rt f_36_137 rfl))))) (fun h31 => (e_nx f_36_119 rfl).trans ((e_gV (L := [.ref l0, .int x1, .int x2]) (st := [.ref l0]) (μ := p29.2) (L' := [.ref l0, .int x1, .int x2]) (st' := []) f_36_120 rfl rfl).trans (g_congr (v_c2 rfl (Nat.le_of_ble_eq_true rfl)) (fun h35 => m_congr fun p34 => (e_nx f_36_123 rfl).trans (e_rt f_36_137 rfl))))))))))))))))))))))))))))))))))))) (fun h12 => (e_nx f_36_48 rfl).trans ((e_nx (q := (_, _, .int 8 :: _, _)) f_36_49 rfl).trans ((e_ge f_36_51 rfl).trans (b_congr (fun h36 => (e_nx f_36_75 rfl).trans ((e_nx (q := (_, _, .int 40 :: _, _)) f_36_76 rfl).trans ((e_gI (L := [.ref l0, .int x1, .int x2]) (st := [.int 40, .ref l0]) (μ := p10.2) (L' := [.ref l0, .int x1, .int x2]) (st' := []) f_36_78 rfl rfl).trans (g_congr (v_c2 rfl (Nat.le_of_ble_eq_true rfl)) (fun h38 => m_congr fun p37 => (e_eq f_36_81 rfl).trans (b_congr (fun h39 => (e_nx f_36_133 rfl).trans ((e_gV (L := [.ref l0, .int x1, .int x2]) (st := [.ref l0]) (μ := p37.2) (L' := [.ref l0, .int x1, .int x2]) (st' := []) f_36_134 rfl rfl).trans (g_congr (v_c2 rfl (Nat.le_of_ble_eq_true rfl)) (fun h41 => m_congr fun p40 => e_rt f_36_137 rfl)))) (fun h39 => (e_nx f_36_84 rfl).trans ((e_nx (q := (_, _, .int 8 :: _, _)) f_36_85 rfl).trans ((e_ge f_36_87 rfl).trans (b_congr (fun h42 => (e_nx f_36_133 rfl).trans ((e_gV (L := [.ref l0, .int x1, .int x2]) (st := [.ref l0]) (μ := p37.2) (L' := [.ref l0, .int x1, .int x2]) (st' := []) f_36_134 rfl rfl).trans (g_congr (v_c2 rfl (Nat.le_of_ble_eq_true rfl)) (fun h44 => m_congr fun p43 => e_rt f_36_137 rfl)))) (fun h42 => (e_nx f_36_90 rfl).trans ((e_gV (L := [.ref l0, .int x1, .int x2]) (st := [.ref l0]) (μ := p37.2) (L' := [.ref l0, .int x1, .int x2]) (st' := []) f_36_91 rfl rfl).trans (g_congr (v_c2 rfl (Nat.le_of_ble_eq_true rfl)) (fun h46 => m_congr fun p45 => (e_nx f_36_94 rfl).trans ((e_nx (q := (_, _, .int 0 :: _, _)) f_36_95 rfl).trans ((e_nx f_36_96 rfl).trans ((e_nx (q := (_, _, .int 1 :: _, _)) f_36_97 rfl).trans ((e_nx f_36_98 rfl).trans ((e_nx f_36_99 rfl).trans ((e_gV (L := [.ref l0, .int x1, .int x2]) (st := [.int x2, .int (x1 + 1), .int 0, .ref l0]) (μ := p45) (L' := [.ref l0, .int x1, .int x2]) (st' := []) f_36_100 rfl rfl).trans (g_congr (v_c2 rfl (Nat.le_of_ble_eq_true rfl)) (fun h48 => m_congr fun p47 => (e_nx f_36_103 rfl).trans ((e_gd f_36_104 rfl).trans (g_congr (Iff.rfl) (fun h49 => (e_ge f_36_107 rfl).trans (b_congr (fun h50 => (e_nx f_36_126 rfl).trans ((e_gV (L := [.ref l0, .int x1, .int x2]) (st := [.ref l0]) (μ := p47) (L' := [.ref l0, .int x1, .int x2]) (st' := []) f_36_127 rfl rfl).trans (g_congr (v_c2 rfl (Nat.le_of_ble_eq_true rfl)) (fun h52 => m_congr fun p51 => (e_nx f_36_130 rfl).trans (e_rt f_36_137 rfl))))) (fun h50 => (e_nx f_36_110 rfl).trans ((e_nx (q := (_, _, .int 41 :: _, _)) f_36_111 rfl).trans ((e_gI (L := [.ref l0, .int x1, .int x2]) (st := [.int 41, .ref l0]) (μ := p47) (L' := [.ref l0, .int x1, .int x2]) (st' := []) f_36_113 rfl rfl).trans (g_congr (v_c2 rfl (Nat.le_of_ble_eq_true rfl)) (fun h54 => m_congr fun p53 => (e_eq f_36_116 rfl).trans (b_congr (fun h55 => (e_nx f_36_126 rfl).trans ((e_gV (L := [.ref l0, .int x1, .int x2]) (st := [.ref l0]) (μ := p53.2) (L' := [.ref l0, .int x1, .int x2]) (st' := []) f_36_127 rfl rfl).trans (g_congr (v_c2 rfl (Nat.le_of_ble_eq_true rfl)) (fun h57 => m_congr fun p56 => (e_nx f_36_130 rfl).trans (e_rt f_36_137 rfl))))) (fun h55 => (e_nx f_36_119 rfl).trans ((e_gV (L := [.ref l0, .int x1, .int x2]) (st := [.ref l0]) (μ := p53.2) (L' := [.ref l0, .int x1, .int x2]) (st' := []) f_36_120 rfl rfl).trans (g_congr (v_c2 rfl (Nat.le_of_ble_eq_true rfl)) (fun h59 => m_congr fun p58 => (e_nx f_36_123 rfl).trans (e_rt f_36_137 rfl))))))))))))))))))))))))))))))))))))) (fun h36 => (e_nx f_36_54 rfl).trans ((e_gV (L := [.ref l0, .int x1, .int x2]) (st := [.ref l0]) (μ := p10.2) (L' := [.ref l0, .int x1, .int x2]) (st' := []) f_36_55 rfl rfl).trans (g_congr (v_c2 rfl (Nat.le_of_ble_eq_true rfl)) (fun h61 => m_congr fun p60 => (e_nx f_36_58 rfl).trans ((e_nx f_36_59 rfl).trans ((e_nx f_36_60 rfl).trans ((e_nx (q := (_, _, .int 1 :: _, _)) f_36_61 rfl).trans ((e_nx f_36_62 rfl).trans ((e_gV (L := [.ref l0, .int x1, .int x2]) (st := [.int (x2 + 1), .int x1, .ref l0]) (μ := p60) (L' := [.ref l0, .int x1, .int x2]) (st' := []) f_36_63 rfl rfl).trans (g_congr (v_c2 rfl (Nat.le_of_ble_eq_true rfl)) (fun h63 => m_congr fun p62 => (e_nx f_36_66 rfl).trans ((e_nx (q := (_, _, .int (-33) :: _, _)) f_36_67 rfl).trans ((e_gV (L := [.ref l0, .int x1, .int x2]) (st := [.int (-33), .ref l0]) (μ := p62) (L' := [.ref l0, .int x1, .int x2]) (st' := []) f_36_69 rfl rfl).trans (g_congr (v_c2 rfl (Nat.le_of_ble_eq_true rfl)) (fun h65 => m_congr fun p64 => (e_nx f_36_72 rfl).trans (e_rt f_36_137 rfl)))))))))))))))))))))))))) (fun h9 => (e_nx f_36_26 rfl).trans ((e_nx (q := (_, _, .int (-1) :: _, _)) f_36_27 rfl).trans ((e_nx f_36_28 rfl).trans ((e_gI (L := [.ref l0, .int x1, .int x2]) (st := [.ref l0, .int (-1), .ref l0]) (μ := p7.2) (L' := [.ref l0, .int x1, .int x2]) (st' := [.int (-1), .ref l0]) f_36_29 rfl rfl).trans (g_congr (v_c2 rfl (Nat.le_of_ble_eq_true rfl)) (fun h67 => m_congr fun p66 => (e_nx f_36_32 rfl).trans ((e_gV (L := [.ref l0, .int x1, .int x2]) (st := [.int ((-1) - p66.1), .ref l0]) (μ := p66.2) (L' := [.ref l0, .int x1, .int x2]) (st' := []) f_36_33 rfl rfl).trans (g_congr (v_c2 rfl (Nat.le_of_ble_eq_true rfl)) (fun h69 => m_congr fun p68 => (e_nx f_36_36 rfl).trans (e_rt f_36_137 rfl))))))))))))))))))))
