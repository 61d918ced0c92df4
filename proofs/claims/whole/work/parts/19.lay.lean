/-! THE LAYOUT: which cells there are behind the two constructors. -/
abbrev aSg : Type := (Nat → Nat → Nat) × (Nat → Nat × Nat) × Nat × Nat
def shT : List (Nat × Nat) := [(8, 12), (2, 7), (12, 10), (0, 4), (10, 20), (10, 20), (10, 20), (15, 14), (10, 3), (1, 5), (1, 5), (1, 5), (1, 5), (1, 5), (1, 5), (1, 5), (1, 5), (1, 5), (1, 5), (2, 7), (12, 10), (0, 4), (10, 20), (10, 20), (10, 20), (15, 14), (10, 3), (1, 5), (1, 5), (1, 5), (1, 5), (1, 5), (1, 5), (1, 5), (1, 5), (1, 5), (1, 5), (2, 7), (12, 10), (0, 4), (10, 20), (10, 20), (10, 20), (15, 14), (10, 3), (1, 5), (1, 5), (1, 5), (1, 5), (1, 5), (1, 5), (1, 5), (1, 5), (1, 5), (1, 5), (4, 10), (10, 10), (10, 10), (10, 10), (10, 10), (10, 10), (10, 10), (10, 96), (11, 2981), (3, 10), (10, 96), (10, 96), (10, 96), (10, 60), (13, 4), (5, 3), (10, 24), (5, 3), (10, 24), (5, 3), (10, 24), (5, 3), (10, 24), (14, 5), (6, 4), (1, 5), (5, 3), (10, 24), (6, 4), (1, 5), (5, 3), (10, 24), (6, 4), (1, 5), (5, 3), (10, 24), (6, 4), (1, 5), (5, 3), (10, 24), (6, 4), (1, 5), (5, 3), (10, 24), (9, 38), (10, 3114), (10, 3114), (10, 3114), (10, 4), (10, 4), (10, 96), (10, 5), (10, 5), (10, 5), (10, 5), (10, 120), (10, 10), (10, 10), (10, 10), (10, 10), (10, 10), (11, 4000), (10, 96), (10, 128), (10, 100), (10, 24), (10, 24), (10, 60), (10, 60)]
def rfZ : List (Nat × Nat × Nat) := [(0, 0, 1), (0, 1, 19), (0, 2, 37), (0, 4, 55), (0, 5, 64), (0, 6, 67), (0, 8, 68), (0, 10, 69), (0, 11, 78), (1, 0, 2), (1, 2, 3), (1, 3, 7), (1, 5, 8), (2, 0, 9), (2, 1, 10), (2, 2, 11), (2, 3, 12), (2, 4, 13), (2, 5, 14), (2, 6, 15), (2, 7, 16), (2, 8, 17), (2, 9, 18), (3, 0, 4), (3, 1, 5), (3, 2, 6), (19, 0, 20), (19, 2, 21), (19, 3, 25), (19, 5, 26), (20, 0, 27), (20, 1, 28), (20, 2, 29), (20, 3, 30), (20, 4, 31), (20, 5, 32), (20, 6, 33), (20, 7, 34), (20, 8, 35), (20, 9, 36), (21, 0, 22), (21, 1, 23), (21, 2, 24), (37, 0, 38), (37, 2, 39), (37, 3, 43), (37, 5, 44), (38, 0, 45), (38, 1, 46), (38, 2, 47), (38, 3, 48), (38, 4, 49), (38, 5, 50), (38, 6, 51), (38, 7, 52), (38, 8, 53), (38, 9, 54), (39, 0, 40), (39, 1, 41), (39, 2, 42), (55, 0, 56), (55, 1, 57), (55, 2, 58), (55, 3, 59), (55, 4, 60), (55, 5, 61), (55, 6, 62), (55, 7, 63), (64, 0, 65), (64, 2, 66), (69, 0, 70), (69, 1, 72), (69, 2, 74), (69, 3, 76), (70, 0, 71), (72, 0, 73), (74, 0, 75), (76, 0, 77), (78, 0, 79), (78, 1, 83), (78, 2, 87), (78, 3, 91), (78, 4, 95), (79, 1, 80), (79, 2, 81), (81, 0, 82), (83, 1, 84), (83, 2, 85), (85, 0, 86), (87, 1, 88), (87, 2, 89), (89, 0, 90), (91, 1, 92), (91, 2, 93), (93, 0, 94), (95, 1, 96), (95, 2, 97), (97, 0, 98), (99, 0, 100), (99, 1, 101), (99, 2, 102), (99, 4, 103), (99, 5, 104), (99, 6, 105), (99, 7, 106), (99, 8, 107), (99, 9, 108), (99, 10, 109), (99, 11, 110), (99, 12, 111), (99, 13, 112), (99, 14, 113), (99, 15, 114), (99, 16, 115), (99, 17, 116), (99, 19, 117), (99, 31, 118), (99, 32, 119), (99, 33, 120), (99, 34, 121), (99, 35, 122), (99, 37, 123)]
def Lay (L : Nat) (σ : aSg) : Prop := (∀ a, a < 124 → σ.2.1 a = shT.getD a (99, 0)) ∧ (∀ t ∈ rfZ, σ.1 t.1 t.2.1 = t.2.2) ∧ σ.2.1 1000014 = (18, L) ∧ 124 ≤ σ.2.2.1 ∧ σ.2.1 1000000 = (99, 0) ∧ σ.2.1 1000001 = (99, 0) ∧ (∀ a, 1000008 ≤ a → a < 1000014 → σ.2.1 a = (99, 0)) ∧ ∀ a, σ.2.2.1 ≤ a → a < 1000000 → σ.2.1 a = (99, 0)
section LAY
variable {L : Nat} {σ : aSg}
theorem Y_0 (h : Lay L σ) : σ.2.1 0 = (8, 12) := h.1 0 (by decide)
theorem Y_1 (h : Lay L σ) : σ.2.1 1 = (2, 7) := h.1 1 (by decide)
theorem Y_2 (h : Lay L σ) : σ.2.1 2 = (12, 10) := h.1 2 (by decide)
theorem Y_3 (h : Lay L σ) : σ.2.1 3 = (0, 4) := h.1 3 (by decide)
theorem Y_4 (h : Lay L σ) : σ.2.1 4 = (10, 20) := h.1 4 (by decide)
theorem Y_5 (h : Lay L σ) : σ.2.1 5 = (10, 20) := h.1 5 (by decide)
theorem Y_6 (h : Lay L σ) : σ.2.1 6 = (10, 20) := h.1 6 (by decide)
theorem Y_7 (h : Lay L σ) : σ.2.1 7 = (15, 14) := h.1 7 (by decide)
theorem Y_8 (h : Lay L σ) : σ.2.1 8 = (10, 3) := h.1 8 (by decide)
theorem Y_9 (h : Lay L σ) : σ.2.1 9 = (1, 5) := h.1 9 (by decide)
theorem Y_10 (h : Lay L σ) : σ.2.1 10 = (1, 5) := h.1 10 (by decide)
theorem Y_11 (h : Lay L σ) : σ.2.1 11 = (1, 5) := h.1 11 (by decide)
theorem Y_12 (h : Lay L σ) : σ.2.1 12 = (1, 5) := h.1 12 (by decide)
theorem Y_13 (h : Lay L σ) : σ.2.1 13 = (1, 5) := h.1 13 (by decide)
theorem Y_14 (h : Lay L σ) : σ.2.1 14 = (1, 5) := h.1 14 (by decide)
theorem Y_15 (h : Lay L σ) : σ.2.1 15 = (1, 5) := h.1 15 (by decide)
theorem Y_16 (h : Lay L σ) : σ.2.1 16 = (1, 5) := h.1 16 (by decide)
theorem Y_17 (h : Lay L σ) : σ.2.1 17 = (1, 5) := h.1 17 (by decide)
theorem Y_18 (h : Lay L σ) : σ.2.1 18 = (1, 5) := h.1 18 (by decide)
theorem Y_19 (h : Lay L σ) : σ.2.1 19 = (2, 7) := h.1 19 (by decide)
theorem Y_20 (h : Lay L σ) : σ.2.1 20 = (12, 10) := h.1 20 (by decide)
theorem Y_21 (h : Lay L σ) : σ.2.1 21 = (0, 4) := h.1 21 (by decide)
theorem Y_22 (h : Lay L σ) : σ.2.1 22 = (10, 20) := h.1 22 (by decide)
theorem Y_23 (h : Lay L σ) : σ.2.1 23 = (10, 20) := h.1 23 (by decide)
theorem Y_24 (h : Lay L σ) : σ.2.1 24 = (10, 20) := h.1 24 (by decide)
theorem Y_25 (h : Lay L σ) : σ.2.1 25 = (15, 14) := h.1 25 (by decide)
theorem Y_26 (h : Lay L σ) : σ.2.1 26 = (10, 3) := h.1 26 (by decide)
theorem Y_27 (h : Lay L σ) : σ.2.1 27 = (1, 5) := h.1 27 (by decide)
theorem Y_28 (h : Lay L σ) : σ.2.1 28 = (1, 5) := h.1 28 (by decide)
theorem Y_29 (h : Lay L σ) : σ.2.1 29 = (1, 5) := h.1 29 (by decide)
theorem Y_30 (h : Lay L σ) : σ.2.1 30 = (1, 5) := h.1 30 (by decide)
theorem Y_31 (h : Lay L σ) : σ.2.1 31 = (1, 5) := h.1 31 (by decide)
theorem Y_32 (h : Lay L σ) : σ.2.1 32 = (1, 5) := h.1 32 (by decide)
theorem Y_33 (h : Lay L σ) : σ.2.1 33 = (1, 5) := h.1 33 (by decide)
theorem Y_34 (h : Lay L σ) : σ.2.1 34 = (1, 5) := h.1 34 (by decide)
theorem Y_35 (h : Lay L σ) : σ.2.1 35 = (1, 5) := h.1 35 (by decide)
theorem Y_36 (h : Lay L σ) : σ.2.1 36 = (1, 5) := h.1 36 (by decide)
theorem Y_37 (h : Lay L σ) : σ.2.1 37 = (2, 7) := h.1 37 (by decide)
theorem Y_38 (h : Lay L σ) : σ.2.1 38 = (12, 10) := h.1 38 (by decide)
theorem Y_39 (h : Lay L σ) : σ.2.1 39 = (0, 4) := h.1 39 (by decide)
theorem Y_40 (h : Lay L σ) : σ.2.1 40 = (10, 20) := h.1 40 (by decide)
theorem Y_41 (h : Lay L σ) : σ.2.1 41 = (10, 20) := h.1 41 (by decide)
theorem Y_42 (h : Lay L σ) : σ.2.1 42 = (10, 20) := h.1 42 (by decide)
theorem Y_43 (h : Lay L σ) : σ.2.1 43 = (15, 14) := h.1 43 (by decide)
theorem Y_44 (h : Lay L σ) : σ.2.1 44 = (10, 3) := h.1 44 (by decide)
theorem Y_45 (h : Lay L σ) : σ.2.1 45 = (1, 5) := h.1 45 (by decide)
theorem Y_46 (h : Lay L σ) : σ.2.1 46 = (1, 5) := h.1 46 (by decide)
theorem Y_47 (h : Lay L σ) : σ.2.1 47 = (1, 5) := h.1 47 (by decide)
theorem Y_48 (h : Lay L σ) : σ.2.1 48 = (1, 5) := h.1 48 (by decide)
theorem Y_49 (h : Lay L σ) : σ.2.1 49 = (1, 5) := h.1 49 (by decide)
theorem Y_50 (h : Lay L σ) : σ.2.1 50 = (1, 5) := h.1 50 (by decide)
theorem Y_51 (h : Lay L σ) : σ.2.1 51 = (1, 5) := h.1 51 (by decide)
theorem Y_52 (h : Lay L σ) : σ.2.1 52 = (1, 5) := h.1 52 (by decide)
theorem Y_53 (h : Lay L σ) : σ.2.1 53 = (1, 5) := h.1 53 (by decide)
theorem Y_54 (h : Lay L σ) : σ.2.1 54 = (1, 5) := h.1 54 (by decide)
theorem Y_55 (h : Lay L σ) : σ.2.1 55 = (4, 10) := h.1 55 (by decide)
theorem Y_56 (h : Lay L σ) : σ.2.1 56 = (10, 10) := h.1 56 (by decide)
theorem Y_57 (h : Lay L σ) : σ.2.1 57 = (10, 10) := h.1 57 (by decide)
theorem Y_58 (h : Lay L σ) : σ.2.1 58 = (10, 10) := h.1 58 (by decide)
theorem Y_59 (h : Lay L σ) : σ.2.1 59 = (10, 10) := h.1 59 (by decide)
theorem Y_60 (h : Lay L σ) : σ.2.1 60 = (10, 10) := h.1 60 (by decide)
theorem Y_61 (h : Lay L σ) : σ.2.1 61 = (10, 10) := h.1 61 (by decide)
theorem Y_62 (h : Lay L σ) : σ.2.1 62 = (10, 96) := h.1 62 (by decide)
theorem Y_63 (h : Lay L σ) : σ.2.1 63 = (11, 2981) := h.1 63 (by decide)
theorem Y_64 (h : Lay L σ) : σ.2.1 64 = (3, 10) := h.1 64 (by decide)
theorem Y_65 (h : Lay L σ) : σ.2.1 65 = (10, 96) := h.1 65 (by decide)
theorem Y_66 (h : Lay L σ) : σ.2.1 66 = (10, 96) := h.1 66 (by decide)
theorem Y_67 (h : Lay L σ) : σ.2.1 67 = (10, 96) := h.1 67 (by decide)
theorem Y_68 (h : Lay L σ) : σ.2.1 68 = (10, 60) := h.1 68 (by decide)
theorem Y_69 (h : Lay L σ) : σ.2.1 69 = (13, 4) := h.1 69 (by decide)
theorem Y_70 (h : Lay L σ) : σ.2.1 70 = (5, 3) := h.1 70 (by decide)
theorem Y_71 (h : Lay L σ) : σ.2.1 71 = (10, 24) := h.1 71 (by decide)
theorem Y_72 (h : Lay L σ) : σ.2.1 72 = (5, 3) := h.1 72 (by decide)
theorem Y_73 (h : Lay L σ) : σ.2.1 73 = (10, 24) := h.1 73 (by decide)
theorem Y_74 (h : Lay L σ) : σ.2.1 74 = (5, 3) := h.1 74 (by decide)
theorem Y_75 (h : Lay L σ) : σ.2.1 75 = (10, 24) := h.1 75 (by decide)
theorem Y_76 (h : Lay L σ) : σ.2.1 76 = (5, 3) := h.1 76 (by decide)
theorem Y_77 (h : Lay L σ) : σ.2.1 77 = (10, 24) := h.1 77 (by decide)
theorem Y_78 (h : Lay L σ) : σ.2.1 78 = (14, 5) := h.1 78 (by decide)
theorem Y_79 (h : Lay L σ) : σ.2.1 79 = (6, 4) := h.1 79 (by decide)
theorem Y_80 (h : Lay L σ) : σ.2.1 80 = (1, 5) := h.1 80 (by decide)
theorem Y_81 (h : Lay L σ) : σ.2.1 81 = (5, 3) := h.1 81 (by decide)
theorem Y_82 (h : Lay L σ) : σ.2.1 82 = (10, 24) := h.1 82 (by decide)
theorem Y_83 (h : Lay L σ) : σ.2.1 83 = (6, 4) := h.1 83 (by decide)
theorem Y_84 (h : Lay L σ) : σ.2.1 84 = (1, 5) := h.1 84 (by decide)
theorem Y_85 (h : Lay L σ) : σ.2.1 85 = (5, 3) := h.1 85 (by decide)
theorem Y_86 (h : Lay L σ) : σ.2.1 86 = (10, 24) := h.1 86 (by decide)
theorem Y_87 (h : Lay L σ) : σ.2.1 87 = (6, 4) := h.1 87 (by decide)
theorem Y_88 (h : Lay L σ) : σ.2.1 88 = (1, 5) := h.1 88 (by decide)
theorem Y_89 (h : Lay L σ) : σ.2.1 89 = (5, 3) := h.1 89 (by decide)
theorem Y_90 (h : Lay L σ) : σ.2.1 90 = (10, 24) := h.1 90 (by decide)
theorem Y_91 (h : Lay L σ) : σ.2.1 91 = (6, 4) := h.1 91 (by decide)
theorem Y_92 (h : Lay L σ) : σ.2.1 92 = (1, 5) := h.1 92 (by decide)
theorem Y_93 (h : Lay L σ) : σ.2.1 93 = (5, 3) := h.1 93 (by decide)
theorem Y_94 (h : Lay L σ) : σ.2.1 94 = (10, 24) := h.1 94 (by decide)
theorem Y_95 (h : Lay L σ) : σ.2.1 95 = (6, 4) := h.1 95 (by decide)
theorem Y_96 (h : Lay L σ) : σ.2.1 96 = (1, 5) := h.1 96 (by decide)
theorem Y_97 (h : Lay L σ) : σ.2.1 97 = (5, 3) := h.1 97 (by decide)
theorem Y_98 (h : Lay L σ) : σ.2.1 98 = (10, 24) := h.1 98 (by decide)
theorem Y_99 (h : Lay L σ) : σ.2.1 99 = (9, 38) := h.1 99 (by decide)
theorem Y_100 (h : Lay L σ) : σ.2.1 100 = (10, 3114) := h.1 100 (by decide)
theorem Y_101 (h : Lay L σ) : σ.2.1 101 = (10, 3114) := h.1 101 (by decide)
theorem Y_102 (h : Lay L σ) : σ.2.1 102 = (10, 3114) := h.1 102 (by decide)
theorem Y_103 (h : Lay L σ) : σ.2.1 103 = (10, 4) := h.1 103 (by decide)
theorem Y_104 (h : Lay L σ) : σ.2.1 104 = (10, 4) := h.1 104 (by decide)
theorem Y_105 (h : Lay L σ) : σ.2.1 105 = (10, 96) := h.1 105 (by decide)
theorem Y_106 (h : Lay L σ) : σ.2.1 106 = (10, 5) := h.1 106 (by decide)
theorem Y_107 (h : Lay L σ) : σ.2.1 107 = (10, 5) := h.1 107 (by decide)
theorem Y_108 (h : Lay L σ) : σ.2.1 108 = (10, 5) := h.1 108 (by decide)
theorem Y_109 (h : Lay L σ) : σ.2.1 109 = (10, 5) := h.1 109 (by decide)
theorem Y_110 (h : Lay L σ) : σ.2.1 110 = (10, 120) := h.1 110 (by decide)
theorem Y_111 (h : Lay L σ) : σ.2.1 111 = (10, 10) := h.1 111 (by decide)
theorem Y_112 (h : Lay L σ) : σ.2.1 112 = (10, 10) := h.1 112 (by decide)
theorem Y_113 (h : Lay L σ) : σ.2.1 113 = (10, 10) := h.1 113 (by decide)
theorem Y_114 (h : Lay L σ) : σ.2.1 114 = (10, 10) := h.1 114 (by decide)
theorem Y_115 (h : Lay L σ) : σ.2.1 115 = (10, 10) := h.1 115 (by decide)
theorem Y_116 (h : Lay L σ) : σ.2.1 116 = (11, 4000) := h.1 116 (by decide)
theorem Y_117 (h : Lay L σ) : σ.2.1 117 = (10, 96) := h.1 117 (by decide)
theorem Y_118 (h : Lay L σ) : σ.2.1 118 = (10, 128) := h.1 118 (by decide)
theorem Y_119 (h : Lay L σ) : σ.2.1 119 = (10, 100) := h.1 119 (by decide)
theorem Y_120 (h : Lay L σ) : σ.2.1 120 = (10, 24) := h.1 120 (by decide)
theorem Y_121 (h : Lay L σ) : σ.2.1 121 = (10, 24) := h.1 121 (by decide)
theorem Y_122 (h : Lay L σ) : σ.2.1 122 = (10, 60) := h.1 122 (by decide)
theorem Y_123 (h : Lay L σ) : σ.2.1 123 = (10, 60) := h.1 123 (by decide)
theorem Z_0_0 (h : Lay L σ) : σ.1 0 0 = 1 := h.2.1 (0, 0, 1) (List.mem_of_getElem? (i := 0) rfl)
theorem Z_0_1 (h : Lay L σ) : σ.1 0 1 = 19 := h.2.1 (0, 1, 19) (List.mem_of_getElem? (i := 1) rfl)
theorem Z_0_2 (h : Lay L σ) : σ.1 0 2 = 37 := h.2.1 (0, 2, 37) (List.mem_of_getElem? (i := 2) rfl)
theorem Z_0_4 (h : Lay L σ) : σ.1 0 4 = 55 := h.2.1 (0, 4, 55) (List.mem_of_getElem? (i := 3) rfl)
theorem Z_0_5 (h : Lay L σ) : σ.1 0 5 = 64 := h.2.1 (0, 5, 64) (List.mem_of_getElem? (i := 4) rfl)
theorem Z_0_6 (h : Lay L σ) : σ.1 0 6 = 67 := h.2.1 (0, 6, 67) (List.mem_of_getElem? (i := 5) rfl)
theorem Z_0_8 (h : Lay L σ) : σ.1 0 8 = 68 := h.2.1 (0, 8, 68) (List.mem_of_getElem? (i := 6) rfl)
theorem Z_0_10 (h : Lay L σ) : σ.1 0 10 = 69 := h.2.1 (0, 10, 69) (List.mem_of_getElem? (i := 7) rfl)
theorem Z_0_11 (h : Lay L σ) : σ.1 0 11 = 78 := h.2.1 (0, 11, 78) (List.mem_of_getElem? (i := 8) rfl)
theorem Z_1_0 (h : Lay L σ) : σ.1 1 0 = 2 := h.2.1 (1, 0, 2) (List.mem_of_getElem? (i := 9) rfl)
theorem Z_1_2 (h : Lay L σ) : σ.1 1 2 = 3 := h.2.1 (1, 2, 3) (List.mem_of_getElem? (i := 10) rfl)
theorem Z_1_3 (h : Lay L σ) : σ.1 1 3 = 7 := h.2.1 (1, 3, 7) (List.mem_of_getElem? (i := 11) rfl)
theorem Z_1_5 (h : Lay L σ) : σ.1 1 5 = 8 := h.2.1 (1, 5, 8) (List.mem_of_getElem? (i := 12) rfl)
theorem Z_2_0 (h : Lay L σ) : σ.1 2 0 = 9 := h.2.1 (2, 0, 9) (List.mem_of_getElem? (i := 13) rfl)
theorem Z_2_1 (h : Lay L σ) : σ.1 2 1 = 10 := h.2.1 (2, 1, 10) (List.mem_of_getElem? (i := 14) rfl)
theorem Z_2_2 (h : Lay L σ) : σ.1 2 2 = 11 := h.2.1 (2, 2, 11) (List.mem_of_getElem? (i := 15) rfl)
theorem Z_2_3 (h : Lay L σ) : σ.1 2 3 = 12 := h.2.1 (2, 3, 12) (List.mem_of_getElem? (i := 16) rfl)
theorem Z_2_4 (h : Lay L σ) : σ.1 2 4 = 13 := h.2.1 (2, 4, 13) (List.mem_of_getElem? (i := 17) rfl)
theorem Z_2_5 (h : Lay L σ) : σ.1 2 5 = 14 := h.2.1 (2, 5, 14) (List.mem_of_getElem? (i := 18) rfl)
theorem Z_2_6 (h : Lay L σ) : σ.1 2 6 = 15 := h.2.1 (2, 6, 15) (List.mem_of_getElem? (i := 19) rfl)
theorem Z_2_7 (h : Lay L σ) : σ.1 2 7 = 16 := h.2.1 (2, 7, 16) (List.mem_of_getElem? (i := 20) rfl)
theorem Z_2_8 (h : Lay L σ) : σ.1 2 8 = 17 := h.2.1 (2, 8, 17) (List.mem_of_getElem? (i := 21) rfl)
theorem Z_2_9 (h : Lay L σ) : σ.1 2 9 = 18 := h.2.1 (2, 9, 18) (List.mem_of_getElem? (i := 22) rfl)
theorem Z_3_0 (h : Lay L σ) : σ.1 3 0 = 4 := h.2.1 (3, 0, 4) (List.mem_of_getElem? (i := 23) rfl)
theorem Z_3_1 (h : Lay L σ) : σ.1 3 1 = 5 := h.2.1 (3, 1, 5) (List.mem_of_getElem? (i := 24) rfl)
theorem Z_3_2 (h : Lay L σ) : σ.1 3 2 = 6 := h.2.1 (3, 2, 6) (List.mem_of_getElem? (i := 25) rfl)
theorem Z_19_0 (h : Lay L σ) : σ.1 19 0 = 20 := h.2.1 (19, 0, 20) (List.mem_of_getElem? (i := 26) rfl)
theorem Z_19_2 (h : Lay L σ) : σ.1 19 2 = 21 := h.2.1 (19, 2, 21) (List.mem_of_getElem? (i := 27) rfl)
theorem Z_19_3 (h : Lay L σ) : σ.1 19 3 = 25 := h.2.1 (19, 3, 25) (List.mem_of_getElem? (i := 28) rfl)
theorem Z_19_5 (h : Lay L σ) : σ.1 19 5 = 26 := h.2.1 (19, 5, 26) (List.mem_of_getElem? (i := 29) rfl)
theorem Z_20_0 (h : Lay L σ) : σ.1 20 0 = 27 := h.2.1 (20, 0, 27) (List.mem_of_getElem? (i := 30) rfl)
theorem Z_20_1 (h : Lay L σ) : σ.1 20 1 = 28 := h.2.1 (20, 1, 28) (List.mem_of_getElem? (i := 31) rfl)
theorem Z_20_2 (h : Lay L σ) : σ.1 20 2 = 29 := h.2.1 (20, 2, 29) (List.mem_of_getElem? (i := 32) rfl)
theorem Z_20_3 (h : Lay L σ) : σ.1 20 3 = 30 := h.2.1 (20, 3, 30) (List.mem_of_getElem? (i := 33) rfl)
theorem Z_20_4 (h : Lay L σ) : σ.1 20 4 = 31 := h.2.1 (20, 4, 31) (List.mem_of_getElem? (i := 34) rfl)
theorem Z_20_5 (h : Lay L σ) : σ.1 20 5 = 32 := h.2.1 (20, 5, 32) (List.mem_of_getElem? (i := 35) rfl)
theorem Z_20_6 (h : Lay L σ) : σ.1 20 6 = 33 := h.2.1 (20, 6, 33) (List.mem_of_getElem? (i := 36) rfl)
theorem Z_20_7 (h : Lay L σ) : σ.1 20 7 = 34 := h.2.1 (20, 7, 34) (List.mem_of_getElem? (i := 37) rfl)
theorem Z_20_8 (h : Lay L σ) : σ.1 20 8 = 35 := h.2.1 (20, 8, 35) (List.mem_of_getElem? (i := 38) rfl)
theorem Z_20_9 (h : Lay L σ) : σ.1 20 9 = 36 := h.2.1 (20, 9, 36) (List.mem_of_getElem? (i := 39) rfl)
theorem Z_21_0 (h : Lay L σ) : σ.1 21 0 = 22 := h.2.1 (21, 0, 22) (List.mem_of_getElem? (i := 40) rfl)
theorem Z_21_1 (h : Lay L σ) : σ.1 21 1 = 23 := h.2.1 (21, 1, 23) (List.mem_of_getElem? (i := 41) rfl)
theorem Z_21_2 (h : Lay L σ) : σ.1 21 2 = 24 := h.2.1 (21, 2, 24) (List.mem_of_getElem? (i := 42) rfl)
theorem Z_37_0 (h : Lay L σ) : σ.1 37 0 = 38 := h.2.1 (37, 0, 38) (List.mem_of_getElem? (i := 43) rfl)
theorem Z_37_2 (h : Lay L σ) : σ.1 37 2 = 39 := h.2.1 (37, 2, 39) (List.mem_of_getElem? (i := 44) rfl)
theorem Z_37_3 (h : Lay L σ) : σ.1 37 3 = 43 := h.2.1 (37, 3, 43) (List.mem_of_getElem? (i := 45) rfl)
theorem Z_37_5 (h : Lay L σ) : σ.1 37 5 = 44 := h.2.1 (37, 5, 44) (List.mem_of_getElem? (i := 46) rfl)
theorem Z_38_0 (h : Lay L σ) : σ.1 38 0 = 45 := h.2.1 (38, 0, 45) (List.mem_of_getElem? (i := 47) rfl)
theorem Z_38_1 (h : Lay L σ) : σ.1 38 1 = 46 := h.2.1 (38, 1, 46) (List.mem_of_getElem? (i := 48) rfl)
theorem Z_38_2 (h : Lay L σ) : σ.1 38 2 = 47 := h.2.1 (38, 2, 47) (List.mem_of_getElem? (i := 49) rfl)
theorem Z_38_3 (h : Lay L σ) : σ.1 38 3 = 48 := h.2.1 (38, 3, 48) (List.mem_of_getElem? (i := 50) rfl)
theorem Z_38_4 (h : Lay L σ) : σ.1 38 4 = 49 := h.2.1 (38, 4, 49) (List.mem_of_getElem? (i := 51) rfl)
theorem Z_38_5 (h : Lay L σ) : σ.1 38 5 = 50 := h.2.1 (38, 5, 50) (List.mem_of_getElem? (i := 52) rfl)
theorem Z_38_6 (h : Lay L σ) : σ.1 38 6 = 51 := h.2.1 (38, 6, 51) (List.mem_of_getElem? (i := 53) rfl)
theorem Z_38_7 (h : Lay L σ) : σ.1 38 7 = 52 := h.2.1 (38, 7, 52) (List.mem_of_getElem? (i := 54) rfl)
theorem Z_38_8 (h : Lay L σ) : σ.1 38 8 = 53 := h.2.1 (38, 8, 53) (List.mem_of_getElem? (i := 55) rfl)
theorem Z_38_9 (h : Lay L σ) : σ.1 38 9 = 54 := h.2.1 (38, 9, 54) (List.mem_of_getElem? (i := 56) rfl)
theorem Z_39_0 (h : Lay L σ) : σ.1 39 0 = 40 := h.2.1 (39, 0, 40) (List.mem_of_getElem? (i := 57) rfl)
theorem Z_39_1 (h : Lay L σ) : σ.1 39 1 = 41 := h.2.1 (39, 1, 41) (List.mem_of_getElem? (i := 58) rfl)
theorem Z_39_2 (h : Lay L σ) : σ.1 39 2 = 42 := h.2.1 (39, 2, 42) (List.mem_of_getElem? (i := 59) rfl)
theorem Z_55_0 (h : Lay L σ) : σ.1 55 0 = 56 := h.2.1 (55, 0, 56) (List.mem_of_getElem? (i := 60) rfl)
theorem Z_55_1 (h : Lay L σ) : σ.1 55 1 = 57 := h.2.1 (55, 1, 57) (List.mem_of_getElem? (i := 61) rfl)
theorem Z_55_2 (h : Lay L σ) : σ.1 55 2 = 58 := h.2.1 (55, 2, 58) (List.mem_of_getElem? (i := 62) rfl)
theorem Z_55_3 (h : Lay L σ) : σ.1 55 3 = 59 := h.2.1 (55, 3, 59) (List.mem_of_getElem? (i := 63) rfl)
theorem Z_55_4 (h : Lay L σ) : σ.1 55 4 = 60 := h.2.1 (55, 4, 60) (List.mem_of_getElem? (i := 64) rfl)
theorem Z_55_5 (h : Lay L σ) : σ.1 55 5 = 61 := h.2.1 (55, 5, 61) (List.mem_of_getElem? (i := 65) rfl)
theorem Z_55_6 (h : Lay L σ) : σ.1 55 6 = 62 := h.2.1 (55, 6, 62) (List.mem_of_getElem? (i := 66) rfl)
theorem Z_55_7 (h : Lay L σ) : σ.1 55 7 = 63 := h.2.1 (55, 7, 63) (List.mem_of_getElem? (i := 67) rfl)
theorem Z_64_0 (h : Lay L σ) : σ.1 64 0 = 65 := h.2.1 (64, 0, 65) (List.mem_of_getElem? (i := 68) rfl)
theorem Z_64_2 (h : Lay L σ) : σ.1 64 2 = 66 := h.2.1 (64, 2, 66) (List.mem_of_getElem? (i := 69) rfl)
theorem Z_69_0 (h : Lay L σ) : σ.1 69 0 = 70 := h.2.1 (69, 0, 70) (List.mem_of_getElem? (i := 70) rfl)
theorem Z_69_1 (h : Lay L σ) : σ.1 69 1 = 72 := h.2.1 (69, 1, 72) (List.mem_of_getElem? (i := 71) rfl)
theorem Z_69_2 (h : Lay L σ) : σ.1 69 2 = 74 := h.2.1 (69, 2, 74) (List.mem_of_getElem? (i := 72) rfl)
theorem Z_69_3 (h : Lay L σ) : σ.1 69 3 = 76 := h.2.1 (69, 3, 76) (List.mem_of_getElem? (i := 73) rfl)
theorem Z_70_0 (h : Lay L σ) : σ.1 70 0 = 71 := h.2.1 (70, 0, 71) (List.mem_of_getElem? (i := 74) rfl)
theorem Z_72_0 (h : Lay L σ) : σ.1 72 0 = 73 := h.2.1 (72, 0, 73) (List.mem_of_getElem? (i := 75) rfl)
theorem Z_74_0 (h : Lay L σ) : σ.1 74 0 = 75 := h.2.1 (74, 0, 75) (List.mem_of_getElem? (i := 76) rfl)
theorem Z_76_0 (h : Lay L σ) : σ.1 76 0 = 77 := h.2.1 (76, 0, 77) (List.mem_of_getElem? (i := 77) rfl)
theorem Z_78_0 (h : Lay L σ) : σ.1 78 0 = 79 := h.2.1 (78, 0, 79) (List.mem_of_getElem? (i := 78) rfl)
theorem Z_78_1 (h : Lay L σ) : σ.1 78 1 = 83 := h.2.1 (78, 1, 83) (List.mem_of_getElem? (i := 79) rfl)
theorem Z_78_2 (h : Lay L σ) : σ.1 78 2 = 87 := h.2.1 (78, 2, 87) (List.mem_of_getElem? (i := 80) rfl)
theorem Z_78_3 (h : Lay L σ) : σ.1 78 3 = 91 := h.2.1 (78, 3, 91) (List.mem_of_getElem? (i := 81) rfl)
theorem Z_78_4 (h : Lay L σ) : σ.1 78 4 = 95 := h.2.1 (78, 4, 95) (List.mem_of_getElem? (i := 82) rfl)
theorem Z_79_1 (h : Lay L σ) : σ.1 79 1 = 80 := h.2.1 (79, 1, 80) (List.mem_of_getElem? (i := 83) rfl)
theorem Z_79_2 (h : Lay L σ) : σ.1 79 2 = 81 := h.2.1 (79, 2, 81) (List.mem_of_getElem? (i := 84) rfl)
theorem Z_81_0 (h : Lay L σ) : σ.1 81 0 = 82 := h.2.1 (81, 0, 82) (List.mem_of_getElem? (i := 85) rfl)
theorem Z_83_1 (h : Lay L σ) : σ.1 83 1 = 84 := h.2.1 (83, 1, 84) (List.mem_of_getElem? (i := 86) rfl)
theorem Z_83_2 (h : Lay L σ) : σ.1 83 2 = 85 := h.2.1 (83, 2, 85) (List.mem_of_getElem? (i := 87) rfl)
theorem Z_85_0 (h : Lay L σ) : σ.1 85 0 = 86 := h.2.1 (85, 0, 86) (List.mem_of_getElem? (i := 88) rfl)
theorem Z_87_1 (h : Lay L σ) : σ.1 87 1 = 88 := h.2.1 (87, 1, 88) (List.mem_of_getElem? (i := 89) rfl)
theorem Z_87_2 (h : Lay L σ) : σ.1 87 2 = 89 := h.2.1 (87, 2, 89) (List.mem_of_getElem? (i := 90) rfl)
theorem Z_89_0 (h : Lay L σ) : σ.1 89 0 = 90 := h.2.1 (89, 0, 90) (List.mem_of_getElem? (i := 91) rfl)
theorem Z_91_1 (h : Lay L σ) : σ.1 91 1 = 92 := h.2.1 (91, 1, 92) (List.mem_of_getElem? (i := 92) rfl)
theorem Z_91_2 (h : Lay L σ) : σ.1 91 2 = 93 := h.2.1 (91, 2, 93) (List.mem_of_getElem? (i := 93) rfl)
theorem Z_93_0 (h : Lay L σ) : σ.1 93 0 = 94 := h.2.1 (93, 0, 94) (List.mem_of_getElem? (i := 94) rfl)
theorem Z_95_1 (h : Lay L σ) : σ.1 95 1 = 96 := h.2.1 (95, 1, 96) (List.mem_of_getElem? (i := 95) rfl)
theorem Z_95_2 (h : Lay L σ) : σ.1 95 2 = 97 := h.2.1 (95, 2, 97) (List.mem_of_getElem? (i := 96) rfl)
theorem Z_97_0 (h : Lay L σ) : σ.1 97 0 = 98 := h.2.1 (97, 0, 98) (List.mem_of_getElem? (i := 97) rfl)
theorem Z_99_0 (h : Lay L σ) : σ.1 99 0 = 100 := h.2.1 (99, 0, 100) (List.mem_of_getElem? (i := 98) rfl)
theorem Z_99_1 (h : Lay L σ) : σ.1 99 1 = 101 := h.2.1 (99, 1, 101) (List.mem_of_getElem? (i := 99) rfl)
theorem Z_99_2 (h : Lay L σ) : σ.1 99 2 = 102 := h.2.1 (99, 2, 102) (List.mem_of_getElem? (i := 100) rfl)
theorem Z_99_4 (h : Lay L σ) : σ.1 99 4 = 103 := h.2.1 (99, 4, 103) (List.mem_of_getElem? (i := 101) rfl)
theorem Z_99_5 (h : Lay L σ) : σ.1 99 5 = 104 := h.2.1 (99, 5, 104) (List.mem_of_getElem? (i := 102) rfl)
theorem Z_99_6 (h : Lay L σ) : σ.1 99 6 = 105 := h.2.1 (99, 6, 105) (List.mem_of_getElem? (i := 103) rfl)
theorem Z_99_7 (h : Lay L σ) : σ.1 99 7 = 106 := h.2.1 (99, 7, 106) (List.mem_of_getElem? (i := 104) rfl)
theorem Z_99_8 (h : Lay L σ) : σ.1 99 8 = 107 := h.2.1 (99, 8, 107) (List.mem_of_getElem? (i := 105) rfl)
theorem Z_99_9 (h : Lay L σ) : σ.1 99 9 = 108 := h.2.1 (99, 9, 108) (List.mem_of_getElem? (i := 106) rfl)
theorem Z_99_10 (h : Lay L σ) : σ.1 99 10 = 109 := h.2.1 (99, 10, 109) (List.mem_of_getElem? (i := 107) rfl)
theorem Z_99_11 (h : Lay L σ) : σ.1 99 11 = 110 := h.2.1 (99, 11, 110) (List.mem_of_getElem? (i := 108) rfl)
theorem Z_99_12 (h : Lay L σ) : σ.1 99 12 = 111 := h.2.1 (99, 12, 111) (List.mem_of_getElem? (i := 109) rfl)
theorem Z_99_13 (h : Lay L σ) : σ.1 99 13 = 112 := h.2.1 (99, 13, 112) (List.mem_of_getElem? (i := 110) rfl)
theorem Z_99_14 (h : Lay L σ) : σ.1 99 14 = 113 := h.2.1 (99, 14, 113) (List.mem_of_getElem? (i := 111) rfl)
theorem Z_99_15 (h : Lay L σ) : σ.1 99 15 = 114 := h.2.1 (99, 15, 114) (List.mem_of_getElem? (i := 112) rfl)
theorem Z_99_16 (h : Lay L σ) : σ.1 99 16 = 115 := h.2.1 (99, 16, 115) (List.mem_of_getElem? (i := 113) rfl)
theorem Z_99_17 (h : Lay L σ) : σ.1 99 17 = 116 := h.2.1 (99, 17, 116) (List.mem_of_getElem? (i := 114) rfl)
theorem Z_99_19 (h : Lay L σ) : σ.1 99 19 = 117 := h.2.1 (99, 19, 117) (List.mem_of_getElem? (i := 115) rfl)
theorem Z_99_31 (h : Lay L σ) : σ.1 99 31 = 118 := h.2.1 (99, 31, 118) (List.mem_of_getElem? (i := 116) rfl)
theorem Z_99_32 (h : Lay L σ) : σ.1 99 32 = 119 := h.2.1 (99, 32, 119) (List.mem_of_getElem? (i := 117) rfl)
theorem Z_99_33 (h : Lay L σ) : σ.1 99 33 = 120 := h.2.1 (99, 33, 120) (List.mem_of_getElem? (i := 118) rfl)
theorem Z_99_34 (h : Lay L σ) : σ.1 99 34 = 121 := h.2.1 (99, 34, 121) (List.mem_of_getElem? (i := 119) rfl)
theorem Z_99_35 (h : Lay L σ) : σ.1 99 35 = 122 := h.2.1 (99, 35, 122) (List.mem_of_getElem? (i := 120) rfl)
theorem Z_99_37 (h : Lay L σ) : σ.1 99 37 = 123 := h.2.1 (99, 37, 123) (List.mem_of_getElem? (i := 121) rfl)
end LAY
/-- one place of one cell changed -/
def uF (F : Nat → Nat → Int32) (a k : Nat) (v : Int32) : Nat → Nat → Int32 := up1 F a (up1 (F a) k v)
theorem setF_mk (F : Nat → Nat → Int32) (ρ : (Nat → Nat → Int64) × aSg) (a k : Nat) (v : Int32) : setF (F, ρ) a k v = (uF F a k v, ρ) := rfl
theorem cpyF_mk (F : Nat → Nat → Int32) (ρ : (Nat → Nat → Int64) × aSg) (a0 a1 sp dp n : Nat) : cpyF (F, ρ) a0 a1 sp dp n = (up1 F a1 (va_cpy (F a0) (F a1) sp dp n), ρ) := rfl
theorem uF_s (F : Nat → Nat → Int32) (a k : Nat) (v : Int32) : uF F a k v a k = v := by unfold uF; rw [up1_s, up1_s]
theorem uF_n (F : Nat → Nat → Int32) {a b : Nat} (k : Nat) (v : Int32) (h : b ≠ a) : uF F a k v b = F b := up1_n _ _ h
theorem uF_k (F : Nat → Nat → Int32) (a : Nat) {k j : Nat} (v : Int32) (h : j ≠ k) : uF F a k v a j = F a j := by unfold uF; rw [up1_s, up1_n _ _ h]
theorem uF_a (F : Nat → Nat → Int32) (a k : Nat) (v : Int32) : uF F a k v a = up1 (F a) k v := up1_s _ _ _
theorem rdI_mk {F : Nat → Nat → Int32} {J : Nat → Nat → Int64} {σ : aSg} {a n : Nat} {j : Int32} (h : σ.2.1 a = (10, n)) (hj : inb j n) : rdI (F, J, σ) a j = some (F a (ix j)) := by
  unfold rdI
  have h1 : (mS (F, J, σ) a) = (10, n) := h
  rw [h1, if_pos (Or.inl rfl), if_pos hj]
theorem rdI_nI {F : Nat → Nat → Int32} {J : Nat → Nat → Int64} {σ : aSg} {a n i : Nat} (h : σ.2.1 a = (10, n)) (hi : i < n) (hn : n < 2 ^ 31) : rdI (F, J, σ) a (nI i) = some (F a i) := by
  rw [rdI_mk h (nI_in hi hn)]
  show some (F a (nI i).toNatClampNeg) = _
  rw [nI_clamp (by omega)]
theorem inb_nI {i n : Nat} (hi : i < n) (hn : n < 2 ^ 31) : inb (nI i) n := nI_in hi hn
theorem ix_nI {i : Nat} (hi : i < 2 ^ 31) : ix (nI i) = i := nI_clamp hi
/-- a loop by counting -/
def iter {α : Type} (f : Nat → α → α) : Nat → Nat → α → α
  | _, 0, a => a
  | i, n + 1, a => iter f (i + 1) n (f i a)
theorem loop_it {α β : Type} (R : Nat → α → β) (f : Nat → α → α) (e : Nat) (hs : ∀ i a, i < e → R i a = R (i + 1) (f i a)) : ∀ n i a, i + n = e → R i a = R e (iter f i n a)
  | 0, i, a, h => by rw [show e = i by omega]; rfl
  | n + 1, i, a, h => by rw [hs i a (by omega)]; exact loop_it R f e hs n (i + 1) (f i a) (by omega)
theorem loop_in {α β : Type} (R : Nat → α → β) (f : Nat → α → α) (I : Nat → α → Prop) (e : Nat) (hs : ∀ i a, i < e → I i a → R i a = R (i + 1) (f i a) ∧ I (i + 1) (f i a)) : ∀ n i a, i + n = e → I i a → R i a = R e (iter f i n a) ∧ I e (iter f i n a)
  | 0, i, a, h, hi => by
    have : e = i := by omega
    subst this
    exact ⟨rfl, hi⟩
  | n + 1, i, a, h, hi => by
    obtain ⟨h1, h2⟩ := hs i a (by omega) hi
    rw [h1]
    exact loop_in R f I e hs n (i + 1) (f i a) (by omega) h2
theorem iter_congr {α : Type} {f g : Nat → α → α} : ∀ {n i : Nat} {a : α}, (∀ j b, i ≤ j → j < i + n → f j b = g j b) → iter f i n a = iter g i n a
  | 0, i, a, _ => rfl
  | n + 1, i, a, h => by
    show iter f (i + 1) n (f i a) = iter g (i + 1) n (g i a)
    rw [h i a (Nat.le_refl _) (by omega)]
    exact iter_congr (fun j b h1 h2 => h j b (by omega) (by omega))
theorem iter_succ {α : Type} (f : Nat → α → α) : ∀ (n i : Nat) (a : α), iter f i (n + 1) a = f (i + n) (iter f i n a)
  | 0, i, a => rfl
  | n + 1, i, a => by
    show iter f (i + 1) (n + 1) (f i a) = _
    rw [iter_succ f n (i + 1) (f i a)]
    show f (i + 1 + n) _ = f (i + (n + 1)) _
    rw [show i + 1 + n = i + (n + 1) by omega]
    rfl
theorem lg_lt (x y : Int64) : lg_cmp x y < 0 ↔ x < y := by
  unfold lg_cmp
  by_cases h1 : x > y
  · rw [if_pos h1]
    exact ⟨fun h => absurd h (by decide), fun h => (Int64.lt_irrefl (Int64.lt_trans h h1)).elim⟩
  · rw [if_neg h1]
    by_cases h2 : x = y
    · rw [if_pos h2, h2]
      exact ⟨fun h => absurd h (by decide), fun h => (Int64.lt_irrefl h).elim⟩
    · rw [if_neg h2]
      refine ⟨fun _ => ?_, fun _ => by decide⟩
      rcases Int64.lt_or_eq_of_le (Int64.not_lt.mp h1) with q | q
      · exact q
      · exact absurd q h2
theorem lg_gt (x y : Int64) : 0 < lg_cmp x y ↔ y < x := by
  unfold lg_cmp
  by_cases h1 : x > y
  · rw [if_pos h1]
    exact ⟨fun _ => h1, fun _ => by decide⟩
  · rw [if_neg h1]
    by_cases h2 : x = y
    · rw [if_pos h2]
      exact ⟨fun h => absurd h (by decide), fun h => absurd h h1⟩
    · rw [if_neg h2]
      exact ⟨fun h => absurd h (by decide), fun h => absurd h h1⟩
theorem i64_le (x y : Int32) : x.toInt64 ≤ y.toInt64 ↔ x ≤ y := by rw [Int64.le_iff_toInt_le, Int32.le_iff_toInt_le, Int32.toInt_toInt64, Int32.toInt_toInt64]
theorem i64_lt (x y : Int32) : x.toInt64 < y.toInt64 ↔ x < y := by rw [Int64.lt_iff_toInt_lt, Int32.lt_iff_toInt_lt, Int32.toInt_toInt64, Int32.toInt_toInt64]
/-- truth as an int -/
def b2i (c : Prop) [Decidable c] : Int32 := if c then 1 else 0
theorem b2i_01 (c : Prop) [Decidable c] : b2i c = 0 ∨ b2i c = 1 := by unfold b2i; split <;> simp
theorem b2i_0 (c : Prop) [Decidable c] : b2i c = 0 ↔ ¬ c := by unfold b2i; split <;> simp [*]
theorem lg_refl (x : Int64) : lg_cmp x x = 0 := by
  unfold lg_cmp
  rw [if_neg (fun h => (Int64.lt_irrefl h).elim), if_pos rfl]

