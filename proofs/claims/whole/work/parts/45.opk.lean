/-! LAY, POUR. -/
section OPK
variable {L d : Nat} {F F' : Nat → Nat → Int32} {J : Nat → Nat → Int64} {σ : aSg} {μ : aMem} {s s' xs : Nat → Int32}
theorem op_lay : OpI (Inv L xs) 113 220 3 := op3 fun q F J σ y x k hq I => by
  have h := I.lay
  have hp := PL_1 h
  obtain ⟨n, m, t, P, B, T, z⟩ := I.rw
  have hn := P.1
  have t0 : True ∧ 0 < 999999 := ⟨trivial, by decide⟩
  have t1 : True ∧ 1 < 999999 := ⟨trivial, by decide⟩
  by_cases h1 : 0 ≤ y ∧ y ≤ 4
  · obtain ⟨i, hi, rfl⟩ := four5 h1
    have ei : (nI i).toInt.toNat = i := by rw [nI_toInt (by omega), Int.toNat_natCast]
    have li : 79 + 4 * i ≤ 999999 := by omega
    have ni : ¬ 79 + 4 * i = 999999 := by omega
    obtain ⟨s1, s2, s3, s4, s5⟩ := I.sl i hi
    by_cases h2 : 0 ≤ x ∧ x ≤ 3
    · have h2' : ¬ ¬ (0 ≤ x ∧ x ≤ 3) := not_not_intro h2
      by_cases x1 : x = 1
      · subst x1
        by_cases k1 : 0 ≤ k ∧ k < nI n
        · obtain ⟨j, hj, rfl⟩ := (nI_ex (by omega)).mp k1
          have ej : (nI j).toInt.toNat = j := by rw [nI_toInt (by omega), Int.toNat_natCast]
          have lp : 1 + 8 + j ≤ 999999 := by omega
          have np : ¬ 1 + 8 + j = 999999 := by omega
          have tp : True ∧ 80 + 4 * i < 999999 := ⟨trivial, by omega⟩
          obtain ⟨f, ef⟩ : ∃ f, f = up1 (up1 (up1 (up1 (up1 (F (80 + 4 * i)) 0 (F (1 + 8 + j) 0)) 1 (F (1 + 8 + j) 1)) 2 (F (1 + 8 + j) 2)) 3 (F (1 + 8 + j) 3)) 4 (F (1 + 8 + j) 4) := ⟨_, rfl⟩
          have ct := c_partTake (d := 99) (F := F) (J := J) (T_yp h i hi) (hp.yk (show j < 10 by omega)) (by omega)
          rw [← ef] at ct
          obtain ⟨F1, eF1⟩ : ∃ F1, F1 = up1 (up1 F (80 + 4 * i) f) (79 + 4 * i) (up1 (F (79 + 4 * i)) 0 1) := ⟨_, rfl⟩
          have o1 : ∀ a, a ≠ 79 + 4 * i → a ≠ 80 + 4 * i → F1 a = F a := fun a e1 e2 => by rw [eF1, up1_ne _ _ e1, up1_ne _ _ e2]
          have mm := m_layYes (F := F1) (J := J) h (by rw [o1 100 (by omega) (by omega)]; exact P.2.1) P.1 hi (x := 1) (k := nI j) (Or.inr (Or.inr (Or.inl ⟨rfl, k1⟩))) (by decide) (m_lay74p (J := J) (F := F1) h hi (show j < 10 by omega))
          rw [o1 100 (by omega) (by omega), o1 106 (by omega) (by omega), o1 107 (by omega) (by omega), o1 108 (by omega) (by omega)] at mm
          refine ⟨F 106 i, F1, J, σ, _, J, σ, ?_, h, o1 _ (by omega) (by omega), i_220 (d := 99) mm, ?_⟩
          · refine i_113 (d := 99) ?_
            rw [q_113_0 99, c_slotAt (d := 98) h]
            simp only [mS, mR, mF, Y_0 h, Option.bind_some, if_pos h1, ei, if_pos t0, if_pos li, if_neg ni, c_within, b2i_0, if_neg h2', Z_0_0 h, hp.y0, if_pos t1, c_at1 h P.2.2.1 P.1, if_pos k1, ej, if_pos lp, if_neg np, T_y h i hi, T_p h i hi, T_yp h i hi, if_pos tp, ct, if_true, setF_up, up1_n _ _ (show 79 + 4 * i ≠ 80 + 4 * i by omega), s1]
            rw [eF1]
          · have o2 : ∀ a, a ≠ 106 → a ≠ 107 → a ≠ 108 → up1 (up1 (up1 F1 106 (up1 (F 106) i 1)) 107 (up1 (F 107) i (F 100 (4 + 5 * j)))) 108 (up1 (F 108) i (woI (F 100 (4 + 5 * j)) (F 100 (4 + 5 * j + 1)) (F 100 (4 + 5 * j + 2)) (F 100 (4 + 5 * j + 3)))) a = F1 a := fun a e1 e2 e3 => by rw [up1_ne _ _ e3, up1_ne _ _ e2, up1_ne _ _ e1]
            refine IV_sl I hi (fun a ha hb => by rw [o2 a (by omega) (by omega) (by omega), o1 a (by omega) (by omega)]) (fun l hl _ => ?_) ?_
            · refine ⟨up1_n _ _ hl, up1_n _ _ hl, up1_n _ _ hl, ?_, fun j' _ => ?_⟩
              · rw [o2 109 (by decide) (by decide) (by decide), o1 109 (by omega) (by omega)]
              · rw [o2 110 (by decide) (by decide) (by decide), o1 110 (by omega) (by omega)]
            · have r6 : up1 (F 106) i 1 i = 1 := up1_s _ _ _
              have c80 : F1 (80 + 4 * i) = f := by rw [eF1, up1_ne _ _ (by omega), up1_s]
              have c79 : F1 (79 + 4 * i) = up1 (F (79 + 4 * i)) 0 1 := by rw [eF1, up1_s]
              unfold SL
              rw [o2 (79 + 4 * i) (by omega) (by omega) (by omega), o2 (80 + 4 * i) (by omega) (by omega) (by omega), c80, c79]
              show (1 : Int32) = up1 (F 106) i 1 i ∧ (0 ≤ up1 (F 106) i 1 i ∧ up1 (F 106) i 1 i ≤ 3) ∧ (up1 (F 106) i 1 i = 1 → up1 (F 107) i (F 100 (4 + 5 * j)) i = f 0 ∧ (0 ≤ up1 (F 107) i (F 100 (4 + 5 * j)) i ∧ up1 (F 107) i (F 100 (4 + 5 * j)) i < 6) ∧ up1 (F 108) i _ i = woI (f 0) (f 1) (f 2) (f 3)) ∧ (up1 (F 106) i 1 i = 2 → _) ∧ (up1 (F 106) i 1 i = 3 → _)
              rw [r6, up1_s, up1_s]
              have p4 := P.2.2.2.1 j hj
              have q0 : f 0 = F 100 (4 + 5 * j) := by rw [ef]; exact p4 0 (by decide)
              have q1 : f 1 = F 100 (4 + 5 * j + 1) := by rw [ef]; exact p4 1 (by decide)
              have q2 : f 2 = F 100 (4 + 5 * j + 2) := by rw [ef]; exact p4 2 (by decide)
              have q3 : f 3 = F 100 (4 + 5 * j + 3) := by rw [ef]; exact p4 3 (by decide)
              rw [q0, q1, q2, q3]
              exact ⟨rfl, by decide, fun _ => ⟨rfl, (P.2.2.2.2 j hj).1, rfl⟩, fun e => absurd e (by decide), fun e => absurd e (by decide)⟩
        · refine ⟨-1000000001, F, J, σ, F, J, σ, ?_, h, rfl, m_layNo h P.2.1 P.1 (fun c => ?_), I.up⟩
          · refine i_113 (d := 99) ?_
            rw [q_113_0 99, c_slotAt (d := 98) h]
            simp only [mS, mR, mF, Y_0 h, Option.bind_some, if_pos h1, ei, if_pos t0, if_pos li, if_neg ni, c_within, b2i_0, if_neg h2', Z_0_0 h, hp.y0, if_pos t1, c_at1 h P.2.2.1 P.1, if_neg k1, if_true]
            rfl
          · rcases c.2 with c | c | c | c
            · exact absurd c (by decide)
            · exact absurd c (by decide)
            · exact k1 c.2
            · exact absurd c.1 (by decide)
      · by_cases x2 : x = 2
        · subst x2
          by_cases k1 : 0 ≤ k ∧ k ≤ 3
          · obtain ⟨j, hj, rfl⟩ := three4 k1
            have ej : (nI j).toInt.toNat = j := by rw [nI_toInt (by omega), Int.toNat_natCast]
            have lj : 70 + 2 * j ≤ 999999 := by omega
            have nj : ¬ 70 + 2 * j = 999999 := by omega
            have ts : True ∧ 81 + 4 * i < 999999 := ⟨trivial, by omega⟩
            obtain ⟨zz, z1, z2, z3, z4, z5, z6⟩ := I.sh j hj
            by_cases a1 : F 103 j = -1
            · refine ⟨-1000000011, F, J, σ, F, J, σ, ?_, h, rfl, ?_, I.up⟩
              · refine i_113 (d := 99) ?_
                rw [q_113_0 99, c_slotAt (d := 98) h]
                simp only [mS, mR, mF, Y_0 h, Option.bind_some, if_pos h1, ei, if_pos t0, if_pos li, if_neg ni, c_within, b2i_0, if_neg h2', if_neg x1, c_sheetAt (d := 98) h, if_pos k1, ej, if_pos lj, if_neg nj, S_y h j hj, z2, if_pos a1, if_true]
              · refine i_220 (d := 99) ?_
                rw [m_lay0 h P.2.1 P.1, q_220_39 99, m_isSlot (d := 98)]
                simp only [Option.bind_some, b2i_0, mS, mR, Y_99 h, Z_99_4 h, rd_103 h hj, if_true]
                rw [if_neg (not_not_intro h1), if_neg (not_not_intro (Or.inr (Or.inr (Or.inr ⟨rfl, k1⟩)))), if_neg (by rw [a1]; decide)]
            · have a2 : 0 ≤ F 103 j := by rcases z5 with c | c | c; exact absurd c a1; rw [c]; decide; rw [c]; decide
              have ct := c_sheetTake (d := 99) (F := F) (J := J) (T_yr h i hi) (S_y h j hj) (T_c h i hi) (S_c h j hj) (T_yc h i hi) (S_yc h j hj) (by omega) (by omega) (by omega) (by omega)
              obtain ⟨F1, eF1⟩ : ∃ F1, F1 = up1 (up1 (up1 F (81 + 4 * i) (up1 (up1 (F (81 + 4 * i)) 1 (F (70 + 2 * j) 1)) 2 (F (70 + 2 * j) 2))) (82 + 4 * i) (va_cpy (F (71 + 2 * j)) (F (82 + 4 * i)) 0 0 24)) (79 + 4 * i) (up1 (F (79 + 4 * i)) 0 2) := ⟨_, rfl⟩
              have o1 : ∀ a, a ≠ 79 + 4 * i → a ≠ 81 + 4 * i → a ≠ 82 + 4 * i → F1 a = F a := fun a e1 e2 e3 => by rw [eF1, up1_ne _ _ e1, up1_ne _ _ e3, up1_ne _ _ e2]
              obtain ⟨F2, g1, g2, g3, g4, g5, g6, g7⟩ := m_layS (F := F1) (J := J) (z := zz) h (by rw [o1 100 (by omega) (by omega) (by omega)]; exact P.2.1) P.1 hi hj (by rw [o1 104 (by omega) (by omega) (by omega)]; exact z4) (by rw [o1 103 (by omega) (by omega) (by omega)]; exact a2)
              rw [o1 106 (by omega) (by omega) (by omega)] at g1
              refine ⟨F 106 i, F1, J, σ, F2, J, σ, ?_, h, o1 _ (by omega) (by omega) (by omega), g1, ?_⟩
              · refine i_113 (d := 99) ?_
                rw [q_113_0 99, c_slotAt (d := 98) h]
                simp only [mS, mR, mF, Y_0 h, Option.bind_some, if_pos h1, ei, if_pos t0, if_pos li, if_neg ni, c_within, b2i_0, if_neg h2', if_neg x1, c_sheetAt (d := 98) h, if_pos k1, ej, if_pos lj, if_neg nj, S_y h j hj, z2, if_neg a1, if_true, T_y h i hi, T_r h i hi, T_yr h i hi, if_pos ts, setF_up]
                rw [z2] at ct
                rw [ct]
                simp only [Option.bind_some, mS, mF, T_y h i hi, if_true, setF_up, up1_n _ _ (show 79 + 4 * i ≠ 81 + 4 * i by omega), up1_n _ _ (show 79 + 4 * i ≠ 82 + 4 * i by omega), s1]
                rw [eF1, z2]
              · refine IV_sl I hi (fun a ha hb => by rw [g2 a (by omega), o1 a (by omega) (by omega) (by omega)]) (fun l hl hl5 => ?_) ?_
                · obtain ⟨r6, r7, r8, r9⟩ := g3 l hl
                  rw [r6, r7, r8, r9, o1 106 (by omega) (by omega) (by omega), o1 107 (by omega) (by omega) (by omega), o1 108 (by omega) (by omega) (by omega), o1 109 (by omega) (by omega) (by omega)]
                  exact ⟨rfl, rfl, rfl, rfl, fun j' hj' => by rw [g4 _ (by omega), o1 110 (by omega) (by omega) (by omega)]⟩
                · unfold SL
                  rw [g5, g6, g2 (79 + 4 * i) (by omega), g2 (81 + 4 * i) (by omega), g2 (82 + 4 * i) (by omega)]
                  refine ⟨by rw [eF1, up1_s]; rfl, by decide, fun e => absurd e (by decide), fun _ => ⟨zz, z1, ?_, rfl, fun l hl => ?_⟩, fun e => absurd e (by decide)⟩
                  · rw [eF1, up1_ne _ _ (by omega), up1_ne _ _ (by omega), up1_s, up1_s]; exact z3
                  · rw [g7 l hl, o1 105 (by omega) (by omega) (by omega), eF1, up1_ne _ _ (by omega), up1_s]
                    unfold va_cpy
                    rw [if_pos (by omega), show 0 + (l - 0) = l by omega]
                    exact (z6 l hl).1
          · refine ⟨-1000000001, F, J, σ, F, J, σ, ?_, h, rfl, m_layNo h P.2.1 P.1 (fun c => ?_), I.up⟩
            · refine i_113 (d := 99) ?_
              rw [q_113_0 99, c_slotAt (d := 98) h]
              simp only [mS, mR, mF, Y_0 h, Option.bind_some, if_pos h1, ei, if_pos t0, if_pos li, if_neg ni, c_within, b2i_0, if_neg h2', if_neg x1, c_sheetAt (d := 98) h, if_neg k1, if_true]
              rfl
            · rcases c.2 with c | c | c | c
              · exact absurd c (by decide)
              · exact absurd c (by decide)
              · exact absurd c.1 (by decide)
              · exact k1 c.2
        · obtain ⟨f, F1, eF1, ec, e79⟩ : ∃ f F1, F1 = up1 F (79 + 4 * i) f ∧ Rn 100 113 (0, [.ref 0, .int (nI i), .int x, .int k, un, un], [], (F, J, σ)) = some (some (.int (F 106 i)), (F1, J, σ)) ∧ f 0 = x ∧ (x = 3 → f 3 = k) := by
            by_cases x3 : x = 3
            · subst x3
              refine ⟨up1 (up1 (F (79 + 4 * i)) 3 k) 0 3, _, rfl, ?_, rfl, fun _ => rfl⟩
              rw [q_113_0 99, c_slotAt (d := 98) h]
              simp only [mS, mR, mF, Y_0 h, Option.bind_some, if_pos h1, ei, if_pos t0, if_pos li, if_neg ni, c_within, b2i_0, if_neg h2', if_neg x1, if_neg x2, if_true, T_y h i hi, setF_up, up1_s, up1_up1, up1_n _ _ (show 0 ≠ 3 by decide), s1]
            · refine ⟨up1 (F (79 + 4 * i)) 0 x, _, rfl, ?_, rfl, fun e => absurd e x3⟩
              rw [q_113_0 99, c_slotAt (d := 98) h]
              simp only [mS, mR, mF, Y_0 h, Option.bind_some, if_pos h1, ei, if_pos t0, if_pos li, if_neg ni, c_within, b2i_0, if_neg h2', if_neg x1, if_neg x2, if_neg x3, if_true, T_y h i hi, setF_up, s1]
          have o1 : ∀ a, a ≠ 79 + 4 * i → F1 a = F a := fun a e1 => by rw [eF1, up1_ne _ _ e1]
          have hx : x = 0 ∨ x = 3 := by
            obtain ⟨u, hu, rfl⟩ := three4 h2
            match u, hu with
            | 0, _ => exact Or.inl rfl
            | 1, _ => exact absurd rfl x1
            | 2, _ => exact absurd rfl x2
            | 3, _ => exact Or.inr rfl
          have hK : laK n x k := hx.elim Or.inl (fun e => Or.inr (Or.inl e))
          have mm := m_layYes (F := F1) (J := J) h (by rw [o1 100 (by omega)]; exact P.2.1) P.1 hi hK x2 (m_lay74 (n := n) (J := J) (F := F1) h hi x1 x2)
          rw [o1 106 (by omega), o1 107 (by omega), o1 108 (by omega)] at mm
          refine ⟨F 106 i, F1, J, σ, _, J, σ, i_113 (d := 99) ec, h, o1 _ (by omega), i_220 (d := 99) mm, ?_⟩
          have o2 : ∀ a, a ≠ 106 → a ≠ 107 → a ≠ 108 → up1 (up1 (up1 F1 106 (up1 (F 106) i x)) 107 (up1 (F 107) i k)) 108 (up1 (F 108) i 0) a = F1 a := fun a e1 e2 e3 => by rw [up1_ne _ _ e3, up1_ne _ _ e2, up1_ne _ _ e1]
          refine IV_sl I hi (fun a ha hb => by rw [o2 a (by omega) (by omega) (by omega), o1 a (by omega)]) (fun l hl _ => ?_) ?_
          · refine ⟨up1_n _ _ hl, up1_n _ _ hl, up1_n _ _ hl, ?_, fun j' _ => ?_⟩
            · rw [o2 109 (by decide) (by decide) (by decide), o1 109 (by omega)]
            · rw [o2 110 (by decide) (by decide) (by decide), o1 110 (by omega)]
          · unfold SL
            have r6 : up1 (up1 (up1 F1 106 (up1 (F 106) i x)) 107 (up1 (F 107) i k)) 108 (up1 (F 108) i 0) 106 i = x := up1_s _ _ _
            have r7 : up1 (up1 (up1 F1 106 (up1 (F 106) i x)) 107 (up1 (F 107) i k)) 108 (up1 (F 108) i 0) 107 i = k := up1_s _ _ _
            rw [r6, r7, o2 (79 + 4 * i) (by omega) (by omega) (by omega), eF1, up1_s]
            exact ⟨e79.1, h2, fun e => absurd e x1, fun e => absurd e x2, fun e => e79.2 e⟩
    · refine ⟨-1000000001, F, J, σ, F, J, σ, ?_, h, rfl, m_layNo h P.2.1 P.1 (fun c => h2 ?_), I.up⟩
      · refine i_113 (d := 99) ?_
        rw [q_113_0 99, c_slotAt (d := 98) h]
        simp only [mS, mR, mF, Y_0 h, Option.bind_some, if_pos h1, ei, if_pos t0, if_pos li, if_neg ni, c_within, b2i_0]
        rw [if_pos h2]
      · rcases c.2 with c | c | c | c
        · rw [c]; decide
        · rw [c]; decide
        · rw [c.1]; decide
        · rw [c.1]; decide
  · refine ⟨-1000000001, F, J, σ, F, J, σ, ?_, h, rfl, m_layNo h P.2.1 P.1 (fun c => h1 c.1), I.up⟩
    refine i_113 (d := 99) ?_
    rw [q_113_0 99, c_slotAt (d := 98) h]
    simp only [mS, Y_0 h, Option.bind_some, if_neg h1, if_pos t0]
    rfl
end OPK
