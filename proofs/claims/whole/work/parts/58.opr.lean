/-! TOLD, FINE. -/
section OPR
variable {L d : Nat} {F F' : Nat → Nat → Int32} {J : Nat → Nat → Int64} {σ : aSg} {μ : aMem} {s s' xs : Nat → Int32} {A ln wt W : Nat → Nat}
theorem op_told : OpI (Inv L xs) 83 158 2 := op2 fun q F J σ x w hq I => by
  have h := I.lay
  have hp := PL_1 h
  obtain ⟨n, m, t, P, B, T, z⟩ := I.rw
  have n10 := P.1
  have R := RK_of P B T
  have t1 : True ∧ 1 < 999999 := ⟨trivial, by decide⟩
  have t5 : True ∧ 55 < 999999 := ⟨trivial, by decide⟩
  have t9 : True ∧ 99 < 999999 := ⟨trivial, by decide⟩
  by_cases h1 : 0 ≤ x ∧ x < nI n
  · have h1' := h1
    obtain ⟨k, hk, rfl⟩ := (nI_ex (by omega)).mp h1
    have ek : (nI k).toInt.toNat = k := by rw [nI_toInt (by omega), Int.toNat_natCast]
    have lp : 1 + 8 + k ≤ 999999 := by omega
    have np : ¬ 1 + 8 + k = 999999 := by omega
    have tk : True ∧ 1 + 8 + k < 999999 := ⟨trivial, by omega⟩
    have f : ∀ j, j < 5 → F (1 + 8 + k) j = F 100 (4 + 5 * k + j) := fun j hj => P.2.2.2.1 k hk j hj
    have of : ∀ (G : Nat → Nat → Int32) (j : Nat), j < 5 → cI 99 139 [.ref 99, .int (nI k), .int (nI j)] (G, J, σ) = some (G 100 (4 + 5 * k + j), (G, J, σ)) := fun G j hj => m_of h (by omega) hj
    have cpre : ∀ r, Rn 100 83 (0, [.ref 0, .int (nI k), .int w, un], [], (F, J, σ)) = some r ↔ (if w = 0 then some (some (.int (F 100 (4 + 5 * k))), (F, J, σ)) else if w = 1 then some (some (.int (F 100 (4 + 5 * k + 1))), (F, J, σ)) else if w = 2 then some (some (.int (F 100 (4 + 5 * k + 2))), (F, J, σ)) else if w = 3 then some (some (.int (F 100 (4 + 5 * k + 3))), (F, J, σ)) else if w = 4 then some (some (.int (F 100 (4 + 5 * k + 4))), (F, J, σ)) else if w = 5 then ((cI 99 42 [.ref 55, .ref 1, .ref (1 + 8 + k)] (F, J, σ)).bind fun p => some (some (.int p.1), p.2)) else if w = 6 then ((cI 99 44 [.ref 55, .ref 1, .ref (1 + 8 + k)] (F, J, σ)).bind fun p => some (some (.int p.1), p.2)) else if w = 7 then some (some (.int (woI (F 100 (4 + 5 * k)) (F 100 (4 + 5 * k + 1)) (F 100 (4 + 5 * k + 2)) (F 100 (4 + 5 * k + 3)))), (F, J, σ)) else if w = 8 then ((cI 99 48 [.ref 55, .ref 1, .int (nI k)] (F, J, σ)).bind fun p => some (some (.int p.1), p.2)) else if w = 9 then ((cI 99 49 [.ref 55, .ref 1, .int (nI k)] (F, J, σ)).bind fun p => some (some (.int p.1), p.2)) else if w = 10 then ((cI 99 51 [.ref 55, .ref 1, .int (nI k)] (F, J, σ)).bind fun p => some (some (.int p.1), p.2)) else some (some (.int (-1000000001)), (F, J, σ))) = some r := by
      intro r
      have f0 : F (1 + 8 + k) 0 = F 100 (4 + 5 * k) := f 0 (by decide)
      rw [q_83_0 99]
      simp only [mS, mR, mF, Y_0 h, Z_0_0 h, Z_0_4 h, Y_55 h, hp.y0, if_true, if_pos t1, if_pos t5, c_at1 h P.2.2.1 P.1, Option.bind_some, if_pos h1', ek, if_pos lp, if_neg np, hp.yk (show k < 10 by omega), f0, f 1 (by decide), f 2 (by decide), f 3 (by decide), f 4 (by decide), if_pos tk, c_worth (hp.yk (show k < 10 by omega))]
    have mpre : ∀ (G : Nat → Nat → Int32), G 100 = F 100 → ∀ r, Rn 100 158 (0, [.ref 99, .int (nI k), .int w], [], (G, J, σ)) = some r ↔ (if w = 0 then some (some (.int (F 100 (4 + 5 * k))), (G, J, σ)) else if w = 1 then some (some (.int (F 100 (4 + 5 * k + 1))), (G, J, σ)) else if w = 2 then some (some (.int (F 100 (4 + 5 * k + 2))), (G, J, σ)) else if w = 3 then some (some (.int (F 100 (4 + 5 * k + 3))), (G, J, σ)) else if w = 4 then some (some (.int (F 100 (4 + 5 * k + 4))), (G, J, σ)) else if w = 5 then ((cI 99 149 [.ref 99, .int (nI k)] (G, J, σ)).bind fun p => some (some (.int p.1), p.2)) else if w = 6 then ((cI 99 150 [.ref 99, .int (nI k)] (G, J, σ)).bind fun p => some (some (.int p.1), p.2)) else if w = 7 then some (some (.int (woI (F 100 (4 + 5 * k)) (F 100 (4 + 5 * k + 1)) (F 100 (4 + 5 * k + 2)) (F 100 (4 + 5 * k + 3)))), (G, J, σ)) else if w = 8 ∨ w = 9 ∨ w = 10 then ((cV 99 156 [.ref 99] (G, J, σ)).bind fun p20 => if w = 8 then (if (mS p20 99).1 = 9 then ((rdI p20 (mR p20 99 14) (nI k)).bind fun v24 => some (some (.int v24), p20)) else none) else (if w = 9 then (if (mS p20 99).1 = 9 then ((rdI p20 (mR p20 99 14) (nI k)).bind fun v27 => (rdI p20 (mR p20 99 12) (nI k)).bind fun v28 => some (some (.int (v27 + v28)), p20)) else none) else (if (mS p20 99).1 = 9 ∧ 99 < 999999 then ((cI 99 157 [.ref 99, .int (nI k)] p20).bind fun p29 => some (some (.int p29.1), p29.2)) else none))) else some (some (.int (-1000000001)), (G, J, σ))) = some r := by
      intro G hG r
      rw [q_158_0 99, show (mS (G, J, σ) 99).1 = 9 from congrArg Prod.fst (Y_99 h), if_pos ⟨rfl, by decide⟩, m_isPart (d := 98) h (by rw [hG]; exact P.2.1) P.1]
      simp only [Option.bind_some, b2i_0, if_neg (not_not_intro h1')]
      have s9 : ((mS (G, J, σ) 99).1 = 9 ∧ 99 < 999999) := ⟨congrArg Prod.fst (Y_99 h), by decide⟩
      by_cases w0 : w = 0
      · subst w0
        rw [if_pos rfl, if_pos rfl, if_pos s9, show cI 99 139 [.ref 99, .int (nI k), .int 0] (G, J, σ) = _ from of G 0 (by decide), hG]
        rfl
      · rw [if_neg w0, if_neg w0]
        by_cases w1 : w = 1
        · subst w1
          rw [if_pos rfl, if_pos rfl, if_pos s9, show cI 99 139 [.ref 99, .int (nI k), .int 1] (G, J, σ) = _ from of G 1 (by decide), hG]
          rfl
        · rw [if_neg w1, if_neg w1]
          by_cases w2 : w = 2
          · subst w2
            rw [if_pos rfl, if_pos rfl, if_pos s9, show cI 99 139 [.ref 99, .int (nI k), .int 2] (G, J, σ) = _ from of G 2 (by decide), hG]
            rfl
          · rw [if_neg w2, if_neg w2]
            by_cases w3 : w = 3
            · subst w3
              rw [if_pos rfl, if_pos rfl, if_pos s9, show cI 99 139 [.ref 99, .int (nI k), .int 3] (G, J, σ) = _ from of G 3 (by decide), hG]
              rfl
            · rw [if_neg w3, if_neg w3]
              by_cases w4 : w = 4
              · subst w4
                rw [if_pos rfl, if_pos rfl, if_pos s9, show cI 99 139 [.ref 99, .int (nI k), .int 4] (G, J, σ) = _ from of G 4 (by decide), hG]
                rfl
              · rw [if_neg w4, if_neg w4, if_pos s9, if_pos s9, if_pos s9, m_worth (d := 98) h (show k < 10 by omega), hG]
                by_cases w5 : w = 5
                · rw [if_pos w5, if_pos w5]
                · rw [if_neg w5, if_neg w5]
                  by_cases w6 : w = 6
                  · rw [if_pos w6, if_pos w6]
                  · rw [if_neg w6, if_neg w6]
                    by_cases w7 : w = 7
                    · rw [if_pos w7, if_pos w7]
                      rfl
                    · rw [if_neg w7, if_neg w7]
                      by_cases w8 : w = 8
                      · rw [if_pos w8, if_pos (Or.inl w8), if_pos s9]
                      · rw [if_neg w8]
                        by_cases w9 : w = 9
                        · rw [if_pos w9, if_pos (Or.inr (Or.inl w9)), if_pos s9]
                        · rw [if_neg w9]
                          by_cases w10 : w = 10
                          · rw [if_pos w10, if_pos (Or.inr (Or.inr w10)), if_pos s9]
                          · rw [if_neg w10, if_neg (fun c => by rcases c with c | c | c; exact w8 c; exact w9 c; exact w10 c)]
    -- the ones that only read
    have ro : ∀ r, Rn 100 83 (0, [.ref 0, .int (nI k), .int w, un], [], (F, J, σ)) = some (some (.int r), (F, J, σ)) → Rn 100 158 (0, [.ref 99, .int (nI k), .int w], [], (F, J, σ)) = some (some (.int r), (F, J, σ)) → OpR L xs q 83 158 [.int (nI k), .int w] F J σ := fun r e1 e2 => ⟨r, F, J, σ, F, J, σ, i_83 (d := 99) e1, h, rfl, i_158 (d := 99) e2, I.up⟩
    by_cases w0 : w = 0
    · exact ro (F 100 (4 + 5 * k)) ((cpre _).mpr (by rw [if_pos w0])) ((mpre F rfl _).mpr (by rw [if_pos w0]))
    by_cases w1 : w = 1
    · exact ro (F 100 (4 + 5 * k + 1)) ((cpre _).mpr (by rw [if_neg w0, if_pos w1])) ((mpre F rfl _).mpr (by rw [if_neg w0, if_pos w1]))
    by_cases w2 : w = 2
    · exact ro (F 100 (4 + 5 * k + 2)) ((cpre _).mpr (by rw [if_neg w0, if_neg w1, if_pos w2])) ((mpre F rfl _).mpr (by rw [if_neg w0, if_neg w1, if_pos w2]))
    by_cases w3 : w = 3
    · exact ro (F 100 (4 + 5 * k + 3)) ((cpre _).mpr (by rw [if_neg w0, if_neg w1, if_neg w2, if_pos w3])) ((mpre F rfl _).mpr (by rw [if_neg w0, if_neg w1, if_neg w2, if_pos w3]))
    by_cases w4 : w = 4
    · exact ro (F 100 (4 + 5 * k + 4)) ((cpre _).mpr (by rw [if_neg w0, if_neg w1, if_neg w2, if_neg w3, if_pos w4])) ((mpre F rfl _).mpr (by rw [if_neg w0, if_neg w1, if_neg w2, if_neg w3, if_pos w4]))
    by_cases w5 : w = 5
    · obtain ⟨F1, a1, a2⟩ := c_says (d := 96) (J := J) h hp I.ta.1 P B T hk (by decide)
      have o100 := a2 100 (by decide)
      obtain ⟨F2, b1, b2⟩ := m_says (d := 97) (F := F1) (J := J) h (by rw [o100]; exact R) hk
      rw [o100] at b1
      refine ⟨saS (F 100) m t k, F1, J, σ, F2, J, σ, i_83 (d := 99) ((cpre _).mpr ?_), h, a2 _ (by decide), i_158 (d := 99) ((mpre F1 o100 _).mpr ?_), IV_scr I (fun b hb => by rw [b2 b (by omega) (by omega), a2 b (by omega)])⟩
      · rw [if_neg w0, if_neg w1, if_neg w2, if_neg w3, if_neg w4, if_pos w5, a1]; rfl
      · rw [if_neg w0, if_neg w1, if_neg w2, if_neg w3, if_neg w4, if_pos w5, b1]; rfl
    by_cases w6 : w = 6
    · obtain ⟨F1, a1, a2⟩ := c_waits (d := 97) (J := J) h hp I.ta.1 P B T hk
      have o100 := a2 100 (by decide)
      obtain ⟨F2, b1, b2⟩ := m_waits (d := 97) (F := F1) (J := J) h (by rw [o100]; exact R) hk
      rw [o100] at b1
      refine ⟨waS (F 100) t k, F1, J, σ, F2, J, σ, i_83 (d := 99) ((cpre _).mpr ?_), h, a2 _ (by decide), i_158 (d := 99) ((mpre F1 o100 _).mpr ?_), IV_scr I (fun b hb => by rw [b2 b (by omega) (by omega), a2 b (by omega)])⟩
      · rw [if_neg w0, if_neg w1, if_neg w2, if_neg w3, if_neg w4, if_neg w5, if_pos w6, a1]; rfl
      · rw [if_neg w0, if_neg w1, if_neg w2, if_neg w3, if_neg w4, if_neg w5, if_pos w6, b1]; rfl
    by_cases w7 : w = 7
    · exact ro (woI (F 100 (4 + 5 * k)) (F 100 (4 + 5 * k + 1)) (F 100 (4 + 5 * k + 2)) (F 100 (4 + 5 * k + 3))) ((cpre _).mpr (by rw [if_neg w0, if_neg w1, if_neg w2, if_neg w3, if_neg w4, if_neg w5, if_neg w6, if_pos w7])) ((mpre F rfl _).mpr (by rw [if_neg w0, if_neg w1, if_neg w2, if_neg w3, if_neg w4, if_neg w5, if_neg w6, if_pos w7]))
    obtain ⟨F1, a1, a2, a3⟩ := c_endSaid (d := 94) (J := J) h hp (by decide) I.ta.1 P B T
    have P1 : PR F1 1 (F 100) n := PR_cg (fun a h1 h2 => a2 a (by omega)) (fun j _ => rfl) P
    obtain ⟨F2, W, b1, b2, b3, b4⟩ := c_ways (d := 98) (J := J) h hp (by decide) R (LW_s R) P1 (fun q hq => (a3 q hq).1)
    have hw := en_W b3 (n - k) k (by omega) hk
    have hE := teN_le (A := aN (F 100)) (LW_s R)
    by_cases w8 : w = 8
    · have o100 := a2 100 (by omega)
      obtain ⟨F3, d1, d2, d3⟩ := m_latest (d := 93) (F := F1) (J := J) h (by rw [o100]; exact R) (by rw [o100]; exact b3)
      rw [o100] at d3
      refine ⟨nI (bgN (aN (F 100)) (sN (F 100) m t) (wN (F 100) t) k), F1, J, σ, F3, J, σ, i_83 (d := 99) ((cpre _).mpr ?_), h, a2 _ (by omega), i_158 (d := 99) ((mpre F1 o100 _).mpr ?_), IV_scr I (fun b hb => by rw [d2 b (by omega), a2 b (by omega)])⟩
      · have c48 : cI 99 48 [.ref 55, .ref 1, .int (nI k)] (F, J, σ) = some (nI (bgN (aN (F 100)) (sN (F 100) m t) (wN (F 100) t) k), (F1, J, σ)) := by
          refine i_48 (d := 98) ?_
          rw [q_48_0 98]
          simp only [mS, mR, Y_55 h, if_pos t5, a1, Option.bind_some, if_true, Z_55_2 h]
          rw [rd_k (Y_58 h) (by omega) (by decide), (a3 k hk).2.1]
          rfl
        rw [if_neg w0, if_neg w1, if_neg w2, if_neg w3, if_neg w4, if_neg w5, if_neg w6, if_neg w7, if_pos w8, c48]; rfl
      · rw [if_neg w0, if_neg w1, if_neg w2, if_neg w3, if_neg w4, if_neg w5, if_neg w6, if_neg w7, if_pos (Or.inl w8), d1]
        simp only [Option.bind_some, mS, mR, Y_99 h, Z_99_14 h, if_true, if_pos w8]
        rw [rd_k (Y_113 h) (by omega) (by decide), (d3 k hk).2.1]
        rfl
    by_cases w9 : w = 9
    · have o100 := a2 100 (by omega)
      obtain ⟨F3, d1, d2, d3⟩ := m_latest (d := 93) (F := F1) (J := J) h (by rw [o100]; exact R) (by rw [o100]; exact b3)
      rw [o100] at d3
      refine ⟨nI (enN (aN (F 100)) (sN (F 100) m t) (wN (F 100) t) k), F1, J, σ, F3, J, σ, i_83 (d := 99) ((cpre _).mpr ?_), h, a2 _ (by omega), i_158 (d := 99) ((mpre F1 o100 _).mpr ?_), IV_scr I (fun b hb => by rw [d2 b (by omega), a2 b (by omega)])⟩
      · have c49 : cI 99 49 [.ref 55, .ref 1, .int (nI k)] (F, J, σ) = some (nI (enN (aN (F 100)) (sN (F 100) m t) (wN (F 100) t) k), (F1, J, σ)) := by
          refine i_49 (d := 98) ?_
          rw [q_49_0 98]
          simp only [mS, mR, Y_55 h, if_pos t5, a1, Option.bind_some, if_true, Z_55_3 h]
          rw [rd_k (Y_59 h) (by omega) (by decide), (a3 k hk).2.2]
          rfl
        rw [if_neg w0, if_neg w1, if_neg w2, if_neg w3, if_neg w4, if_neg w5, if_neg w6, if_neg w7, if_neg w8, if_pos w9, c49]; rfl
      · rw [if_neg w0, if_neg w1, if_neg w2, if_neg w3, if_neg w4, if_neg w5, if_neg w6, if_neg w7, if_pos (Or.inr (Or.inl w9)), d1]
        simp only [Option.bind_some, mS, mR, Y_99 h, Z_99_14 h, Z_99_12 h, if_true, if_neg w8, if_pos w9]
        rw [rd_k (Y_113 h) (by omega) (by decide), (d3 k hk).2.1, Option.bind_some, rd_k (Y_111 h) (by omega) (by decide), (d3 k hk).1, Option.bind_some, nI_add]
        rfl
    by_cases w10 : w = 10
    · have o2 : ∀ b, b < 56 ∨ 62 < b → F2 b = F b := fun b hb => by rw [b2 b (by omega), a2 b hb]
      have o100 := o2 100 (by omega)
      obtain ⟨F3, d1, d2, d3⟩ := m_latest (d := 93) (F := F2) (J := J) h (by rw [o100]; exact R) (by rw [o100]; exact b3)
      rw [o100] at d3
      have ms := m_slack (d := 98) (m := m) (t := t) (J := J) h n10 (LW_s R) b3 hk (d3 k hk).1 (d3 k hk).2.1 (d3 k hk).2.2
      obtain ⟨E, eE⟩ : ∃ E, E = teN (aN (F 100)) (sN (F 100) m t) (wN (F 100) t) n := ⟨_, rfl⟩
      rw [← eE] at ms hw hE a1
      refine ⟨nI (E - W k - enN (aN (F 100)) (sN (F 100) m t) (wN (F 100) t) k), F2, J, σ, F3, J, σ, i_83 (d := 99) ((cpre _).mpr ?_), h, o2 _ (by omega), i_158 (d := 99) ((mpre F2 o100 _).mpr ?_), IV_scr I (fun b hb => by rw [d2 b (by omega), o2 b (by omega)])⟩
      · have c51 : cI 99 51 [.ref 55, .ref 1, .int (nI k)] (F, J, σ) = some (nI (E - W k - enN (aN (F 100)) (sN (F 100) m t) (wN (F 100) t) k), (F2, J, σ)) := by
          refine i_51 (d := 98) ?_
          rw [q_51_0 98]
          simp only [mS, mR, Y_55 h, if_pos t5, a1, b1, Option.bind_some, if_true, Z_55_3 h, Z_55_4 h]
          rw [rd_k (Y_59 h) (by omega) (by decide), b2 59 (by decide), (a3 k hk).2.2, Option.bind_some, rd_k (Y_60 h) (by omega) (by decide), b4 k hk, Option.bind_some, sub3 (by omega) (by omega), show E - enN (aN (F 100)) (sN (F 100) m t) (wN (F 100) t) k - W k = E - W k - enN (aN (F 100)) (sN (F 100) m t) (wN (F 100) t) k by omega]
        rw [if_neg w0, if_neg w1, if_neg w2, if_neg w3, if_neg w4, if_neg w5, if_neg w6, if_neg w7, if_neg w8, if_neg w9, if_pos w10, c51]; rfl
      · rw [if_neg w0, if_neg w1, if_neg w2, if_neg w3, if_neg w4, if_neg w5, if_neg w6, if_neg w7, if_pos (Or.inr (Or.inr w10)), d1]
        simp only [Option.bind_some, mS, mR, Y_99 h, if_neg w8, if_neg w9, if_pos t9, ms]
    · exact ro (-1000000001) ((cpre _).mpr (by rw [if_neg w0, if_neg w1, if_neg w2, if_neg w3, if_neg w4, if_neg w5, if_neg w6, if_neg w7, if_neg w8, if_neg w9, if_neg w10])) ((mpre F rfl _).mpr (by rw [if_neg w0, if_neg w1, if_neg w2, if_neg w3, if_neg w4, if_neg w5, if_neg w6, if_neg w7, if_neg (fun c => by rcases c with c | c | c; exact w8 c; exact w9 c; exact w10 c)]))
  · refine ⟨-1000000001, F, J, σ, F, J, σ, ?_, h, rfl, ?_, I.up⟩
    · refine i_83 (d := 99) ?_
      rw [q_83_0 99]
      simp only [mS, mR, Y_0 h, Z_0_0 h, hp.y0, if_true, if_pos t1, c_at1 h P.2.2.1 P.1, Option.bind_some, if_neg h1]
      rfl
    · refine i_158 (d := 99) ?_
      rw [q_158_0 99, show (mS (F, J, σ) 99).1 = 9 from congrArg Prod.fst (Y_99 h), if_pos ⟨rfl, by decide⟩, m_isPart (d := 98) h P.2.1 P.1]
      simp only [Option.bind_some, b2i_0]
      rw [if_pos h1]
theorem mxz (v : Int32) : (if (0 : Int32) ≤ v then v else 0) = (if (0 : Int32) < v then v else 0) := by
  by_cases c : (0 : Int32) < v
  · rw [if_pos c, if_pos (Int32.le_of_lt c)]
  · rw [if_neg c]
    by_cases c2 : (0 : Int32) ≤ v
    · rw [if_pos c2]; exact Int32.le_antisymm (Int32.not_lt.mp c) c2
    · rw [if_neg c2]
theorem op_fine : OpI (Inv L xs) 102 189 1 := op1 fun q F J σ x hq I => by
  have h := I.lay
  have hp := PL_1 h
  obtain ⟨n, m, t, P, B, T, z⟩ := I.rw
  have n10 := P.1
  have t14 := T.1
  have R := RK_of P B T
  have t1 : True ∧ 1 < 999999 := ⟨trivial, by decide⟩
  have t5 : True ∧ 55 < 999999 := ⟨trivial, by decide⟩
  have t9 : True ∧ 99 < 999999 := ⟨trivial, by decide⟩
  by_cases h1 : 0 ≤ x ∧ x ≤ 9999
  · obtain ⟨F1, a1, a2, a3⟩ := c_endSaid (d := 94) (J := J) h hp (by decide) I.ta.1 P B T
    obtain ⟨E, eE⟩ : ∃ E, E = nI (teN (aN (F 100)) (sN (F 100) m t) (wN (F 100) t) n) := ⟨_, rfl⟩
    rw [← eE] at a1
    have T1 : TR F1 σ 1 (F 100) t := TR_cg (fun a h1 h2 => a2 a (by omega)) (fun a h1 h2 => a2 a (by omega)) (fun j _ => rfl) T
    have ct := c_textFor (n := n) (m := m) (d := 97) (F := F1) (J := J) hp I.ta.1 T1 (show 2 < 3 by decide)
    have cpre : ∀ r : Int32 × aMem, (((cR 98 16 [.ref 1, .int 2] (F1, J, σ)).bind fun p3 => if p3.1 ≤ 999999 then (if p3.1 = 999999 then (some (some (Value.int (if 0 < (E - x) then (E - x) else 0)), p3.2)) else (if (mS p3.2 55).1 = 4 ∧ 55 < 999999 then ((cI 98 39 [.ref 55, .ref p3.1, .int E, .int x, .int 0] p3.2).bind fun p7 => some (some (Value.int p7.1), p7.2)) else none)) else none) : Option aRes) = some (some (Value.int r.1), r.2) → cI 100 102 [.ref 0, .int x] (F, J, σ) = some r := by
      intro r hr
      have c54 : cI 99 54 [.ref 55, .ref 1, .int x] (F, J, σ) = some r := by
        refine i_54 (d := 98) (v := r.1) ?_
        rw [q_54_0 98]
        simp only [mS, Y_55 h, if_pos t5, a1, Option.bind_some, hp.y0, if_pos t1] at hr ⊢
        exact hr
      refine i_102 (d := 99) (v := r.1) ?_
      rw [q_102_0 99, c_within]
      simp only [Option.bind_some, b2i_0, mS, mR, Y_0 h, Z_0_0 h, Z_0_4 h, Y_55 h, if_true, if_pos t5, c54]
      rw [if_neg (not_not_intro h1)]
    have o100 := a2 100 (by omega)
    rcases cnt_in (s := F 100) (key := 2) t t14 with c | ⟨i, hi, c, ck⟩
    · have hn : cntS (F 100) t 2 < 0 := by rw [c]; decide
      have hn' : cntS (F 100) t (nI 2) < 0 := hn
      obtain ⟨F2, b1, b2, -⟩ := m_endSaid (d := 94) (F := F1) (J := J) h (by rw [o100]; exact R)
      rw [o100, ← eE] at b1
      have p100 : F2 100 = F 100 := by rw [b2 100 (by omega), o100]
      refine ⟨if 0 < (E - x) then (E - x) else 0, F1, J, σ, F2, J, σ, cpre (_, _) ?_, h, a2 _ (by omega), ?_, IV_scr I (fun b hb => by rw [b2 b (by omega), a2 b (by omega)])⟩
      · rw [show cR 98 16 [.ref 1, .int 2] (F1, J, σ) = _ from ct]
        simp only [Option.bind_some, if_pos hn']
        rfl
      · refine i_189 (d := 99) ?_
        rw [q_189_0 99, m_in_9999]
        have cc := m_counts (d := 98) (F := F2) (J := J) h (by rw [p100]; exact T.2.1) t14 2
        rw [p100] at cc
        simp only [Option.bind_some, b2i_0, mS, Y_99 h, if_pos t9, b1, cc, m_greater]
        rw [if_neg (not_not_intro h1), if_neg (Int32.not_le.mpr hn), mxz]
    · have hn : ¬ cntS (F 100) t 2 < 0 := by rw [c]; exact nlt (b := 0) (by omega) (by omega)
      have hn' : ¬ cntS (F 100) t (nI 2) < 0 := hn
      have ei : (cntS (F 100) t (nI 2)).toInt.toNat = i := by rw [show cntS (F 100) t (nI 2) = nI i from c, nI_toInt (by omega), Int.toNat_natCast]
      obtain ⟨K, F1', W', e1, e2⟩ := c_value (d := 97) (J := J) h (T1.2.2.2.1 i hi) E x 0
      obtain ⟨_, _, ⟨x1, x2, x3⟩, _⟩ := T.2.2.2.1 i hi
      have o1 : ∀ b, b < 56 ∨ 62 < b → F1' b = F b := fun b hb => by rw [e2 b (by omega), a2 b hb]
      have q100 := o1 100 (by omega)
      obtain ⟨F2, b1, b2, -⟩ := m_endSaid (d := 94) (F := F1') (J := J) h (by rw [q100]; exact R)
      rw [q100, ← eE] at b1
      have p100 : F2 100 = F 100 := by rw [b2 100 (by omega), q100]
      obtain ⟨G, eG⟩ : ∃ G, G = up1 F2 118 (up1 (up1 (F2 118) 101 E) 100 x) := ⟨_, rfl⟩
      have g100 : G 100 = F 100 := by rw [eG, up1_ne _ _ (by decide), p100]
      have g118 : G 118 = up1 (up1 (F2 118) 101 E) 100 x := by rw [eG, up1_s]
      obtain ⟨F3, d1, d2⟩ := m_worked (d := 98) (F := G) (J := J) h (show i < 14 by omega) E x 0 (by rw [g100]; exact W') (by rw [g100, ck, g118]; exact nm2 rfl rfl)
      rw [g100] at d1
      refine ⟨vaS (F 100) (114 + 200 * i) K E x 0, F1', J, σ, F3, J, σ, cpre (_, _) ?_, h, o1 _ (by omega), ?_, IV_scr I (fun b hb => by rw [d2 b (by omega), eG, up1_ne _ _ (by omega), b2 b (by omega), o1 b (by omega)])⟩
      · rw [show cR 98 16 [.ref 1, .int 2] (F1, J, σ) = _ from ct]
        simp only [Option.bind_some, if_neg hn', ei, mS, Y_55 h, if_pos t5, e1]
        rw [if_pos (by omega), if_neg (by omega)]
      · refine i_189 (d := 99) ?_
        rw [q_189_0 99, m_in_9999]
        have cc := m_counts (d := 98) (F := F2) (J := J) h (by rw [p100]; exact T.2.1) t14 2
        rw [p100] at cc
        have tA : True ∧ inb 101 128 := ⟨trivial, by decide⟩
        have tB' : True ∧ inb 100 128 := ⟨trivial, by decide⟩
        simp only [Option.bind_some, b2i_0, mS, mR, Y_99 h, if_pos t9, b1, cc, if_true, Z_99_31 h, Y_118 h, if_pos tA, if_pos tB', setF_up, up1_s, up1_up1, show ix 101 = 101 from rfl, show ix 100 = 100 from rfl]
        rw [if_neg (not_not_intro h1), if_pos (Int32.not_lt.mp hn), ← eG, c, d1]
        rfl
  · refine ⟨-1000000001, F, J, σ, F, J, σ, ?_, h, rfl, ?_, I.up⟩
    · refine i_102 (d := 99) ?_
      rw [q_102_0 99, c_within]
      simp only [Option.bind_some, b2i_0]
      rw [if_pos h1]
    · refine i_189 (d := 99) ?_
      rw [q_189_0 99, m_in_9999]
      simp only [Option.bind_some, b2i_0]
      rw [if_pos h1]
end OPR
