/-! TABLE. -/
section OPP
variable {L d : Nat} {F F' : Nat → Nat → Int32} {J : Nat → Nat → Int64} {σ : aSg} {μ : aMem} {s s' xs f A : Nat → Int32}
theorem SA_no {k : Nat} (S : SA A f k) (hx : NO5 (f k)) : SA A f (k + 1) := by
  have en : tN f (k + 1) = tN f k := if_pos hx
  obtain ⟨s1, s2, s3⟩ := S
  unfold SA
  rw [en]
  refine ⟨s1, fun v => ?_, s3⟩
  rw [s2 v]
  show _ = if NO5 (f k) then _ else _
  rw [if_pos hx]
theorem m_tabS (h : Lay L σ) {i z k : Nat} (hi : i < 4) (hz : z ≤ 24) (hk : k < z) (x2 : Int32) (hr : ∀ k, k < z → VK (f k)) (F : Nat → Nat → Int32) (w8 w9 w10 : Value) (h4 : F 104 i = nI z) (h5 : ∀ j, j < 24 → F 105 (24 * i + j) = f j) (S : SA (F 120) f k) : ∃ F' w8' w9' w10', Rn 100 217 (49, [.ref 99, .int (nI i), .int x2, .int (nI (tN f k)), .int (tL f k), .int (tG f k), .int (tC f k), .int (nI k), w8, w9, w10], [], (F, J, σ)) = Rn 100 217 (49, [.ref 99, .int (nI i), .int x2, .int (nI (tN f (k + 1))), .int (tL f (k + 1)), .int (tG f (k + 1)), .int (tC f (k + 1)), .int (nI (k + 1)), w8', w9', w10'], [], (F', J, σ)) ∧ (∀ a, a ≠ 120 → F' a = F a) ∧ SA (F' 120) f (k + 1) := by
  have tz := tN_le (f := f) k
  have rdv : ∀ j, j < 24 → rdI (F, J, σ) 105 (nI (24 * i + j)) = some (f j) := fun j hj => by rw [rd_105 h (by omega), h5 j hj]
  rw [q_217_49 99]
  simp only [mS, mR, Y_99 h, Z_99_5 h, Z_99_6 h, rd_104 h hi, h4, Option.bind_some, if_true, i24, rdv k (by omega)]
  rw [if_neg (nle (by omega) (by omega))]
  by_cases c1 : NO5 (f k)
  · rw [if_pos c1, q_217_224 99, nI_s]
    have e1 : tN f (k + 1) = tN f k := if_pos c1
    have e2 : tL f (k + 1) = tL f k := if_pos c1
    have e3 : tG f (k + 1) = tG f k := if_pos c1
    have e4 : tC f (k + 1) = tC f k := if_pos c1
    rw [e1, e2, e3, e4]
    exact ⟨F, _, _, _, rfl, fun a _ => rfl, SA_no S c1⟩
  · rw [if_neg c1]
    have e1 : tN f (k + 1) = tN f k + 1 := if_neg c1
    have e2 : tL f (k + 1) = if tL f k < 0 then nI k else if f (tL f k).toInt.toNat ≤ f k then tL f k else nI k := if_neg c1
    have e3 : tG f (k + 1) = if tG f k < 0 then nI k else if f k ≤ f (tG f k).toInt.toNat then tG f k else nI k := if_neg c1
    have e4 : tC f (k + 1) = if isCd (f k) then tC f k + 1 else tC f k := if_neg c1
    have rk : rg (f k) := by
      rcases hr k hk with q | q
      · exact absurd q c1
      · exact q
    -- the end of the step
    have p4 : ∀ X4 X5 : Int32, ∃ F' w8' w9' w10', Rn 100 217 (171, [.ref 99, .int (nI i), .int x2, .int (nI (tN f k)), .int X4, .int X5, .int (tC f (k + 1)), .int (nI k), .int (24 * nI i), .int (f k), .int (nI (tN f k))], [], (F, J, σ)) = Rn 100 217 (49, [.ref 99, .int (nI i), .int x2, .int (nI (tN f k + 1)), .int X4, .int X5, .int (tC f (k + 1)), .int (nI (k + 1)), w8', w9', w10'], [], (F', J, σ)) ∧ (∀ a, a ≠ 120 → F' a = F a) ∧ SA (F' 120) f (k + 1) := fun X4 X5 => by
      obtain ⟨F', i', g1, g2, g3, g4, g5, g6, g7, g8⟩ := m_ins (J := J) (A0 := F 120) (x := f k) (x1 := nI i) (x2 := x2) (x4 := X4) (x5 := X5) (x6 := tC f (k + 1)) (x7 := nI k) (x8 := 24 * nI i) h (show tN f k < 24 by omega) (tN f k) F (Nat.le_refl _) (fun j _ => rfl) (fun j a b => absurd a (by omega)) (fun j a b => absurd b (by omega))
      rw [q_217_224 99, nI_s] at g1
      exact ⟨F', _, _, _, g1, g2, SA_ins S c1 rk g3 g4 g5 g6 g7 g8⟩
    have p3 : ∀ X4 X5 : Int32, ∃ F' w8' w9' w10', Rn 100 217 (141, [.ref 99, .int (nI i), .int x2, .int (nI (tN f k)), .int X4, .int (tG f k), .int (tC f k), .int (nI k), .int (24 * nI i), .int (f k), w10], [.int X5], (F, J, σ)) = Rn 100 217 (49, [.ref 99, .int (nI i), .int x2, .int (nI (tN f k + 1)), .int X4, .int X5, .int (tC f (k + 1)), .int (nI (k + 1)), w8', w9', w10'], [], (F', J, σ)) ∧ (∀ a, a ≠ 120 → F' a = F a) ∧ SA (F' 120) f (k + 1) := fun X4 X5 => by
      have q := p4 X4 X5
      rw [q_217_141 99]
      by_cases d1 : f k ≤ 0
      · have d2 : ¬ isCd (f k) := fun hh => ((cdS_is (f k)).mpr hh).1 d1
        rw [if_neg d2] at e4
        rw [if_pos d1, q_217_164 99, q_217_165 99, Int32.add_zero]
        rw [e4] at q ⊢
        exact q
      · rw [if_neg d1, m_card, Option.bind_some]
        by_cases d2 : cdS (f k) = f k
        · rw [if_pos ((cdS_is (f k)).mp ⟨d1, d2⟩)] at e4
          rw [if_pos d2, q_217_165 99]
          rw [e4] at q ⊢
          exact q
        · rw [if_neg (fun hh => d2 ((cdS_is (f k)).mpr hh).2)] at e4
          rw [if_neg d2, q_217_164 99, q_217_165 99, Int32.add_zero]
          rw [e4] at q ⊢
          exact q
    have p2 : ∀ X4 : Int32, ∃ F' w8' w9' w10', Rn 100 217 (112, [.ref 99, .int (nI i), .int x2, .int (nI (tN f k)), .int (tL f k), .int (tG f k), .int (tC f k), .int (nI k), .int (24 * nI i), .int (f k), w10], [.int X4], (F, J, σ)) = Rn 100 217 (49, [.ref 99, .int (nI i), .int x2, .int (nI (tN f k + 1)), .int X4, .int (tG f (k + 1)), .int (tC f (k + 1)), .int (nI (k + 1)), w8', w9', w10'], [], (F', J, σ)) ∧ (∀ a, a ≠ 120 → F' a = F a) ∧ SA (F' 120) f (k + 1) := fun X4 => by
      rw [q_217_112 99]
      simp only [mS, mR, Y_99 h, Z_99_6 h, if_true]
      rcases tG_in (f := f) k (by omega) with c2 | ⟨j, hj, c2⟩
      · have c3 : tG f k < 0 := by rw [c2]; decide
        rw [if_pos c3] at e3
        rw [if_pos c3, q_217_134 99, e3]
        exact p3 X4 (nI k)
      · have c3 : ¬ tG f k < 0 := by rw [c2]; exact nlt (b := 0) (by omega) (by omega)
        have ej : (tG f k).toInt.toNat = j := by rw [c2, nI_toInt (by omega), Int.toNat_natCast]
        have er : rdI (F, J, σ) 105 (24 * nI i + tG f k) = some (f j) := by rw [c2, i24]; exact rdv j (by omega)
        rw [if_neg c3, ej] at e3
        rw [if_neg c3, er, Option.bind_some]
        by_cases c4 : f k ≤ f j
        · rw [if_pos c4] at e3
          rw [if_pos c4, e3]
          exact p3 X4 (tG f k)
        · rw [if_neg c4] at e3
          rw [if_neg c4, q_217_134 99, e3]
          exact p3 X4 (nI k)
    rw [e1]
    rcases tL_in (f := f) k (by omega) with c2 | ⟨j, hj, c2⟩
    · have c3 : tL f k < 0 := by rw [c2]; decide
      rw [if_pos c3] at e2
      rw [if_pos c3, q_217_105 99, e2]
      exact p2 (nI k)
    · have c3 : ¬ tL f k < 0 := by rw [c2]; exact nlt (b := 0) (by omega) (by omega)
      have ej : (tL f k).toInt.toNat = j := by rw [c2, nI_toInt (by omega), Int.toNat_natCast]
      have er : rdI (F, J, σ) 105 (24 * nI i + tL f k) = some (f j) := by rw [c2, i24]; exact rdv j (by omega)
      rw [if_neg c3, ej] at e2
      rw [if_neg c3, er, Option.bind_some]
      by_cases c4 : f j ≤ f k
      · rw [if_pos c4] at e2
        rw [if_pos c4, e2]
        exact p2 (tL f k)
      · rw [if_neg c4] at e2
        rw [if_neg c4, q_217_105 99, e2]
        exact p2 (nI k)
theorem m_tabL (h : Lay L σ) {i z : Nat} (hi : i < 4) (hz : z ≤ 24) (x2 : Int32) (hr : ∀ k, k < z → VK (f k)) : ∀ (r k : Nat) (F : Nat → Nat → Int32) (w8 w9 w10 : Value), F 104 i = nI z → (∀ j, j < 24 → F 105 (24 * i + j) = f j) → SA (F 120) f k → k + r = z → ∃ F' w8' w9' w10', Rn 100 217 (49, [.ref 99, .int (nI i), .int x2, .int (nI (tN f k)), .int (tL f k), .int (tG f k), .int (tC f k), .int (nI k), w8, w9, w10], [], (F, J, σ)) = Rn 100 217 (49, [.ref 99, .int (nI i), .int x2, .int (nI (tN f z)), .int (tL f z), .int (tG f z), .int (tC f z), .int (nI z), w8', w9', w10'], [], (F', J, σ)) ∧ (∀ a, a ≠ 120 → F' a = F a) ∧ SA (F' 120) f z
  | 0, k, F, w8, w9, w10, h4, h5, S, e => by
    have ek : k = z := by omega
    subst ek
    exact ⟨F, w8, w9, w10, rfl, fun a _ => rfl, S⟩
  | r + 1, k, F, w8, w9, w10, h4, h5, S, e => by
    obtain ⟨F1, a8, a9, a10, g1, g2, g3⟩ := m_tabS (J := J) h hi hz (show k < z by omega) x2 hr F w8 w9 w10 h4 h5 S
    obtain ⟨F2, b8, b9, b10, k1, k2, k3⟩ := m_tabL h hi hz x2 hr r (k + 1) F1 a8 a9 a10 (by rw [g2 104 (by decide)]; exact h4) (fun j hj => by rw [g2 105 (by decide)]; exact h5 j hj) g3 (by omega)
    exact ⟨F2, b8, b9, b10, g1.trans k1, fun a ha => (k2 a ha).trans (g2 a ha), k3⟩
theorem op_table : OpI (Inv L xs) 111 217 2 := op2 fun q F J σ x w hq I => by
  have h := I.lay
  have t0 : True ∧ 0 < 999999 := ⟨trivial, by decide⟩
  by_cases h1 : 0 ≤ x ∧ x ≤ 3
  · obtain ⟨i, hi, rfl⟩ := three4 h1
    have ei : (nI i).toInt.toNat = i := by rw [nI_toInt (by omega), Int.toNat_natCast]
    have lei : 70 + 2 * i ≤ 999999 := by omega
    have nei : ¬ 70 + 2 * i = 999999 := by omega
    have t9 : True ∧ 70 + 2 * i < 999999 := ⟨trivial, by omega⟩
    obtain ⟨z, z1, z2, z3, z4, z5, z6⟩ := I.sh i hi
    by_cases h2 : 0 ≤ w ∧ w ≤ 3
    · by_cases a1 : F 103 i = -1
      · refine ⟨-1000000011, F, J, σ, F, J, σ, ?_, h, rfl, ?_, I.up⟩
        · refine i_111 (d := 99) ?_
          rw [q_111_0 99, c_sheetAt (d := 98) h]
          simp only [mS, mF, Y_0 h, Option.bind_some, if_pos h1, ei, if_pos t0, if_pos lei, if_neg nei, S_y h i hi, z2, if_true, c_within, b2i_0]
          rw [if_neg (not_not_intro h2), if_pos a1]
        · refine i_217 (d := 99) ?_
          rw [q_217_0 99, m_isSheet (d := 98)]
          simp only [Option.bind_some, b2i_0, mS, mR, Y_99 h, Z_99_4 h, rd_103 h hi, if_true, show cI 99 133 [.long w.toInt64, .long 0, .long 3] (F, J, σ) = _ from m_in w 0 3]
          rw [if_neg (not_not_intro h1), if_neg (not_not_intro h2), if_neg (by rw [a1]; decide)]
      · have a2 : 0 ≤ F 103 i := by rcases z5 with c | c | c; exact absurd c a1; rw [c]; decide; rw [c]; decide
        obtain ⟨f, hf⟩ : ∃ f : Nat → Int32, f = fun j => F 105 (24 * i + j) := ⟨_, rfl⟩
        have ff : ∀ j, F 105 (24 * i + j) = f j := fun j => by rw [hf]
        have S : SE F σ (70 + 2 * i) (71 + 2 * i) z f := ⟨S_y h i hi, t9.2, S_c h i hi, S_yc h i hi, z3, z1, fun j hj => (z6 j hj).1.trans (ff j)⟩
        have hr : ∀ k, k < z → VK (f k) := fun k hk => by rw [← ff k]; exact (z6 k (by omega)).2
        have S0 : SA (F 120) f 0 := ⟨fun a b _ hb => absurd hb (by unfold tN; omega), fun v => rfl, fun a ha => absurd ha (by unfold tN; omega)⟩
        obtain ⟨F2, b8, b9, b10, k1, k2, k3⟩ := m_tabL (J := J) (f := f) h hi z1 w hr z 0 F un un un z4 (fun j _ => ff j) S0 (by omega)
        have tz := tN_le (f := f) z
        have cN := c_numbers (d := 97) (J := J) S
        have pre : ∀ r, (if tN f z = 0 then some (some (.int (-1000000005)), (F, J, σ)) else if w = 0 then some (some (.int (tL f z)), (F, J, σ)) else if w = 1 then some (some (.int (tG f z)), (F, J, σ)) else if w = 2 then some (some (.int (tC f z)), (F, J, σ)) else (cI 99 77 [.ref (70 + 2 * i)] (F, J, σ)).bind fun p18 => some (some (.int p18.1), p18.2)) = some r → Rn 100 111 (0, [.ref 0, .int (nI i), .int w, un], [], (F, J, σ)) = some r := by
          intro r hr
          rw [q_111_0 99, c_sheetAt (d := 98) h]
          simp only [mS, mF, Y_0 h, Option.bind_some, if_pos h1, ei, if_pos t0, if_pos lei, if_neg nei, S_y h i hi, z2, if_true, c_within, b2i_0, if_neg (not_not_intro h2), if_neg a1, if_pos t9, cN, c_least (d := 97) S, c_greatest (d := 97) S, c_cards (d := 97) h.2.2.2.2.1 S]
          by_cases e0 : tN f z = 0
          · rw [if_pos e0] at hr
            rw [if_pos (by rw [e0]; rfl)]
            exact hr
          · rw [if_neg e0] at hr
            rw [if_neg (fun e : nI (tN f z) = (0 : Int32) => e0 ((nI_eq (a := tN f z) (b := 0) (by omega) (by decide)).mp e))]
            exact hr
        have mid : ∀ r, (if tN f z = 0 then some (some (.int (-1000000005)), (F2, J, σ)) else if w = 0 then some (some (.int (tL f z)), (F2, J, σ)) else if w = 1 then some (some (.int (tG f z)), (F2, J, σ)) else if w = 2 then some (some (.int (tC f z)), (F2, J, σ)) else some (some (.int (F2 120 ((tN f z - 1) / 2))), (F2, J, σ))) = some r → Rn 100 217 (0, [.ref 99, .int (nI i), .int w, un, un, un, un, un, un, un, un], [], (F, J, σ)) = some r := by
          intro r hr
          rw [q_217_0 99, m_isSheet (d := 98)]
          simp only [Option.bind_some, b2i_0, mS, mR, Y_99 h, Z_99_4 h, rd_103 h hi, if_true, show cI 99 133 [.long w.toInt64, .long 0, .long 3] (F, J, σ) = _ from m_in w 0 3]
          rw [if_neg (not_not_intro h1), if_neg (not_not_intro h2), if_pos a2]
          refine (show _ = _ from k1).trans ?_
          rw [q_217_49 99]
          simp only [mS, mR, Y_99 h, Z_99_5 h, Z_99_33 h, rd_104 h hi, k2 104 (by decide), z4, Option.bind_some, if_true]
          rw [if_pos (Int32.le_refl _)]
          by_cases e0 : tN f z = 0
          · rw [if_pos e0] at hr
            rw [if_pos (by rw [e0]; rfl)]
            exact hr
          · rw [if_neg e0] at hr
            have ew : (nI (tN f z) - 1) / 2 = nI ((tN f z - 1) / 2) := by
              rw [show nI (tN f z) - 1 = nI (tN f z - 1) from pk_sub (b := 1) (by omega), show (2 : Int32) = nI 2 from rfl, pk_div (by omega) (by decide) (by decide)]
            rw [if_neg (fun e : nI (tN f z) = (0 : Int32) => e0 ((nI_eq (a := tN f z) (b := 0) (by omega) (by decide)).mp e)), q_217_276 99, q_217_276 99, q_217_276 99, ew, rd_k (Y_120 h) (by omega) (by decide), Option.bind_some, q_217_276 99]
            exact hr
        have fin : IV L xs (q + 1) F2 σ := by
          refine IV_row I (fun a ha => k2 a (by omega)) (by unfold k99; rw [k2 99 (by decide)]; exact ⟨rfl, rfl, rfl⟩) ?_
          rw [k2 100 (by decide)]
          exact RW_cg (fun a _ _ => k2 a (by omega)) (fun a _ _ => k2 a (by omega)) (fun j _ => rfl) I.rw
        by_cases e0 : tN f z = 0
        · refine ⟨-1000000005, F, J, σ, F2, J, σ, i_111 (d := 99) (pre _ ?_), h, rfl, i_217 (d := 99) (mid _ ?_), fin⟩
          · rw [if_pos e0]
          · rw [if_pos e0]
        · by_cases w0 : w = 0
          · refine ⟨tL f z, F, J, σ, F2, J, σ, i_111 (d := 99) (pre _ ?_), h, rfl, i_217 (d := 99) (mid _ ?_), fin⟩
            · rw [if_neg e0, if_pos w0]
            · rw [if_neg e0, if_pos w0]
          · by_cases w1 : w = 1
            · refine ⟨tG f z, F, J, σ, F2, J, σ, i_111 (d := 99) (pre _ ?_), h, rfl, i_217 (d := 99) (mid _ ?_), fin⟩
              · rw [if_neg e0, if_neg w0, if_pos w1]
              · rw [if_neg e0, if_neg w0, if_pos w1]
            · by_cases w2 : w = 2
              · refine ⟨tC f z, F, J, σ, F2, J, σ, i_111 (d := 99) (pre _ ?_), h, rfl, i_217 (d := 99) (mid _ ?_), fin⟩
                · rw [if_neg e0, if_neg w0, if_neg w1, if_pos w2]
                · rw [if_neg e0, if_neg w0, if_neg w1, if_pos w2]
              · have hm := SA_mid k3 (fun k hk hno => by rcases hr k hk with q | q; exact absurd q hno; exact q) (show (tN f z - 1) / 2 < tN f z by omega)
                have cm := c_middle (d := 96) (J := J) S (by omega) rfl hm.1 hm.2
                refine ⟨F2 120 ((tN f z - 1) / 2), F, J, σ, F2, J, σ, i_111 (d := 99) (pre _ ?_), h, rfl, i_217 (d := 99) (mid _ ?_), fin⟩
                · rw [if_neg e0, if_neg w0, if_neg w1, if_neg w2, cm]
                  rfl
                · rw [if_neg e0, if_neg w0, if_neg w1, if_neg w2]
    · refine ⟨-1000000001, F, J, σ, F, J, σ, ?_, h, rfl, ?_, I.up⟩
      · refine i_111 (d := 99) ?_
        rw [q_111_0 99, c_sheetAt (d := 98) h]
        simp only [mS, mF, Y_0 h, Option.bind_some, if_pos h1, ei, if_pos t0, if_pos lei, if_neg nei, c_within, b2i_0]
        rw [if_pos h2]
      · refine i_217 (d := 99) ?_
        rw [q_217_0 99, m_isSheet (d := 98)]
        simp only [Option.bind_some, b2i_0, show cI 99 133 [.long w.toInt64, .long 0, .long 3] (F, J, σ) = _ from m_in w 0 3]
        rw [if_neg (not_not_intro h1), if_pos h2, q_217_19 99]
  · refine ⟨-1000000001, F, J, σ, F, J, σ, ?_, h, rfl, ?_, I.up⟩
    · refine i_111 (d := 99) ?_
      rw [q_111_0 99, c_sheetAt (d := 98) h]
      simp only [mS, Y_0 h, Option.bind_some, if_neg h1, if_pos t0]
      rfl
    · refine i_217 (d := 99) ?_
      rw [q_217_0 99, m_isSheet (d := 98)]
      simp only [Option.bind_some, b2i_0]
      rw [if_pos h1, q_217_19 99]
end OPP
