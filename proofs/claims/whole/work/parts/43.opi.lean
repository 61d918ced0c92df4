/-! COPY. -/
section OPI
variable {L d : Nat} {F F' : Nat → Nat → Int32} {J : Nat → Nat → Int64} {σ : aSg} {μ : aMem} {s s' xs : Nat → Int32}
abbrev hpK (z : Nat) (a m : Int32) : Prop := 0 ≤ a ∧ 0 ≤ m ∧ a.toInt + m.toInt ≤ z
theorem le0 (x : Int32) : 0 ≤ x ↔ 0 ≤ x.toInt := Int32.le_iff_toInt_le
theorem c_hasPlaces {c z : Nat} (hc : σ.2.1 c = (5, 3)) (hz : F c 2 = nI z) (z24 : z ≤ 24) (a m : Int32) : cI d 70 [.ref c, .int a, .int m] (F, J, σ) = some (b2i (hpK z a m), (F, J, σ)) := by
  refine i_70 ?_
  rw [q_70_0]
  simp only [mS, mF, hc, hz, if_true]
  unfold b2i
  by_cases h1 : a < 0
  · rw [if_pos h1, if_neg (fun hh : hpK z a m => (Int32.not_le.mpr h1) hh.1)]
  · rw [if_neg h1]
    by_cases h2 : m < 0
    · rw [if_pos h2, if_neg (fun hh : hpK z a m => (Int32.not_le.mpr h2) hh.2.1)]
    · rw [if_neg h2]
      have h1' := (le0 a).mp (Int32.not_lt.mp h1)
      by_cases h3 : nI z < a
      · have h3' := Int32.lt_iff_toInt_lt.mp h3
        rw [nI_toInt (by omega)] at h3'
        have h2' := (le0 m).mp (Int32.not_lt.mp h2)
        rw [if_pos h3, if_neg (fun hh : hpK z a m => by have := hh.2.2; omega)]
      · have h3' := Int32.le_iff_toInt_le.mp (Int32.not_lt.mp h3)
        rw [nI_toInt (by omega)] at h3'
        rw [if_neg h3]
        have es : (nI z - a).toInt = (z : Int) - a.toInt := by
          rw [Int32.toInt_sub, nI_toInt (by omega), Int.bmod_eq_of_le (by omega) (by omega)]
        by_cases h4 : nI z - a < m
        · have h4' := Int32.lt_iff_toInt_lt.mp h4
          rw [es] at h4'
          rw [if_pos h4, if_neg (fun hh : hpK z a m => by have := hh.2.2; omega)]
        · have h4' := Int32.le_iff_toInt_le.mp (Int32.not_lt.mp h4)
          rw [es] at h4'
          rw [if_neg h4, if_pos ⟨Int32.not_lt.mp h1, Int32.not_lt.mp h2, by omega⟩]
theorem lg_sum {a m : Int32} {z : Nat} (hz : z ≤ 24) : (a.toInt64 + m.toInt64 ≤ (nI z).toInt64) ↔ a.toInt + m.toInt ≤ z := by
  rw [Int64.le_iff_toInt_le, Int64.toInt_add, Int32.toInt_toInt64, Int32.toInt_toInt64, Int32.toInt_toInt64, nI_toInt (by omega)]
  have a1 := Int32.le_toInt a
  have a2 := Int32.toInt_lt a
  have m1 := Int32.le_toInt m
  have m2 := Int32.toInt_lt m
  rw [Int.bmod_eq_of_le (by omega) (by omega)]
theorem lg_le (x y : Int64) : lg_cmp x y ≤ 0 ↔ x ≤ y := by
  rw [← Int64.not_lt, ← lg_gt, Int32.not_lt]
theorem m_copyA (h : Lay L σ) {i a m : Nat} (hi : i < 4) (ham : a + m ≤ 24) (x3 x4 : Int32) : ∀ (n k : Nat) (F : Nat → Nat → Int32), k + n = m → ∃ F', Rn (d + 1) 218 (113, [.ref 99, .int (nI i), .int (nI a), .int x3, .int x4, .int (nI m), .int (nI k)], [], (F, J, σ)) = Rn (d + 1) 218 (150, [.ref 99, .int (nI i), .int (nI a), .int x3, .int x4, .int (nI m), .int 0], [], (F', J, σ)) ∧ (∀ x, x ≠ 121 → F' x = F x) ∧ (∀ j, j < k → F' 121 j = F 121 j) ∧ ∀ j, k ≤ j → j < m → F' 121 j = F 105 (24 * i + a + j)
  | 0, k, F, e => by
    refine ⟨F, ?_, fun x _ => rfl, fun j _ => rfl, fun j h1 h2 => absurd h2 (by omega)⟩
    rw [q_218_113, if_pos (yle (by omega) (by omega))]
  | n + 1, k, F, e => by
    obtain ⟨F', g1, g2, g3, g4⟩ := m_copyA h hi ham x3 x4 n (k + 1) (up1 F 121 (up1 (F 121) k (F 105 (24 * i + a + k)))) (by omega)
    refine ⟨F', ?_, fun x hx => by rw [g2 x hx, up1_ne _ _ hx], fun j hj => by rw [g3 j (by omega), up1_s, up1_n _ _ (by omega)], fun j h1 h2 => ?_⟩
    · rw [q_218_113, if_neg (nle (by omega) (by omega))]
      simp only [mS, mR, Y_99 h, Z_99_6 h, Z_99_34 h, Y_121 h, i24, nI_add, setF_up, ix_nI (show k < 2 ^ 31 by omega), if_true]
      rw [rd_105 h (by omega), Option.bind_some, if_pos ⟨trivial, inb_nI (by omega) (by decide)⟩, nI_s]
      exact g1
    · by_cases ej : j = k
      · rw [ej, g3 k (by omega), up1_s, up1_s]
      · rw [g4 j (by omega) h2, up1_ne _ _ (by decide)]
theorem m_copyB (h : Lay L σ) {i a m : Nat} (hi : i < 4) (ham : a + m ≤ 24) (x1 x2 : Int32) : ∀ (n k : Nat) (F : Nat → Nat → Int32), k + n = m → ∃ F', Rn (d + 1) 218 (150, [.ref 99, .int x1, .int x2, .int (nI i), .int (nI a), .int (nI m), .int (nI k)], [], (F, J, σ)) = some (some (.int (nI m)), (F', J, σ)) ∧ (∀ x, x ≠ 105 → F' x = F x) ∧ (∀ j, j < 24 * i + a + k ∨ 24 * i + a + m ≤ j → F' 105 j = F 105 j) ∧ ∀ j, k ≤ j → j < m → F' 105 (24 * i + a + j) = F 121 j
  | 0, k, F, e => by
    refine ⟨F, ?_, fun x _ => rfl, fun j _ => rfl, fun j h1 h2 => absurd h2 (by omega)⟩
    rw [q_218_150, if_pos (yle (by omega) (by omega))]
  | n + 1, k, F, e => by
    obtain ⟨F', g1, g2, g3, g4⟩ := m_copyB h hi ham x1 x2 n (k + 1) (up1 F 105 (up1 (F 105) (24 * i + a + k) (F 121 k))) (by omega)
    refine ⟨F', ?_, fun x hx => by rw [g2 x hx, up1_ne _ _ hx], fun j hj => by rw [g3 j (by omega), up1_s, up1_n _ _ (by omega)], fun j h1 h2 => ?_⟩
    · rw [q_218_150, if_neg (nle (by omega) (by omega))]
      simp only [mS, mR, Y_99 h, Z_99_6 h, Z_99_34 h, Y_105 h, i24, nI_add, setF_up, ix_nI (show 24 * i + a + k < 2 ^ 31 by omega), if_true]
      rw [rd_k (Y_121 h) (by omega) (by decide), Option.bind_some, if_pos ⟨trivial, inb_nI (by omega) (by decide)⟩, nI_s]
      exact g1
    · by_cases ej : j = k
      · rw [ej, g3 (24 * i + a + k) (by omega), up1_s, up1_s]
      · rw [g4 j (by omega) h2, up1_ne _ _ (by decide)]
theorem op_copy : OpI (Inv L xs) 112 218 5 := op5 fun q F J σ x a y b m hq I => by
  have h := I.lay
  by_cases h1 : 0 ≤ x ∧ x ≤ 3
  · by_cases h2 : 0 ≤ y ∧ y ≤ 3
    · obtain ⟨i, hi, rfl⟩ := three4 h1
      obtain ⟨k, hk, rfl⟩ := three4 h2
      have ei : (nI i).toInt.toNat = i := by rw [nI_toInt (by omega), Int.toNat_natCast]
      have ek : (nI k).toInt.toNat = k := by rw [nI_toInt (by omega), Int.toNat_natCast]
      obtain ⟨z, z1, z2, z3, z4, z5, z6⟩ := I.sh i hi
      obtain ⟨u, u1, u2, u3, u4, u5, u6⟩ := I.sh k hk
      have p1 := c_hasPlaces (d := 99) (J := J) (S_y h i hi) z3 z1 a m
      have p2 := c_hasPlaces (d := 99) (J := J) (S_y h k hk) u3 u1 b m
      have t0 : True ∧ 0 < 999999 := ⟨trivial, by decide⟩
      have ti : True ∧ 70 + 2 * i < 999999 := ⟨trivial, by omega⟩
      have tk : True ∧ 70 + 2 * k < 999999 := ⟨trivial, by omega⟩
      have lei : 70 + 2 * i ≤ 999999 := by omega
      have nei : ¬ 70 + 2 * i = 999999 := by omega
      have lek : 70 + 2 * k ≤ 999999 := by omega
      have nek : ¬ 70 + 2 * k = 999999 := by omega
      have pre : ∀ r, (if F 103 i = -1 then some (some (.int (-1000000011)), (F, J, σ)) else if F 103 k = -1 then some (some (.int (-1000000011)), (F, J, σ)) else if F 103 i = F 103 k then (if ¬ hpK z a m then some (some (.int (-1000000013)), (F, J, σ)) else if ¬ hpK u b m then some (some (.int (-1000000013)), (F, J, σ)) else (if ¬ a < 0 ∧ ¬ b < 0 ∧ ¬ m < 0 ∧ ix a + ix m ≤ 24 ∧ ix b + ix m ≤ 24 then some (some (.int m), cpyF (F, J, σ) (71 + 2 * i) (71 + 2 * k) (ix a) (ix b) (ix m)) else none)) else some (some (.int (-1000000012)), (F, J, σ))) = some r → Rn 100 112 (0, [.ref 0, .int (nI i), .int a, .int (nI k), .int b, .int m, un, un], [], (F, J, σ)) = some r := by
        intro r hr
        rw [q_112_0 99, c_sheetAt (d := 98) h]
        simp only [mS, mR, mF, Y_0 h, Option.bind_some, if_pos h1, if_pos h2, ei, ek, if_pos t0, if_pos t0.2, if_pos ti, if_pos ti.2, if_pos tk, if_pos tk.2, if_pos lei, if_pos lek, if_neg nei, if_neg nek, S_y h i hi, S_c h i hi, S_yc h i hi, S_y h k hk, S_c h k hk, S_yc h k hk, z2, u2, p1, p2, if_true, b2i_0, true_and, c_sheetAt (d := 98) h]
        exact hr
      have mid : ∀ (G : Nat → Nat → Int32), G 103 = F 103 → G 104 = F 104 → ∀ r, (if F 103 i < 0 then some (some (.int (-1000000011)), (G, J, σ)) else if 0 ≤ F 103 k then (if F 103 i = F 103 k then (if a < 0 then some (some (.int (-1000000013)), (G, J, σ)) else if b < 0 then some (some (.int (-1000000013)), (G, J, σ)) else if m < 0 then some (some (.int (-1000000013)), (G, J, σ)) else if ¬ (a.toInt + m.toInt ≤ z) then some (some (.int (-1000000013)), (G, J, σ)) else if b.toInt + m.toInt ≤ u then Rn 100 218 (113, [.ref 99, .int (nI i), .int a, .int (nI k), .int b, .int m, .int 0], [], (G, J, σ)) else some (some (.int (-1000000013)), (G, J, σ))) else some (some (.int (-1000000012)), (G, J, σ))) else some (some (.int (-1000000011)), (G, J, σ))) = some r → Rn 100 218 (0, [.ref 99, .int (nI i), .int a, .int (nI k), .int b, .int m, un], [], (G, J, σ)) = some r := by
        intro G e3 e4 r hr
        rw [q_218_0 99, m_isSheet (d := 98)]
        simp only [Option.bind_some, b2i_0, m_isSheet (d := 98), mS, mR, Y_99 h, Z_99_4 h, Z_99_5 h, rd_103 h hi, rd_103 h hk, rd_104 h hi, rd_104 h hk, e3, e4, z4, u4, if_true, lg_gt, lg_le, lg_sum u1]
        rw [if_neg (not_not_intro h1), if_neg (not_not_intro h2)]
        have en : ((nI z).toInt64 < a.toInt64 + m.toInt64) ↔ ¬ (a.toInt + m.toInt ≤ z) := by rw [← Int64.not_le, lg_sum z1]
        simp only [en]
        exact hr
      have neg : ∀ j, j < 4 → (F 103 j < 0 ↔ F 103 j = -1) := fun j hj => by
        obtain ⟨_, _, _, _, _, c, _⟩ := I.sh j hj
        rcases c with c | c | c <;> rw [c] <;> decide
      by_cases a1 : F 103 i = -1
      · refine ⟨-1000000011, F, J, σ, F, J, σ, i_112 (d := 99) (pre _ ?_), h, rfl, i_218 (d := 99) (mid F rfl rfl _ ?_), I.up⟩
        · rw [if_pos a1]
        · rw [if_pos ((neg i hi).mpr a1)]
      · have a1' : ¬ F 103 i < 0 := fun e => a1 ((neg i hi).mp e)
        by_cases a2 : F 103 k = -1
        · refine ⟨-1000000011, F, J, σ, F, J, σ, i_112 (d := 99) (pre _ ?_), h, rfl, i_218 (d := 99) (mid F rfl rfl _ ?_), I.up⟩
          · rw [if_neg a1, if_pos a2]
          · rw [if_neg a1', if_neg (Int32.not_le.mpr ((neg k hk).mpr a2))]
        · have a2' : 0 ≤ F 103 k := Int32.not_lt.mp (fun e => a2 ((neg k hk).mp e))
          by_cases a3 : F 103 i = F 103 k
          · by_cases a4 : hpK z a m ∧ hpK u b m
            · have a4' := a4
              obtain ⟨⟨w1, w2, w3⟩, w4, -, w5⟩ := a4'
              have hl : ∀ v : Int32, v.toInt.toNat < 2 ^ 31 := fun v => by have := Int32.toInt_lt v; omega
              obtain ⟨a', ha', rfl⟩ : ∃ a', a' < 2 ^ 31 ∧ a = nI a' := ⟨_, hl a, nI_fo w1⟩
              obtain ⟨b', hb', rfl⟩ : ∃ b', b' < 2 ^ 31 ∧ b = nI b' := ⟨_, hl b, nI_fo w4⟩
              obtain ⟨m', hm', rfl⟩ : ∃ m', m' < 2 ^ 31 ∧ m = nI m' := ⟨_, hl m, nI_fo w2⟩
              rw [nI_toInt ha', nI_toInt hm'] at w3
              rw [nI_toInt hb', nI_toInt hm'] at w5
              obtain ⟨F1, eF1⟩ : ∃ F1, F1 = up1 F (71 + 2 * k) (va_cpy (F (71 + 2 * i)) (F (71 + 2 * k)) a' b' m') := ⟨_, rfl⟩
              have f1 : ∀ x, x ≠ 71 + 2 * k → F1 x = F x := fun x hx => by rw [eF1, up1_ne _ _ hx]
              obtain ⟨F2, g1, g2, -, g4⟩ := m_copyA (d := 99) (J := J) h hi (show a' + m' ≤ 24 by omega) (nI k) (nI b') m' 0 F1 (by omega)
              obtain ⟨F3, k1, k2, k3, k4⟩ := m_copyB (d := 99) (J := J) h hk (show b' + m' ≤ 24 by omega) (nI i) (nI a') m' 0 F2 (by omega)
              refine ⟨nI m', F1, J, σ, F3, J, σ, i_112 (d := 99) (pre _ ?_), h, f1 _ (by omega), i_218 (d := 99) (mid F1 (f1 _ (by omega)) (f1 _ (by omega)) _ ?_), ?_⟩
              · rw [if_neg a1, if_neg a2, if_pos a3, if_neg (not_not_intro a4.1), if_neg (not_not_intro a4.2), ix_nI ha', ix_nI hb', ix_nI hm', if_pos ⟨Int32.not_lt.mpr w1, Int32.not_lt.mpr w4, Int32.not_lt.mpr w2, by omega, by omega⟩, cpyF_mk, eF1]
              · rw [if_neg a1', if_pos a2', if_pos a3, if_neg (Int32.not_lt.mpr w1), if_neg (Int32.not_lt.mpr w4), if_neg (Int32.not_lt.mpr w2), if_neg (not_not_intro a4.1.2.2), if_pos a4.2.2.2]
                exact g1.trans k1
              · have o : ∀ x, x ≠ 71 + 2 * k → x ≠ 105 → x ≠ 121 → F3 x = F x := fun x h1 h2 h3 => by rw [k2 x h2, g2 x h3, f1 x h1]
                have o5 : ∀ j, F2 105 j = F 105 j := fun j => by rw [g2 105 (by decide), f1 105 (by omega)]
                refine IV_sh I hk (fun x h1 h2 h3 h4 h5 h6 h7 => o x h2 h5 h7) (fun k' hk' hk4 => ?_) ?_
                · rw [o 103 (by omega) (by decide) (by decide), o 104 (by omega) (by decide) (by decide)]
                  refine ⟨rfl, rfl, fun j hj => ?_⟩
                  rw [k3 _ (by omega), o5]
                · unfold SH
                  rw [o (70 + 2 * k) (by omega) (by omega) (by omega), o 103 (by omega) (by decide) (by decide), o 104 (by omega) (by decide) (by decide)]
                  refine ⟨u, u1, u2, u3, u4, u5, fun j hj => ?_⟩
                  rw [k2 (71 + 2 * k) (by omega), g2 (71 + 2 * k) (by omega), eF1, up1_s]
                  unfold va_cpy
                  by_cases cj : b' ≤ j ∧ j < b' + m'
                  · rw [if_pos cj]
                    have e1 := k4 (j - b') (by omega) (by omega)
                    rw [g4 (j - b') (by omega) (by omega), f1 105 (by omega), show 24 * k + b' + (j - b') = 24 * k + j by omega, show 24 * i + a' + (j - b') = 24 * i + (a' + (j - b')) by omega] at e1
                    rw [e1]
                    exact z6 (a' + (j - b')) (by omega)
                  · rw [if_neg cj, k3 _ (by omega), o5]
                    exact u6 j hj
            · have i3 : (-1000000013 : Int32) = -1000000013 := rfl
              refine ⟨-1000000013, F, J, σ, F, J, σ, i_112 (d := 99) (pre _ ?_), h, rfl, i_218 (d := 99) (mid F rfl rfl _ ?_), I.up⟩
              · rw [if_neg a1, if_neg a2, if_pos a3]
                by_cases k1 : hpK z a m
                · rw [if_neg (not_not_intro k1), if_pos (fun k2 => a4 ⟨k1, k2⟩)]
                · rw [if_pos k1]
              · rw [if_neg a1', if_pos a2', if_pos a3]
                by_cases b1 : a < 0
                · rw [if_pos b1]
                · rw [if_neg b1]
                  by_cases b2 : b < 0
                  · rw [if_pos b2]
                  · rw [if_neg b2]
                    by_cases b3 : m < 0
                    · rw [if_pos b3]
                    · rw [if_neg b3]
                      by_cases b4 : a.toInt + m.toInt ≤ z
                      · rw [if_neg (not_not_intro b4), if_neg (fun b5 => a4 ⟨⟨Int32.not_lt.mp b1, Int32.not_lt.mp b3, b4⟩, Int32.not_lt.mp b2, Int32.not_lt.mp b3, b5⟩)]
                      · rw [if_pos b4]
          · refine ⟨-1000000012, F, J, σ, F, J, σ, i_112 (d := 99) (pre _ ?_), h, rfl, i_218 (d := 99) (mid F rfl rfl _ ?_), I.up⟩
            · rw [if_neg a1, if_neg a2, if_neg a3]
            · rw [if_neg a1', if_pos a2', if_neg a3]
    · have t0 : True ∧ 0 < 999999 := ⟨trivial, by decide⟩
      obtain ⟨i, hi, rfl⟩ := three4 h1
      have ei : (nI i).toInt.toNat = i := by rw [nI_toInt (by omega), Int.toNat_natCast]
      refine ⟨-1000000001, F, J, σ, F, J, σ, ?_, h, rfl, ?_, I.up⟩
      · refine i_112 (d := 99) ?_
        rw [q_112_0 99, c_sheetAt (d := 98) h]
        simp only [mS, Y_0 h, Option.bind_some, if_pos h1, ei, if_pos t0, c_sheetAt (d := 98) h, if_neg h2]
        rw [if_pos (by omega), if_neg (by omega)]
        rfl
      · refine i_218 (d := 99) ?_
        rw [q_218_0 99, m_isSheet (d := 98)]
        simp only [Option.bind_some, b2i_0, m_isSheet (d := 98)]
        rw [if_neg (not_not_intro h1), if_pos h2]
  · have t0 : True ∧ 0 < 999999 := ⟨trivial, by decide⟩
    refine ⟨-1000000001, F, J, σ, F, J, σ, ?_, h, rfl, ?_, I.up⟩
    · refine i_112 (d := 99) ?_
      rw [q_112_0 99, c_sheetAt (d := 98) h]
      simp only [mS, Y_0 h, Option.bind_some, if_neg h1, if_pos t0, c_sheetAt (d := 98) h]
      rfl
    · refine i_218 (d := 99) ?_
      rw [q_218_0 99, m_isSheet (d := 98)]
      simp only [Option.bind_some, b2i_0]
      rw [if_pos h1]
end OPI
