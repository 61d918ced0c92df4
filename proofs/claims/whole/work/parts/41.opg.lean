/-! ASK, ITEM, REST, MARK, COPY. -/
section OPG
variable {L d : Nat} {F F' : Nat → Nat → Int32} {J : Nat → Nat → Int64} {σ : aSg} {μ : aMem} {s s' xs : Nat → Int32}
theorem four5 {x : Int32} (h : 0 ≤ x ∧ x ≤ 4) : ∃ k, k < 5 ∧ x = nI k := (nI_ex (n := 5) (by decide)).mp ⟨h.1, by have := Int32.le_iff_toInt_le.mp h.2; rw [Int32.lt_iff_toInt_lt]; have e5 : x.toInt ≤ 4 := this; show x.toInt < 5; omega⟩
theorem c_slotAt (h : Lay L σ) (x : Int32) : cR (d + 1) 127 [.ref 0, .int x] (F, J, σ) = some (if 0 ≤ x ∧ x ≤ 4 then 79 + 4 * x.toInt.toNat else 999999, (F, J, σ)) := by
  refine i_127 ?_
  rw [q_127_0, c_within]
  simp only [Option.bind_some, b2i_0, mS, mR, Y_0 h, Z_0_11 h, Y_78 h]
  by_cases h1 : 0 ≤ x ∧ x ≤ 4
  · rw [if_neg (not_not_intro h1), if_pos h1, if_pos trivial]
    obtain ⟨k, hk, rfl⟩ := four5 h1
    rw [if_pos ⟨by decide, by decide, inb_nI hk (by decide)⟩, ix_nI (by omega), T_z h k hk, if_pos (by omega), nI_toInt (show k < 2 ^ 31 by omega), Int.toNat_natCast]
  · rw [if_pos h1, if_neg h1]
theorem m_isSlot (x : Int32) : cI (d + 1) 219 [.int x] μ = some (b2i (0 ≤ x ∧ x ≤ 4), μ) := by
  refine i_219 ?_
  rw [q_219_0, show cI d 133 [.long x.toInt64, .long 0, .long 4] μ = _ from m_in x 0 4, Option.bind_some, if_pos (b2i_01 _)]
theorem c_hasPlace {c z : Nat} (hc : σ.2.1 c = (5, 3)) (hz : F c 2 = nI z) (z24 : z ≤ 24) (x : Int32) : cI d 69 [.ref c, .int x] (F, J, σ) = some (b2i (0 ≤ x ∧ x < nI z), (F, J, σ)) := by
  refine i_69 ?_
  rw [q_69_0]
  simp only [mS, mF, hc, hz, if_true]
  unfold b2i
  by_cases h1 : x < 0
  · rw [if_pos h1, if_neg (fun hh : 0 ≤ x ∧ x < nI z => (Int32.not_le.mpr h1) hh.1)]
  · rw [if_neg h1]
    by_cases h2 : nI z ≤ x
    · rw [if_pos h2, if_neg (fun hh : 0 ≤ x ∧ x < nI z => (Int32.not_le.mpr hh.2) h2)]
    · have h3 : 0 ≤ x ∧ x < nI z := ⟨Int32.not_lt.mp h1, Int32.not_le.mp h2⟩
      obtain ⟨k, hk, rfl⟩ := (nI_ex (by omega)).mp h3
      rw [if_neg h2, if_neg (show ¬ (24 : Int32) ≤ nI k from nle (a := 24) (by omega) (by decide)), if_pos h3]
theorem c_isNumber {c e z : Nat} (hc : σ.2.1 c = (5, 3)) (h9 : c < 999999) (he : σ.1 c 0 = e) (hy : σ.2.1 e = (10, 24)) (hz : F c 2 = nI z) (z24 : z ≤ 24) (x : Int32) : cI (d + 1) 71 [.ref c, .int x] (F, J, σ) = some (b2i ((0 ≤ x ∧ x < nI z) ∧ ¬ F e x.toInt.toNat = -1000000005), (F, J, σ)) := by
  refine i_71 ?_
  rw [q_71_0]
  simp only [mS, hc]
  rw [if_pos ⟨trivial, h9⟩, c_hasPlace hc hz z24]
  simp only [Option.bind_some, b2i_0, mS, mR, hc, he, if_true]
  unfold b2i
  by_cases h1 : 0 ≤ x ∧ x < nI z
  · rw [if_neg (not_not_intro h1)]
    obtain ⟨k, hk, rfl⟩ := (nI_ex (by omega)).mp h1
    rw [rd_k hy (by omega) (by decide), Option.bind_some, nI_toInt (show k < 2 ^ 31 by omega), Int.toNat_natCast]
    by_cases h2 : F e k = -1000000005
    · rw [if_pos h2, if_neg (fun hh => hh.2 h2)]
    · rw [if_neg h2, if_pos ⟨h1, h2⟩]
  · rw [if_pos h1, if_neg (fun hh => h1 hh.1)]
theorem c_worth {c : Nat} (hc : σ.2.1 c = (1, 5)) : cI d 8 [.ref c] (F, J, σ) = some (woI (F c 0) (F c 1) (F c 2) (F c 3), (F, J, σ)) := by
  refine i_8 ?_
  rw [q_8_0]
  simp only [mS, mF, hc, if_true]
  unfold woI
  split
  · rfl
  · split
    · rfl
    · split
      · rfl
      · split
        · rfl
        · split <;> rfl
theorem m_worth (h : Lay L σ) {p : Nat} (hp : p < 10) : cI (d + 1) 151 [.ref 99, .int (nI p)] (F, J, σ) = some (woI (F 100 (4 + 5 * p)) (F 100 (4 + 5 * p + 1)) (F 100 (4 + 5 * p + 2)) (F 100 (4 + 5 * p + 3)), (F, J, σ)) := by
  refine i_151 ?_
  rw [q_151_0]
  have e0 : cI d 139 [.ref 99, .int (nI p), .int 0] (F, J, σ) = some (F 100 (4 + 5 * p), (F, J, σ)) := m_of (w := 0) h hp (by decide)
  have e1 : cI d 139 [.ref 99, .int (nI p), .int 1] (F, J, σ) = some (F 100 (4 + 5 * p + 1), (F, J, σ)) := m_of (w := 1) h hp (by decide)
  have e2 : cI d 139 [.ref 99, .int (nI p), .int 2] (F, J, σ) = some (F 100 (4 + 5 * p + 2), (F, J, σ)) := m_of (w := 2) h hp (by decide)
  have e3 : cI d 139 [.ref 99, .int (nI p), .int 3] (F, J, σ) = some (F 100 (4 + 5 * p + 3), (F, J, σ)) := m_of (w := 3) h hp (by decide)
  have t9 : (True ∧ 99 < 999999) := ⟨trivial, by decide⟩
  simp only [mS, Y_99 h, e0, e1, e2, e3, Option.bind_some, if_pos t9]
  unfold woI
  split
  · rfl
  · split
    · rfl
    · split
      · rfl
      · split
        · rfl
        · split <;> rfl
theorem rd_106 (h : Lay L σ) {i : Nat} (hi : i < 5) : rdI (F, J, σ) 106 (nI i) = some (F 106 i) := rdI_nI (Y_106 h) hi (by decide)
theorem rd_107 (h : Lay L σ) {i : Nat} (hi : i < 5) : rdI (F, J, σ) 107 (nI i) = some (F 107 i) := rdI_nI (Y_107 h) hi (by decide)
theorem rd_108 (h : Lay L σ) {i : Nat} (hi : i < 5) : rdI (F, J, σ) 108 (nI i) = some (F 108 i) := rdI_nI (Y_108 h) hi (by decide)
theorem rd_109 (h : Lay L σ) {i : Nat} (hi : i < 5) : rdI (F, J, σ) 109 (nI i) = some (F 109 i) := rdI_nI (Y_109 h) hi (by decide)
theorem rd_110 (h : Lay L σ) {i : Nat} (hi : i < 120) : rdI (F, J, σ) 110 (nI i) = some (F 110 i) := rdI_nI (Y_110 h) hi (by decide)
theorem n_1 {z : Nat} (hz : z < 2 ^ 31) (x : Int32) : (0 ≤ x ∧ x ≤ nI z - 1) ↔ (0 ≤ x ∧ x < nI z) := by
  refine and_congr Iff.rfl ?_
  rw [Int32.le_iff_toInt_le, Int32.lt_iff_toInt_lt, nI_prd hz, nI_toInt hz]
  omega
theorem m_in_z {z : Nat} (hz : z < 2 ^ 31) (x : Int32) : cI d 133 [.long x.toInt64, .long 0, .long (nI z - 1).toInt64] μ = some (b2i (0 ≤ x ∧ x < nI z), μ) := by
  rw [show cI d 133 [.long x.toInt64, .long 0, .long (nI z - 1).toInt64] μ = _ from m_in x 0 (nI z - 1)]
  exact congrArg (fun z => some (z, μ)) (b2i_congr (n_1 hz x))
theorem op_ask : OpI (Inv L xs) 114 221 2 := op2 fun q F J σ x w hq I => by
  have h := I.lay
  refine ⟨if 0 ≤ x ∧ x ≤ 4 then (if 0 ≤ w ∧ w ≤ 5 then (if F 106 x.toInt.toNat = 0 then -1000000011 else if F 106 x.toInt.toNat = 1 then (if ofI (F 107 x.toInt.toNat) w = 0 then -1000000012 else F 108 x.toInt.toNat) else -1000000012) else -1000000001) else -1000000001, F, J, σ, F, J, σ, ?_, h, rfl, ?_, I.up⟩
  · refine i_114 (d := 99) ?_
    rw [q_114_0 99, c_slotAt (d := 98) h]
    simp only [mS, Y_0 h, Option.bind_some]
    by_cases h1 : 0 ≤ x ∧ x ≤ 4
    · obtain ⟨i, hi, rfl⟩ := four5 h1
      simp only [if_pos h1, nI_toInt (show i < 2 ^ 31 by omega), Int.toNat_natCast]
      obtain ⟨s1, s2, s3, s4, s5⟩ := I.sl i hi
      rw [if_pos ⟨trivial, by decide⟩, if_pos (by omega), if_neg (by omega), c_isKind (d := 98)]
      simp only [Option.bind_some, b2i_0, mS, mR, mF, T_y h i hi, T_p h i hi, T_yp h i hi, s1]
      by_cases h2 : 0 ≤ w ∧ w ≤ 5
      · rw [if_neg (not_not_intro h2), if_pos h2, if_pos trivial]
        by_cases h3 : F 106 i = 0
        · rw [if_pos h3, if_pos h3]
        · rw [if_neg h3, if_neg h3]
          by_cases h4 : F 106 i = 1
          · obtain ⟨r1, r2, r3⟩ := s3 h4
            have e := c_isOf (d := 99) (μ := (F, J, σ)) (c := 80 + 4 * i) h.2.2.2.2.2.1 (congrArg Prod.fst (T_yp h i hi)) (by show 0 ≤ F (80 + 4 * i) 0; rw [← r1]; exact r2.1) (by show F (80 + 4 * i) 0 < 6; rw [← r1]; exact r2.2) w
            rw [show mF (F, J, σ) (80 + 4 * i) 0 = F 107 i from r1.symm] at e
            rw [if_pos h4, if_pos h4, if_pos ⟨trivial, by omega⟩, e]
            simp only [Option.bind_some, mS, mR, T_y h i hi, T_p h i hi, T_yp h i hi]
            by_cases h5 : ofI (F 107 i) w = 0
            · rw [if_pos h5, if_pos h5]
            · rw [if_neg h5, if_neg h5, if_pos trivial, if_pos ⟨trivial, by omega⟩, c_worth (T_yp h i hi), r3]
              rfl
          · rw [if_neg h4, if_neg h4]
      · rw [if_pos h2, if_neg h2]
    · simp only [if_neg h1]
      rw [if_pos ⟨trivial, by decide⟩]
      rfl
  · refine i_221 (d := 99) ?_
    rw [q_221_0 99, m_isSlot (d := 98)]
    simp only [Option.bind_some, b2i_0]
    by_cases h1 : 0 ≤ x ∧ x ≤ 4
    · rw [if_neg (not_not_intro h1), if_pos h1, m_in_0_5]
      simp only [Option.bind_some, b2i_0, mS, mR, Y_99 h, Z_99_7 h, Z_99_8 h, Z_99_9 h]
      by_cases h2 : 0 ≤ w ∧ w ≤ 5
      · obtain ⟨i, hi, rfl⟩ := four5 h1
        simp only [nI_toInt (show i < 2 ^ 31 by omega), Int.toNat_natCast, rd_106 h hi, rd_107 h hi, rd_108 h hi, Option.bind_some, m_isOf, mS, mR, Y_99 h, Z_99_9 h]
        rw [if_neg (not_not_intro h2), if_pos h2, if_pos trivial]
        by_cases h3 : F 106 i = 0
        · rw [if_pos h3, if_pos h3]
        · rw [if_neg h3, if_neg h3]
          by_cases h4 : F 106 i = 1
          · rw [if_pos h4, if_pos h4]
            by_cases h5 : ofI (F 107 i) w = 0
            · rw [if_pos h5, if_pos h5]
            · rw [if_neg h5, if_neg h5, if_pos trivial]
          · rw [if_neg h4, if_neg h4]
      · rw [if_pos h2, if_neg h2]
    · rw [if_pos h1, if_neg h1]
theorem op_rest : OpI (Inv L xs) 116 223 2 := op2 fun q F J σ x w hq I => by
  have h := I.lay
  refine ⟨if 0 ≤ x ∧ x ≤ 4 then (if F 106 x.toInt.toNat = 0 then -1000000011 else if F 106 x.toInt.toNat = 3 then (if w = 0 then -1000000002 else F 107 x.toInt.toNat - F 107 x.toInt.toNat / w * w) else -1000000012) else -1000000001, F, J, σ, F, J, σ, ?_, h, rfl, ?_, I.up⟩
  · refine i_116 (d := 99) ?_
    rw [q_116_0 99, c_slotAt (d := 98) h]
    simp only [mS, Y_0 h, Option.bind_some]
    by_cases h1 : 0 ≤ x ∧ x ≤ 4
    · obtain ⟨i, hi, rfl⟩ := four5 h1
      simp only [if_pos h1, nI_toInt (show i < 2 ^ 31 by omega), Int.toNat_natCast]
      obtain ⟨s1, s2, s3, s4, s5⟩ := I.sl i hi
      simp only [mF, T_y h i hi, s1]
      rw [if_pos ⟨trivial, by decide⟩, if_pos (by omega), if_neg (by omega), if_pos trivial]
      by_cases h3 : F 106 i = 0
      · rw [if_pos h3, if_pos h3]
      · rw [if_neg h3, if_neg h3]
        by_cases h4 : F 106 i = 3
        · rw [if_pos h4, if_pos h4]
          by_cases h5 : w = 0
          · rw [if_pos h5, if_pos h5]
          · rw [if_neg h5, if_neg h5, if_pos h5, s5 h4]
        · rw [if_neg h4, if_neg h4]
    · simp only [if_neg h1]
      rw [if_pos ⟨trivial, by decide⟩]
      rfl
  · refine i_223 (d := 99) ?_
    rw [q_223_0 99, m_isSlot (d := 98)]
    simp only [Option.bind_some, b2i_0]
    by_cases h1 : 0 ≤ x ∧ x ≤ 4
    · obtain ⟨i, hi, rfl⟩ := four5 h1
      simp only [nI_toInt (show i < 2 ^ 31 by omega), Int.toNat_natCast, rd_106 h hi, rd_107 h hi, Option.bind_some, mS, mR, Y_99 h, Z_99_7 h, Z_99_8 h]
      rw [if_neg (not_not_intro h1), if_pos h1, if_pos trivial]
      by_cases h4 : F 106 i = 3
      · have h3 : ¬ F 106 i = 0 := fun e => by rw [e] at h4; exact absurd h4 (by decide)
        rw [if_pos h4, if_neg h3, if_pos h4]
        by_cases h5 : w = 0
        · rw [if_pos h5, if_pos h5]
        · rw [if_neg h5, if_pos h5, if_neg h5]
      · rw [if_neg h4]
        by_cases h3 : F 106 i = 0
        · rw [if_pos h3, if_pos h3]
        · rw [if_neg h3, if_neg h3, if_neg h4]
    · rw [if_pos h1, if_neg h1]
theorem op_item : OpI (Inv L xs) 115 222 2 := op2 fun q F J σ x w hq I => by
  have h := I.lay
  by_cases h1 : 0 ≤ x ∧ x ≤ 4
  · obtain ⟨i, hi, rfl⟩ := four5 h1
    have en : (nI i).toInt.toNat = i := by rw [nI_toInt (by omega), Int.toNat_natCast]
    obtain ⟨s1, s2, s3, s4, s5⟩ := I.sl i hi
    by_cases h4 : F 106 i = 2
    · have h3 : ¬ F 106 i = 0 := fun e => by rw [e] at h4; exact absurd h4 (by decide)
      obtain ⟨z, z1, z2, z3, z4⟩ := s4 h4
      have c1 := c_hasPlace (d := 99) (J := J) (T_yr h i hi) z2 z1 w
      have c2 := c_isNumber (d := 98) (J := J) (T_yr h i hi) (by omega) (T_c h i hi) (T_yc h i hi) z2 z1 w
      refine ⟨if 0 ≤ w ∧ w < nI z then (if F 110 (24 * i + w.toInt.toNat) = -1000000005 then -1000000012 else F 110 (24 * i + w.toInt.toNat)) else -1000000013, F, J, σ, F, J, σ, ?_, h, rfl, ?_, I.up⟩
      · refine i_115 (d := 99) ?_
        rw [q_115_0 99, c_slotAt (d := 98) h]
        simp only [mS, mR, mF, Y_0 h, Option.bind_some, if_pos h1, en, T_y h i hi, T_r h i hi, T_yr h i hi, T_c h i hi, s1, c1, b2i_0, c2]
        rw [if_pos ⟨trivial, by decide⟩, if_pos (by omega), if_neg (by omega), if_pos trivial, if_neg h3, if_pos h4, if_pos ⟨trivial, by omega⟩]
        by_cases h5 : 0 ≤ w ∧ w < nI z
        · rw [if_neg (not_not_intro h5), if_pos h5, if_pos trivial, if_pos ⟨trivial, by omega⟩, if_pos trivial]
          obtain ⟨j, hj, rfl⟩ := (nI_ex (by omega)).mp h5
          have ej : (nI j).toInt.toNat = j := by rw [nI_toInt (by omega), Int.toNat_natCast]
          rw [ej, z4 j (by omega)]
          by_cases h6 : F 110 (24 * i + j) = -1000000005
          · rw [if_pos (fun hh => hh.2 h6), if_pos h6]
          · rw [if_neg (not_not_intro ⟨h5, h6⟩), if_neg h6, if_pos trivial, rd_k (T_yc h i hi) (by omega) (by decide), z4 j (by omega)]
            rfl
        · rw [if_pos h5, if_neg h5]
      · refine i_222 (d := 99) ?_
        rw [q_222_0 99, m_isSlot (d := 98)]
        simp only [Option.bind_some, b2i_0, rd_106 h hi, rd_109 h hi, mS, mR, Y_99 h, Z_99_7 h, Z_99_10 h, Z_99_11 h, z3, m_in_z (show z < 2 ^ 31 by omega)]
        rw [if_neg (not_not_intro h1), if_pos trivial, if_pos h4]
        by_cases h5 : 0 ≤ w ∧ w < nI z
        · rw [if_neg (not_not_intro h5), if_pos h5, if_pos trivial]
          obtain ⟨j, hj, rfl⟩ := (nI_ex (by omega)).mp h5
          have ej : (nI j).toInt.toNat = j := by rw [nI_toInt (by omega), Int.toNat_natCast]
          rw [ej, i24, rd_110 h (by omega), Option.bind_some]
          by_cases h6 : F 110 (24 * i + j) = -1000000005
          · rw [if_pos h6, if_pos h6]
          · rw [if_neg h6, if_neg h6]
        · rw [if_pos h5, if_neg h5]
    · refine ⟨if F 106 i = 0 then -1000000011 else -1000000012, F, J, σ, F, J, σ, ?_, h, rfl, ?_, I.up⟩
      · refine i_115 (d := 99) ?_
        rw [q_115_0 99, c_slotAt (d := 98) h]
        simp only [mS, mF, Y_0 h, Option.bind_some, if_pos h1, en, T_y h i hi, s1]
        rw [if_pos ⟨trivial, by decide⟩, if_pos (by omega), if_neg (by omega), if_pos trivial]
        by_cases h3 : F 106 i = 0
        · rw [if_pos h3, if_pos h3]
        · rw [if_neg h3, if_neg h3, if_neg h4]
      · refine i_222 (d := 99) ?_
        rw [q_222_0 99, m_isSlot (d := 98)]
        simp only [Option.bind_some, b2i_0, rd_106 h hi, mS, mR, Y_99 h, Z_99_7 h]
        rw [if_neg (not_not_intro h1), if_pos trivial, if_neg h4]
        by_cases h3 : F 106 i = 0
        · rw [if_pos h3, if_pos h3]
        · rw [if_neg h3, if_neg h3]
  · refine ⟨-1000000001, F, J, σ, F, J, σ, ?_, h, rfl, ?_, I.up⟩
    · refine i_115 (d := 99) ?_
      rw [q_115_0 99, c_slotAt (d := 98) h]
      simp only [mS, Y_0 h, Option.bind_some, if_neg h1]
      rw [if_pos ⟨trivial, by decide⟩]
      rfl
    · refine i_222 (d := 99) ?_
      rw [q_222_0 99, m_isSlot (d := 98)]
      simp only [Option.bind_some, b2i_0]
      rw [if_pos h1]
end OPG
