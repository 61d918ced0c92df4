/-! SHEET, MARK, COPY. -/
section OPF
variable {L d : Nat} {F F' : Nat → Nat → Int32} {J : Nat → Nat → Int64} {σ : aSg} {μ : aMem} {s s' xs : Nat → Int32}
theorem c_become (h : Lay L σ) {i : Nat} (hi : i < 4) (a b : Int32) : cV (d + 1) 67 [.ref (70 + 2 * i), .int a, .int b] (F, J, σ) = some (up1 (up1 F (70 + 2 * i) (up1 (up1 (F (70 + 2 * i)) 1 a) 2 b)) (71 + 2 * i) (fun j => if j < 24 then 0 else F (71 + 2 * i) j), J, σ) := by
  refine i_67 (v := none) ?_
  rw [q_67_0]
  simp only [mS, mR, S_y h i hi, S_c h i hi, setF_up, up1_s, up1_up1, if_true]
  rw [c_fill (S_yc h i hi) (by decide), Option.bind_some, up1_ne _ _ (show 71 + 2 * i ≠ 70 + 2 * i by omega)]
theorem i24 (i j : Nat) : (24 : Int32) * nI i + nI j = nI (24 * i + j) := by rw [show (24 : Int32) = nI 24 from rfl, pk_mul, nI_add]
theorem rd_103 (h : Lay L σ) {i : Nat} (hi : i < 4) : rdI (F, J, σ) 103 (nI i) = some (F 103 i) := rdI_nI (Y_103 h) hi (by decide)
theorem rd_104 (h : Lay L σ) {i : Nat} (hi : i < 4) : rdI (F, J, σ) 104 (nI i) = some (F 104 i) := rdI_nI (Y_104 h) hi (by decide)
theorem rd_105 (h : Lay L σ) {i : Nat} (hi : i < 96) : rdI (F, J, σ) 105 (nI i) = some (F 105 i) := rdI_nI (Y_105 h) hi (by decide)
theorem m_sheetL (h : Lay L σ) {i : Nat} (hi : i < 4) (a b : Int32) : ∀ (n k : Nat) (f : Nat → Int32), k + n = 24 → Rn (d + 1) 214 (69, [.ref 99, .int (nI i), .int a, .int b, .int (nI k)], [], (up1 F 105 f, J, σ)) = some (some (.int (F 104 i)), (up1 F 105 (fun j => if 24 * i + k ≤ j ∧ j < 24 * i + 24 then 0 else f j), J, σ))
  | 0, k, f, e => by
    rw [q_214_69]
    simp only [mS, mR, Y_99 h, Z_99_5 h]
    rw [if_pos (show (24 : Int32) ≤ nI k from yle (a := 24) (by omega) (by omega)), if_pos trivial, rd_104 h hi, Option.bind_some, up1_ne _ _ (by decide)]
    have : (fun j => if 24 * i + k ≤ j ∧ j < 24 * i + 24 then 0 else f j) = f := by
      funext j
      rw [if_neg (by omega)]
    rw [this]
  | n + 1, k, f, e => by
    rw [q_214_69]
    simp only [mS, mR, Y_99 h, Z_99_6 h, Y_105 h, setF_up, up1_s, up1_up1, i24, ix_nI (show 24 * i + k < 2 ^ 31 by omega), if_true]
    rw [if_neg (show ¬ (24 : Int32) ≤ nI k from nle (a := 24) (by omega) (by decide)), if_pos ⟨trivial, inb_nI (by omega) (by decide)⟩, nI_s, m_sheetL h hi a b n (k + 1) _ (by omega)]
    have : (fun j => if 24 * i + (k + 1) ≤ j ∧ j < 24 * i + 24 then 0 else up1 f (24 * i + k) 0 j) = fun j => if 24 * i + k ≤ j ∧ j < 24 * i + 24 then 0 else f j := by
      funext j
      unfold up1
      by_cases c : j = 24 * i + k
      · rw [if_pos c, if_pos (show 24 * i + k ≤ j ∧ j < 24 * i + 24 by omega)]
        exact ite_self _
      · rw [if_neg c]
        by_cases c2 : 24 * i + (k + 1) ≤ j ∧ j < 24 * i + 24
        · rw [if_pos c2, if_pos (by omega)]
        · rw [if_neg c2, if_neg (by omega)]
    rw [this]
/-- what a sheet that is made anew leaves on both sides -/
def shF (F : Nat → Nat → Int32) (i : Nat) (a b : Int32) : Nat → Nat → Int32 := up1 (up1 F (70 + 2 * i) (up1 (up1 (F (70 + 2 * i)) 1 a) 2 b)) (71 + 2 * i) (fun j => if j < 24 then 0 else F (71 + 2 * i) j)
def shG (F : Nat → Nat → Int32) (i : Nat) (a b : Int32) : Nat → Nat → Int32 := up1 (up1 (up1 F 103 (up1 (F 103) i a)) 104 (up1 (F 104) i b)) 105 (fun j => if 24 * i + 0 ≤ j ∧ j < 24 * i + 24 then 0 else F 105 j)
theorem IV_shFG {q i z : Nat} {a : Int32} (I : IV L xs q F σ) (hi : i < 4) (hz : z ≤ 24) (ha : a = -1 ∨ a = 0 ∨ a = 1) : IV L xs (q + 1) (shG (shF F i a (nI z)) i a (nI z)) σ := by
  have f1 : ∀ x, x ≠ 70 + 2 * i → x ≠ 71 + 2 * i → shF F i a (nI z) x = F x := fun x h1 h2 => by unfold shF; rw [up1_ne _ _ h2, up1_ne _ _ h1]
  have f2 : ∀ (G : Nat → Nat → Int32) x, x ≠ 103 → x ≠ 104 → x ≠ 105 → shG G i a (nI z) x = G x := fun G x h1 h2 h3 => by unfold shG; rw [up1_ne _ _ h3, up1_ne _ _ h2, up1_ne _ _ h1]
  have g3 : shG (shF F i a (nI z)) i a (nI z) 103 = up1 (F 103) i a := by
    rw [← f1 103 (by omega) (by omega)]; rfl
  have g4 : shG (shF F i a (nI z)) i a (nI z) 104 = up1 (F 104) i (nI z) := by
    rw [← f1 104 (by omega) (by omega)]; rfl
  have g5 : shG (shF F i a (nI z)) i a (nI z) 105 = (fun j => if 24 * i + 0 ≤ j ∧ j < 24 * i + 24 then 0 else F 105 j) := by
    rw [← f1 105 (by omega) (by omega)]; rfl
  have c0 : shG (shF F i a (nI z)) i a (nI z) (70 + 2 * i) = up1 (up1 (F (70 + 2 * i)) 1 a) 2 (nI z) := by
    rw [f2 _ _ (by omega) (by omega) (by omega)]; unfold shF; rw [up1_ne _ _ (by omega), up1_s]
  have c1 : shG (shF F i a (nI z)) i a (nI z) (71 + 2 * i) = fun j => if j < 24 then 0 else F (71 + 2 * i) j := by
    rw [f2 _ _ (by omega) (by omega) (by omega)]; unfold shF; rw [up1_s]
  refine IV_sh I hi (fun x h1 h2 h3 h4 h5 _ _ => by rw [f2 _ _ h3 h4 h5, f1 _ h1 h2]) (fun k hk _ => ?_) ?_
  · rw [g3, g4, g5]
    refine ⟨up1_n _ _ hk, up1_n _ _ hk, fun j hj => ?_⟩
    show (if _ then _ else _) = _
    rw [if_neg (by omega)]
  · refine ⟨z, hz, ?_, ?_, ?_, ?_, fun j hj => ?_⟩
    · rw [c0, g3, up1_s]; rfl
    · rw [c0, up1_s]
    · rw [g4, up1_s]
    · rw [g3, up1_s]; exact ha
    · rw [c1, g5]
      have e : (fun j => if 24 * i + 0 ≤ j ∧ j < 24 * i + 24 then 0 else F 105 j) (24 * i + j) = 0 := if_pos (by omega)
      rw [e]
      exact ⟨if_pos hj, by decide⟩
theorem op_sheet : OpI (Inv L xs) 108 214 3 := op3 fun q F J σ x so nn hq I => by
  have h := I.lay
  have c213 := fun (G : Nat → Nat → Int32) => m_isSheet (d := 98) (μ := (G, J, σ)) x
  have c133 := fun (G : Nat → Nat → Int32) => (show cI 99 133 [.long so.toInt64, .long (-1), .long 1] (G, J, σ) = _ from m_in so (-1) 1)
  by_cases h1 : 0 ≤ x ∧ x ≤ 3
  · obtain ⟨i, hi, rfl⟩ := three4 h1
    have en : (nI i).toInt.toNat = i := by rw [nI_toInt (by omega), Int.toNat_natCast]
    by_cases h2 : -1 ≤ so ∧ so ≤ 1
    · have h103 : ∀ (G : Nat → Nat → Int32) (a b : Int32), (mS (G, J, σ) (mR (G, J, σ) 99 4)).1 = 10 := fun G a b => by simp only [mS, mR, Z_99_4 h, Y_103 h]
      have mm : ∀ (G : Nat → Nat → Int32) (b : Int32), Rn 100 214 (69, [.ref 99, .int (nI i), .int so, .int nn, .int 0], [], (up1 (up1 G 103 (up1 (G 103) i so)) 104 (up1 (G 104) i b), J, σ)) = some (some (.int b), (shG G i so b, J, σ)) := fun G b => by
        have g := m_sheetL (d := 99) (J := J) (F := up1 (up1 G 103 (up1 (G 103) i so)) 104 (up1 (G 104) i b)) h hi so nn 24 0 (G 105) rfl
        rw [up1_s, up1_s] at g
        have e : up1 (up1 (up1 G 103 (up1 (G 103) i so)) 104 (up1 (G 104) i b)) 105 (G 105) = up1 (up1 G 103 (up1 (G 103) i so)) 104 (up1 (G 104) i b) := by
          funext a
          unfold up1
          by_cases c : a = 105
          · simp [c]
          · simp [c]
        rw [e] at g
        exact g
      by_cases h3 : so = -1
      · subst h3
        refine ⟨0, shF F i (-1) 0, J, σ, shG (shF F i (-1) 0) i (-1) 0, J, σ, ?_, h, ?_, ?_, IV_shFG (z := 0) I hi (by decide) (Or.inl rfl)⟩
        · refine i_108 (d := 99) ?_
          rw [q_108_0 99, c_sheetAt (d := 98) h]
          simp only [mS, Y_0 h, Option.bind_some, if_pos h1, en]
          rw [if_pos ⟨trivial, by decide⟩, if_pos (by omega), if_neg (by omega), c_within]
          simp only [Option.bind_some, b2i_0, mS, S_y h i hi]
          rw [if_neg (not_not_intro h2), if_pos trivial, if_pos ⟨trivial, by omega⟩, c_become (d := 98) h hi]
          rfl
        · unfold shF; rw [up1_ne _ _ (by omega), up1_ne _ _ (by omega)]
        · refine i_214 (d := 99) ?_
          rw [q_214_0 99, c213]
          simp only [Option.bind_some, b2i_0]
          rw [if_neg (not_not_intro h1), c133]
          simp only [Option.bind_some, b2i_0, mS, mR, Y_99 h, Z_99_4 h, Z_99_5 h, Y_103 h, Y_104 h, setF_up, ix_nI (show i < 2 ^ 31 by omega)]
          rw [if_neg (not_not_intro h2), if_pos (by decide), if_pos trivial, if_pos ⟨trivial, inb_nI hi (by decide)⟩, if_neg (by decide), if_pos ⟨trivial, inb_nI hi (by decide)⟩, up1_ne _ _ (show 104 ≠ 103 by decide)]
          exact mm _ _
      · have h0 : 0 ≤ so := by
          have q1 : (-1 : Int) ≤ so.toInt := Int32.le_iff_toInt_le.mp h2.1
          have q2 : ¬ so.toInt = -1 := fun e => h3 (Int32.toInt_inj.mp e)
          rw [Int32.le_iff_toInt_le]
          show (0 : Int) ≤ so.toInt
          omega
        by_cases h4 : nn ≤ 24
        · by_cases h5 : 0 ≤ nn
          · obtain ⟨z, hz, rfl⟩ : ∃ z, z < 25 ∧ nn = nI z := (nI_ex (n := 25) (by decide)).mp ⟨h5, by have e5 : nn.toInt ≤ 24 := Int32.le_iff_toInt_le.mp h4; rw [Int32.lt_iff_toInt_lt]; show nn.toInt < 25; omega⟩
            have ha : so = -1 ∨ so = 0 ∨ so = 1 := by
              have q1 : (0 : Int) ≤ so.toInt := Int32.le_iff_toInt_le.mp h0
              have q2 : so.toInt ≤ 1 := Int32.le_iff_toInt_le.mp h2.2
              rcases (show so.toInt = 0 ∨ so.toInt = 1 by omega) with e | e
              · exact Or.inr (Or.inl (Int32.toInt_inj.mp e))
              · exact Or.inr (Or.inr (Int32.toInt_inj.mp e))
            refine ⟨nI z, shF F i so (nI z), J, σ, shG (shF F i so (nI z)) i so (nI z), J, σ, ?_, h, ?_, ?_, IV_shFG I hi (by omega) ha⟩
            · refine i_108 (d := 99) ?_
              rw [q_108_0 99, c_sheetAt (d := 98) h]
              simp only [mS, Y_0 h, Option.bind_some, if_pos h1, en]
              rw [if_pos ⟨trivial, by decide⟩, if_pos (by omega), if_neg (by omega), c_within]
              simp only [Option.bind_some, b2i_0, mS, S_y h i hi]
              rw [if_neg (not_not_intro h2), if_neg h3, if_pos h4, if_pos h5, if_pos ⟨trivial, by omega⟩, c_become (d := 98) h hi]
              rfl
            · unfold shF; rw [up1_ne _ _ (by omega), up1_ne _ _ (by omega)]
            · refine i_214 (d := 99) ?_
              rw [q_214_0 99, c213]
              simp only [Option.bind_some, b2i_0]
              rw [if_neg (not_not_intro h1), c133]
              simp only [Option.bind_some, b2i_0, mS, mR, Y_99 h, Z_99_4 h, Z_99_5 h, Y_103 h, Y_104 h, setF_up, ix_nI (show i < 2 ^ 31 by omega)]
              rw [if_neg (not_not_intro h2), if_neg (Int32.not_lt.mpr h0), if_pos h4, if_pos h5, if_pos trivial, if_pos ⟨trivial, inb_nI hi (by decide)⟩, if_pos h0, if_pos ⟨trivial, inb_nI hi (by decide)⟩, up1_ne _ _ (show 104 ≠ 103 by decide)]
              exact mm _ _
          · refine ⟨-1000000014, F, J, σ, F, J, σ, ?_, h, rfl, ?_, I.up⟩
            · refine i_108 (d := 99) ?_
              rw [q_108_0 99, c_sheetAt (d := 98) h]
              simp only [mS, Y_0 h, Option.bind_some, if_pos h1, en]
              rw [if_pos ⟨trivial, by decide⟩, if_pos (by omega), if_neg (by omega), c_within]
              simp only [Option.bind_some, b2i_0]
              rw [if_neg (not_not_intro h2), if_neg h3, if_pos h4, if_neg h5]
            · refine i_214 (d := 99) ?_
              rw [q_214_0 99, c213]
              simp only [Option.bind_some, b2i_0]
              rw [if_neg (not_not_intro h1), c133]
              simp only [Option.bind_some, b2i_0]
              rw [if_neg (not_not_intro h2), if_neg (Int32.not_lt.mpr h0), if_pos h4, if_neg h5]
        · refine ⟨-1000000001, F, J, σ, F, J, σ, ?_, h, rfl, ?_, I.up⟩
          · refine i_108 (d := 99) ?_
            rw [q_108_0 99, c_sheetAt (d := 98) h]
            simp only [mS, Y_0 h, Option.bind_some, if_pos h1, en]
            rw [if_pos ⟨trivial, by decide⟩, if_pos (by omega), if_neg (by omega), c_within]
            simp only [Option.bind_some, b2i_0]
            rw [if_neg (not_not_intro h2), if_neg h3, if_neg h4]
          · refine i_214 (d := 99) ?_
            rw [q_214_0 99, c213]
            simp only [Option.bind_some, b2i_0]
            rw [if_neg (not_not_intro h1), c133]
            simp only [Option.bind_some, b2i_0]
            rw [if_neg (not_not_intro h2), if_neg (Int32.not_lt.mpr h0), if_neg h4]
    · refine ⟨-1000000001, F, J, σ, F, J, σ, ?_, h, rfl, ?_, I.up⟩
      · refine i_108 (d := 99) ?_
        rw [q_108_0 99, c_sheetAt (d := 98) h]
        simp only [mS, Y_0 h, Option.bind_some, if_pos h1, en]
        rw [if_pos ⟨trivial, by decide⟩, if_pos (by omega), if_neg (by omega), c_within]
        simp only [Option.bind_some, b2i_0]
        rw [if_pos h2]
      · refine i_214 (d := 99) ?_
        rw [q_214_0 99, c213]
        simp only [Option.bind_some, b2i_0]
        rw [if_neg (not_not_intro h1), c133]
        simp only [Option.bind_some, b2i_0]
        rw [if_pos h2]
  · refine ⟨-1000000001, F, J, σ, F, J, σ, ?_, h, rfl, ?_, I.up⟩
    · refine i_108 (d := 99) ?_
      rw [q_108_0 99, c_sheetAt (d := 98) h]
      simp only [mS, Y_0 h, Option.bind_some, if_neg h1]
      rw [if_pos ⟨trivial, by decide⟩, if_pos (by omega)]
      rfl
    · refine i_214 (d := 99) ?_
      rw [q_214_0 99, c213]
      simp only [Option.bind_some, b2i_0]
      rw [if_pos h1]
end OPF
