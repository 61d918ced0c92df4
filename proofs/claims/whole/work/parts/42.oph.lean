/-! MARK, COPY. -/
section OPH
variable {L d : Nat} {F F' : Nat → Nat → Int32} {J : Nat → Nat → Int64} {σ : aSg} {μ : aMem} {s s' xs : Nat → Int32}
theorem sh16_n (x : Int32) : ((x <<< ((16 : Int32) &&& 31)) >>> ((16 : Int32) &&& 31)).toInt = x.toInt16.toInt := by
  rw [pk_shr _ _ 16 (by decide), Int.shiftRight_eq_div_pow, bv_cond, pk_shl x _ 16 (by decide), Int32.toInt_toInt16, bv_cond x]
  have := x.toBitVec.isLt
  rw [Int.bmod_def]
  split <;> split <;> split <;> omega
theorem sh16 (x : Int32) : (x <<< ((16 : Int32) &&& 31)) >>> ((16 : Int32) &&& 31) = x.toInt16.toInt32 := by
  apply Int32.toInt_inj.mp
  rw [sh16_n, Int16.toInt_toInt32]
theorem vk16 (x : Int32) : VK x.toInt16.toInt32 := by
  refine Or.inr ⟨?_, ?_⟩
  · rw [Int32.le_iff_toInt_le, Int16.toInt_toInt32]
    have := Int16.le_toInt x.toInt16
    show (-99999 : Int) ≤ _
    omega
  · rw [Int32.le_iff_toInt_le, Int16.toInt_toInt32]
    have := Int16.toInt_lt x.toInt16
    show _ ≤ (99999 : Int)
    omega
def mkF (F : Nat → Nat → Int32) (i j : Nat) (v : Int32) : Nat → Nat → Int32 := up1 F (71 + 2 * i) (up1 (F (71 + 2 * i)) j v)
def mkG (F : Nat → Nat → Int32) (i j : Nat) (v : Int32) : Nat → Nat → Int32 := up1 F 105 (up1 (F 105) (24 * i + j) v)
theorem IV_mark {q i j : Nat} {v : Int32} (I : IV L xs q F σ) (hi : i < 4) (hj : j < 24) (hv : VK v) : IV L xs (q + 1) (mkG (mkF F i j v) i j v) σ := by
  have f1 : ∀ x, x ≠ 71 + 2 * i → mkF F i j v x = F x := fun x h1 => by unfold mkF; rw [up1_ne _ _ h1]
  have f2 : ∀ (G : Nat → Nat → Int32) x, x ≠ 105 → mkG G i j v x = G x := fun G x h3 => by unfold mkG; rw [up1_ne _ _ h3]
  have g5 : mkG (mkF F i j v) i j v 105 = up1 (F 105) (24 * i + j) v := by
    rw [← f1 105 (by omega)]; unfold mkG; rw [up1_s]
  have c1 : mkG (mkF F i j v) i j v (71 + 2 * i) = up1 (F (71 + 2 * i)) j v := by
    rw [f2 _ _ (by omega)]; unfold mkF; rw [up1_s]
  have o : ∀ x, x ≠ 105 → x ≠ 71 + 2 * i → mkG (mkF F i j v) i j v x = F x := fun x h1 h2 => by rw [f2 _ _ h1, f1 _ h2]
  refine IV_sh I hi (fun x h1 h2 h3 h4 h5 _ _ => o x h5 h2) (fun k hk _ => ?_) ?_
  · rw [o 103 (by decide) (by omega), o 104 (by decide) (by omega), g5]
    exact ⟨rfl, rfl, fun j' hj' => up1_n _ _ (by omega)⟩
  · obtain ⟨z, z1, z2, z3, z4, z5, z6⟩ := I.sh i hi
    unfold SH
    rw [o (70 + 2 * i) (by omega) (by omega), o 103 (by decide) (by omega), o 104 (by decide) (by omega), g5, c1]
    refine ⟨z, z1, z2, z3, z4, z5, fun j' hj' => ?_⟩
    by_cases e : j' = j
    · subst e
      rw [up1_s, up1_s]
      exact ⟨rfl, hv⟩
    · rw [up1_n _ _ e, up1_n _ _ (by omega)]
      exact z6 j' hj'
theorem m_in_99999 (x : Int32) : cI d 133 [.long x.toInt64, .long (-99999), .long 99999] μ = some (b2i (-99999 ≤ x ∧ x ≤ 99999), μ) := m_in x (-99999) 99999
theorem op_mark : OpI (Inv L xs) 109 215 3 := op3 fun q F J σ x w v hq I => by
  have h := I.lay
  by_cases h1 : 0 ≤ x ∧ x ≤ 3
  · obtain ⟨i, hi, rfl⟩ := three4 h1
    have en : (nI i).toInt.toNat = i := by rw [nI_toInt (by omega), Int.toNat_natCast]
    obtain ⟨z, z1, z2, z3, z4, z5, z6⟩ := I.sh i hi
    have hp := c_hasPlace (d := 99) (J := J) (S_y h i hi) z3 z1 w
    have t9 : True ∧ 70 + 2 * i < 999999 := ⟨trivial, by omega⟩
    have t0 : True ∧ 0 < 999999 := ⟨trivial, by decide⟩
    have le9 : 70 + 2 * i ≤ 999999 := by omega
    have ne9 : ¬ 70 + 2 * i = 999999 := by omega
    have n1 : ¬ (-1 : Int32) = 0 := by decide
    -- the class up to the sheet
    have pre : ∀ r, (if F 103 i = -1 then some (some (.int (-1000000011)), (F, J, σ)) else ((some (b2i (0 ≤ w ∧ w < nI z), ((F, J, σ) : aMem))).bind fun p7 => if p7.1 = 0 then (some (some (.int (-1000000013)), p7.2)) else (if F 103 i = 0 then (if v = (-1000000005) then (some (some (.int (-1000000012)), (F, J, σ))) else (if inb w 24 then (some (some (.int 1), setF (F, J, σ) (71 + 2 * i) (ix w) v.toInt16.toInt32)) else none)) else (if v = (-1000000005) then (if inb w 24 then (some (some (.int 1), setF (F, J, σ) (71 + 2 * i) (ix w) v)) else none) else (if ¬ (-99999 ≤ v ∧ v ≤ 99999) then (some (some (.int (-1000000001)), (F, J, σ))) else (if inb w 24 then (some (some (.int 1), setF (F, J, σ) (71 + 2 * i) (ix w) v)) else none)))))) = some r → Rn 100 109 (0, [.ref 0, .int (nI i), .int w, .int v, un], [], (F, J, σ)) = some r := by
      intro r hr
      rw [q_109_0 99, c_sheetAt (d := 98) h]
      simp only [mS, mR, mF, Y_0 h, Option.bind_some, if_pos h1, en, if_pos t0, if_pos t0.2, if_pos t9.2, if_pos le9, if_neg ne9, S_y h i hi, S_c h i hi, S_yc h i hi, z2, hp, if_true, if_pos t9, c_within, b2i_0, true_and] at hr ⊢
      exact hr
    have mid : ∀ (G : Nat → Nat → Int32), G 103 = F 103 → G 104 = F 104 → ∀ r, (if F 103 i = -1 then some (some (.int (-1000000011)), (G, J, σ)) else (if ¬ (0 ≤ w ∧ w < nI z) then (some (some (.int (-1000000013)), (G, J, σ))) else (if F 103 i = 0 then (if v = (-1000000005) then (some (some (.int (-1000000012)), (G, J, σ))) else (if inb (24 * nI i + w) 96 then (some (some (.int 1), setF (G, J, σ) 105 (ix (24 * nI i + w)) v.toInt16.toInt32)) else none)) else (if v = (-1000000005) then (if inb (24 * nI i + w) 96 then (some (some (.int 1), setF (G, J, σ) 105 (ix (24 * nI i + w)) v)) else none) else (if ¬ (-99999 ≤ v ∧ v ≤ 99999) then (some (some (.int (-1000000001)), (G, J, σ))) else (if inb (24 * nI i + w) 96 then (some (some (.int 1), setF (G, J, σ) 105 (ix (24 * nI i + w)) v)) else none)))))) = some r → Rn 100 215 (0, [.ref 99, .int (nI i), .int w, .int v], [], (G, J, σ)) = some r := by
      intro G e3 e4 r hr
      rw [q_215_0 99, m_isSheet (d := 98)]
      simp only [mS, mR, Y_99 h, Z_99_4 h, Z_99_5 h, Z_99_6 h, Y_105 h, Option.bind_some, b2i_0, rd_103 h hi, rd_104 h hi, e3, e4, z4, if_true, true_and, m_in_99999, m_in_z (show z < 2 ^ 31 by omega), sh16]
      rw [if_neg (not_not_intro h1)]
      rcases z5 with c | c | c
      · rw [c] at hr ⊢
        rw [if_pos rfl] at hr
        rw [if_neg (by decide)]
        exact hr
      · rw [c] at hr ⊢
        rw [if_neg (by decide)] at hr
        simp only [if_true, if_neg (show ¬ (0 : Int32) = 1 by decide), if_pos (show (0 : Int32) ≤ 0 by decide)] at hr ⊢
        exact hr
      · rw [c] at hr ⊢
        rw [if_neg (by decide)] at hr
        simp only [if_true, if_neg (show ¬ (1 : Int32) = 0 by decide), if_pos (show (0 : Int32) ≤ 1 by decide)] at hr ⊢
        exact hr
    by_cases a1 : F 103 i = -1
    · refine ⟨-1000000011, F, J, σ, F, J, σ, i_109 (d := 99) (pre _ ?_), h, rfl, i_215 (d := 99) (mid F rfl rfl _ ?_), I.up⟩
      · rw [if_pos a1]
      · rw [if_pos a1]
    · by_cases a2 : 0 ≤ w ∧ w < nI z
      · obtain ⟨j, hj, rfl⟩ := (nI_ex (by omega)).mp a2
        have ib : inb (nI j) 24 := inb_nI (by omega) (by decide)
        have ib2 : inb (24 * nI i + nI j) 96 := by rw [i24]; exact inb_nI (by omega) (by decide)
        have ixj : ix (nI j) = j := ix_nI (by omega)
        have ix2 : ix (24 * nI i + nI j) = 24 * i + j := by rw [i24]; exact ix_nI (by omega)
        have b1 : ¬ b2i (0 ≤ nI j ∧ nI j < nI z) = 0 := by rw [b2i_0]; exact not_not_intro a2
        have g3 : ∀ u, mkF F i j u 103 = F 103 := fun u => up1_ne _ _ (by omega)
        have g4 : ∀ u, mkF F i j u 104 = F 104 := fun u => up1_ne _ _ (by omega)
        have gx : ∀ u, mkF F i j u 1000014 = F 1000014 := fun u => up1_ne _ _ (by omega)
        by_cases a3 : F 103 i = 0
        · by_cases a4 : v = -1000000005
          · refine ⟨-1000000012, F, J, σ, F, J, σ, i_109 (d := 99) (pre _ ?_), h, rfl, i_215 (d := 99) (mid F rfl rfl _ ?_), I.up⟩
            · rw [if_neg a1, Option.bind_some, if_neg b1, if_pos a3, if_pos a4]
            · rw [if_neg a1, if_neg (not_not_intro a2), if_pos a3, if_pos a4]
          · refine ⟨1, mkF F i j v.toInt16.toInt32, J, σ, mkG (mkF F i j v.toInt16.toInt32) i j v.toInt16.toInt32, J, σ, i_109 (d := 99) (pre _ ?_), h, gx _, i_215 (d := 99) (mid _ (g3 _) (g4 _) _ ?_), IV_mark I hi (by omega) (vk16 v)⟩
            · rw [if_neg a1, Option.bind_some, if_neg b1, if_pos a3, if_neg a4, if_pos ib, ixj]; rfl
            · rw [if_neg a1, if_neg (not_not_intro a2), if_pos a3, if_neg a4, if_pos ib2, ix2]; rfl
        · by_cases a4 : v = -1000000005
          · refine ⟨1, mkF F i j v, J, σ, mkG (mkF F i j v) i j v, J, σ, i_109 (d := 99) (pre _ ?_), h, gx _, i_215 (d := 99) (mid _ (g3 _) (g4 _) _ ?_), IV_mark I hi (by omega) (Or.inl a4)⟩
            · rw [if_neg a1, Option.bind_some, if_neg b1, if_neg a3, if_pos a4, if_pos ib, ixj]; rfl
            · rw [if_neg a1, if_neg (not_not_intro a2), if_neg a3, if_pos a4, if_pos ib2, ix2]; rfl
          · by_cases a5 : -99999 ≤ v ∧ v ≤ 99999
            · refine ⟨1, mkF F i j v, J, σ, mkG (mkF F i j v) i j v, J, σ, i_109 (d := 99) (pre _ ?_), h, gx _, i_215 (d := 99) (mid _ (g3 _) (g4 _) _ ?_), IV_mark I hi (by omega) (Or.inr a5)⟩
              · rw [if_neg a1, Option.bind_some, if_neg b1, if_neg a3, if_neg a4, if_neg (not_not_intro a5), if_pos ib, ixj]; rfl
              · rw [if_neg a1, if_neg (not_not_intro a2), if_neg a3, if_neg a4, if_neg (not_not_intro a5), if_pos ib2, ix2]; rfl
            · refine ⟨-1000000001, F, J, σ, F, J, σ, i_109 (d := 99) (pre _ ?_), h, rfl, i_215 (d := 99) (mid F rfl rfl _ ?_), I.up⟩
              · rw [if_neg a1, Option.bind_some, if_neg b1, if_neg a3, if_neg a4, if_pos a5]
              · rw [if_neg a1, if_neg (not_not_intro a2), if_neg a3, if_neg a4, if_pos a5]
      · refine ⟨-1000000013, F, J, σ, F, J, σ, i_109 (d := 99) (pre _ ?_), h, rfl, i_215 (d := 99) (mid F rfl rfl _ ?_), I.up⟩
        · rw [if_neg a1, Option.bind_some, if_pos (by rw [b2i_0]; exact a2)]
        · rw [if_neg a1, if_pos a2]
  · refine ⟨-1000000001, F, J, σ, F, J, σ, ?_, h, rfl, ?_, I.up⟩
    · refine i_109 (d := 99) ?_
      rw [q_109_0 99, c_sheetAt (d := 98) h]
      simp only [mS, Y_0 h, Option.bind_some, if_neg h1]
      rw [if_pos ⟨trivial, by decide⟩]
      rfl
    · refine i_215 (d := 99) ?_
      rw [q_215_0 99, m_isSheet (d := 98)]
      simp only [Option.bind_some, b2i_0]
      rw [if_pos h1]
end OPH
