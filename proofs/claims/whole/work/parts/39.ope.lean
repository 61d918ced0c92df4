/-! TEXTS TOLD, WHY; SHEETS. -/
section OPE
variable {L d : Nat} {F F' : Nat → Nat → Int32} {J : Nat → Nat → Int64} {σ : aSg} {μ : aMem} {s s' xs : Nat → Int32}
theorem rd_k {a n i : Nat} (h : σ.2.1 a = (10, n)) (hi : i < n) (hn : n < 2 ^ 31) : rdI (F, J, σ) a (nI i) = some (F a i) := rdI_nI h hi hn
theorem c_textAt {p t : Nat} (hp : PL σ p) (ht : F p 4 = nI t) (t14 : t ≤ 14) (ta : TA σ p) (x : Int32) : cR d 13 [.ref p, .int x] (F, J, σ) = some (if 0 ≤ x ∧ x < nI t then σ.1 (p + 6) x.toInt.toNat else 999999, (F, J, σ)) := by
  refine i_13 ?_
  rw [q_13_0]
  simp only [mS, mR, mF, hp.y0, hp.z3, hp.y6, ht]
  by_cases h1 : x < 0
  · rw [if_pos h1, if_neg (fun hh : 0 ≤ x ∧ x < nI t => (Int32.not_le.mpr h1) hh.1)]
  · rw [if_neg h1, if_pos trivial]
    by_cases h2 : nI t ≤ x
    · rw [if_pos h2, if_neg (fun hh : 0 ≤ x ∧ x < nI t => (Int32.not_le.mpr hh.2) h2)]
    · have h3 : 0 ≤ x ∧ x < nI t := ⟨Int32.not_lt.mp h1, Int32.not_le.mp h2⟩
      rw [if_neg h2]
      obtain ⟨k, hk, rfl⟩ := (nI_ex (by omega)).mp h3
      rw [if_neg (show ¬ (14 : Int32) ≤ nI k from nle (a := 14) (by omega) (by decide)), if_pos ⟨by decide, by decide, inb_nI (by omega) (by decide)⟩, ix_nI (by omega), if_pos h3, nI_toInt (by omega), Int.toNat_natCast]
      rw [if_pos (by rcases ta k (by omega) with e | e <;> omega)]
theorem m_isText (h : Lay L σ) {t : Nat} (ht : F 100 2 = nI t) (t14 : t ≤ 14) (x : Int32) : cI (d + 1) 142 [.ref 99, .int x] (F, J, σ) = some (b2i (0 ≤ x ∧ x < nI t), (F, J, σ)) := by
  refine i_142 ?_
  rw [q_142_0]
  simp only [mS, mR, mF, Y_99 h, Z_99_0 h, if_true]
  rw [show rdI (F, J, σ) 100 2 = some (F 100 2) from rd_100 (i := 2) h (by decide), ht]
  simp only [Option.bind_some]
  rw [show cI d 133 [.long x.toInt64, .long 0, .long (nI t - 1).toInt64] (F, J, σ) = _ from m_in x 0 (nI t - 1)]
  simp only [Option.bind_some, b2i_01, if_true]
  rw [b2i_congr (b := 0 ≤ x ∧ x < nI t)]
  refine and_congr Iff.rfl ?_
  rw [Int32.le_iff_toInt_le, Int32.lt_iff_toInt_lt, nI_prd (by omega), nI_toInt (by omega)]
  omega
theorem i200 (k : Nat) : (114 : Int32) + 200 * nI k = nI (114 + 200 * k) := by rw [show (114 : Int32) = nI 114 from rfl, show (200 : Int32) = nI 200 from rfl, pk_mul, nI_add]
theorem m_textAt (k : Nat) : cI d 138 [.ref 99, .int (nI k)] μ = some (nI (114 + 200 * k), μ) := by
  refine i_138 ?_
  rw [q_138_0, i200]
theorem op_textTold : OpI (Inv L xs) 106 208 2 := op2 fun q F J σ x w hq I => by
  have h := I.lay
  have hp := PL_1 h
  obtain ⟨n, m, t, P, B, T, z⟩ := I.rw
  obtain ⟨t1, t2, t3, t4, t5⟩ := T
  refine ⟨if 0 ≤ x ∧ x < nI t then (if 0 ≤ w ∧ w ≤ 1 then F 100 (114 + 200 * x.toInt.toNat + w.toInt.toNat) else -1000000001) else -1000000001, F, J, σ, F, J, σ, ?_, h, rfl, ?_, I.up⟩
  · refine i_106 (d := 99) ?_
    rw [q_106_0 99]
    simp only [mS, mR, mF, Y_0 h, Z_0_0 h, hp.y0]
    rw [if_pos trivial, if_pos ⟨trivial, by decide⟩, c_textAt hp t3 t1 I.ta.1]
    simp only [Option.bind_some]
    by_cases h1 : 0 ≤ x ∧ x < nI t
    · obtain ⟨k, hk, rfl⟩ := (nI_ex (by omega)).mp h1
      simp only [if_pos h1, nI_toInt (show k < 2 ^ 31 by omega), Int.toNat_natCast]
      obtain ⟨kk, W, ⟨c1, c2, c3⟩, y1, y2, y3, f1, f2, f3⟩ := t4 k hk
      rw [if_pos (by omega), if_neg (by omega), c_within]
      simp only [Option.bind_some, b2i_0, mS, mF, y1]
      by_cases h2 : 0 ≤ w ∧ w ≤ 1
      · rw [if_neg (not_not_intro h2), if_pos h2]
        obtain ⟨j, hj, rfl⟩ : ∃ u, u < 2 ∧ w = nI u := (nI_ex (n := 2) (by decide)).mp ⟨h2.1, by have := Int32.le_iff_toInt_le.mp h2.2; rw [Int32.lt_iff_toInt_lt]; have e5 : w.toInt ≤ 1 := this; show w.toInt < 2; omega⟩
        match j, hj with
        | 0, _ => rw [if_pos (by decide), if_pos trivial, f1]; rfl
        | 1, _ => rw [if_neg (by decide), if_pos trivial, f2]; rfl
      · rw [if_pos h2, if_neg h2]
    · simp only [if_neg h1]
      rfl
  · refine i_208 (d := 99) ?_
    rw [q_208_0 99]
    simp only [mS, mR, mF, Y_99 h, Z_99_0 h]
    rw [if_pos ⟨trivial, by decide⟩, m_isText (d := 98) h t2 t1]
    simp only [Option.bind_some, b2i_0]
    by_cases h1 : 0 ≤ x ∧ x < nI t
    · rw [if_neg (not_not_intro h1), if_pos h1, m_in_0_1]
      simp only [Option.bind_some, b2i_0]
      by_cases h2 : 0 ≤ w ∧ w ≤ 1
      · rw [if_neg (not_not_intro h2), if_pos h2]
        obtain ⟨k, hk, rfl⟩ := (nI_ex (by omega)).mp h1
        obtain ⟨j, hj, rfl⟩ : ∃ u, u < 2 ∧ w = nI u := (nI_ex (n := 2) (by decide)).mp ⟨h2.1, by have := Int32.le_iff_toInt_le.mp h2.2; rw [Int32.lt_iff_toInt_lt]; have e5 : w.toInt ≤ 1 := this; show w.toInt < 2; omega⟩
        simp only [mS, mR, Y_99 h, Z_99_0 h, m_textAt, Option.bind_some, nI_add]
        rw [if_pos trivial, if_pos ⟨trivial, by decide⟩, rd_100 h (by omega), nI_toInt (show k < 2 ^ 31 by omega), nI_toInt (show j < 2 ^ 31 by omega)]
        rfl
      · rw [if_pos h2, if_neg h2]
    · rw [if_pos h1, if_neg h1]
theorem m_counts (h : Lay L σ) {t : Nat} (ht : F 100 2 = nI t) (t14 : t ≤ 14) (key : Int32) : cI (d + 1) 209 [.ref 99, .int key] (F, J, σ) = some (cntS (F 100) t key, (F, J, σ)) := by
  refine i_209 ?_
  rw [q_209_0]
  have n2 : rdI (F, J, σ) 100 2 = some (nI t) := by rw [← ht]; exact rd_100 (i := 2) h (by decide)
  have go : ∀ n i, i + n = t → Rn (d + 1) 209 (4, [.ref 99, .int key, .int (cntS (F 100) i key), .int (nI i)], [], (F, J, σ)) = some (some (.int (cntS (F 100) t key)), (F, J, σ)) := by
    intro n
    induction n with
    | zero =>
      intro i e
      rw [q_209_4]
      simp only [mS, mR, Y_99 h, Z_99_0 h, n2, Option.bind_some, if_true]
      rw [if_pos (yle (by omega) (by omega)), show i = t by omega]
    | succ n ih =>
      intro i e
      rw [q_209_4]
      simp only [mS, mR, Y_99 h, Z_99_0 h, n2, Option.bind_some, if_true, m_textAt]
      rw [if_neg (nle (by omega) (by omega)), if_pos ⟨trivial, by decide⟩, rd_100 h (by omega), Option.bind_some, nI_s]
      have := ih (i + 1) (by omega)
      rw [show cntS (F 100) (i + 1) key = if F 100 (114 + 200 * i) = key then nI i else cntS (F 100) i key from rfl] at this
      by_cases c : F 100 (114 + 200 * i) = key
      · rw [if_pos c] at this ⊢; exact this
      · rw [if_neg c] at this ⊢; exact this
  exact go t 0 (by omega)
theorem two3 {x : Int32} (h : 0 ≤ x ∧ x ≤ 2) : ∃ k, k < 3 ∧ x = nI k := (nI_ex (n := 3) (by decide)).mp ⟨h.1, by have := Int32.le_iff_toInt_le.mp h.2; rw [Int32.lt_iff_toInt_lt]; have e5 : x.toInt ≤ 2 := this; show x.toInt < 3; omega⟩
theorem op_why : OpI (Inv L xs) 107 210 1 := op1 fun q F J σ x hq I => by
  have h := I.lay
  have hp := PL_1 h
  obtain ⟨n, m, t, P, B, T, z⟩ := I.rw
  obtain ⟨t1, t2, t3, t4, t5⟩ := T
  refine ⟨if 0 ≤ x ∧ x ≤ 2 then (if 0 ≤ cntS (F 100) t x then cntS (F 100) t x else -1000000005) else -1000000001, F, J, σ, F, J, σ, ?_, h, rfl, ?_, I.up⟩
  · refine i_107 (d := 99) ?_
    rw [q_107_0 99, c_within]
    simp only [Option.bind_some, b2i_0, mS, mR, mF, Y_0 h, Z_0_0 h, hp.y0, hp.z5]
    by_cases h1 : 0 ≤ x ∧ x ≤ 2
    · rw [if_neg (not_not_intro h1), if_pos h1, if_pos trivial, if_pos trivial]
      obtain ⟨k, hk, rfl⟩ := two3 h1
      rw [rd_k hp.y7 hk (by decide), t5 k hk, Option.bind_some]
      by_cases c : 0 ≤ cntS (F 100) t (nI k)
      · rw [if_pos c, if_pos c]
      · rw [if_neg c, if_neg c]
    · rw [if_pos h1, if_neg h1]
  · refine i_210 (d := 99) ?_
    rw [q_210_0 99, m_in_0_2]
    simp only [Option.bind_some, b2i_0, mS, Y_99 h]
    by_cases h1 : 0 ≤ x ∧ x ≤ 2
    · rw [if_neg (not_not_intro h1), if_pos h1, if_pos ⟨trivial, by decide⟩, m_counts (d := 98) h t2 t1]
      simp only [Option.bind_some, m_orNone]
    · rw [if_pos h1, if_neg h1]
/-! sheets -/
theorem three4 {x : Int32} (h : 0 ≤ x ∧ x ≤ 3) : ∃ k, k < 4 ∧ x = nI k := (nI_ex (n := 4) (by decide)).mp ⟨h.1, by have := Int32.le_iff_toInt_le.mp h.2; rw [Int32.lt_iff_toInt_lt]; have e5 : x.toInt ≤ 3 := this; show x.toInt < 4; omega⟩
theorem c_sheetAt (h : Lay L σ) (x : Int32) : cR (d + 1) 126 [.ref 0, .int x] (F, J, σ) = some (if 0 ≤ x ∧ x ≤ 3 then 70 + 2 * x.toInt.toNat else 999999, (F, J, σ)) := by
  refine i_126 ?_
  rw [q_126_0, c_within]
  simp only [Option.bind_some, b2i_0, mS, mR, Y_0 h, Z_0_10 h, Y_69 h]
  by_cases h1 : 0 ≤ x ∧ x ≤ 3
  · rw [if_neg (not_not_intro h1), if_pos h1, if_pos trivial]
    obtain ⟨k, hk, rfl⟩ := three4 h1
    rw [if_pos ⟨by decide, by decide, inb_nI hk (by decide)⟩, ix_nI (by omega), S_z h k hk, if_pos (by omega), nI_toInt (show k < 2 ^ 31 by omega), Int.toNat_natCast]
  · rw [if_pos h1, if_neg h1]
theorem m_isSheet (x : Int32) : cI (d + 1) 213 [.int x] μ = some (b2i (0 ≤ x ∧ x ≤ 3), μ) := by
  refine i_213 ?_
  rw [q_213_0, show cI d 133 [.long x.toInt64, .long 0, .long 3] μ = _ from m_in x 0 3, Option.bind_some, if_pos (b2i_01 _)]
theorem c_fill {a n : Nat} (ha : σ.2.1 a = (10, n)) (hn : n < 2 ^ 31) (v : Int32) : cV d 231 [.ref a, .int v] (F, J, σ) = some (up1 F a (fun j => if j < n then v else F a j), J, σ) := by
  refine i_231 (v := none) ?_
  rw [q_231_0]
  have hl : rdL (F, J, σ) a = some (nI n) := by
    unfold rdL
    simp only [mS, ha]
    rw [if_pos (Or.inl ⟨by decide, by decide⟩)]
    rfl
  rw [hl, Option.bind_some]
  have go : ∀ k i, i + k = n → Rn d 231 (5, [.ref a, .int v, .int (nI i), .int (nI n)], [], (up1 F a (fun j => if j < i then v else F a j), J, σ)) = some (none, (up1 F a (fun j => if j < n then v else F a j), J, σ)) := by
    intro k
    induction k with
    | zero =>
      intro i e
      rw [q_231_5, if_pos (yle (by omega) (by omega)), show i = n by omega]
    | succ k ih =>
      intro i e
      rw [q_231_5, if_neg (nle (by omega) (by omega))]
      simp only [mS, ha, setF_up, up1_s, up1_up1, ix_nI (show i < 2 ^ 31 by omega)]
      rw [if_pos ⟨trivial, inb_nI (by omega) hn⟩, nI_s]
      have e1 : up1 (fun j => if j < i then v else F a j) i v = fun j => if j < i + 1 then v else F a j := by
        funext j
        unfold up1
        by_cases c1 : j = i
        · rw [if_pos c1, if_pos (by omega)]
        · rw [if_neg c1]
          show (if j < i then v else F a j) = _
          by_cases c2 : j < i
          · rw [if_pos c2, if_pos (by omega)]
          · rw [if_neg c2, if_neg (by omega)]
      rw [e1]
      exact ih (i + 1) (by omega)
  have e0 : up1 F a (fun j => if j < 0 then v else F a j) = F := by
    funext x
    unfold up1
    by_cases c : x = a
    · rw [if_pos c, c]
      funext j
      rw [if_neg (by omega)]
    · rw [if_neg c]
  have g := go n 0 (by omega)
  rw [e0] at g
  exact g
theorem IV_sh {q i : Nat} (I : IV L xs q F σ) (hi : i < 4) (hF : ∀ a, a ≠ 70 + 2 * i → a ≠ 71 + 2 * i → a ≠ 103 → a ≠ 104 → a ≠ 105 → a ≠ 120 → a ≠ 121 → F' a = F a) (h3 : ∀ k, k ≠ i → k < 4 → F' 103 k = F 103 k ∧ F' 104 k = F 104 k ∧ ∀ j, j < 24 → F' 105 (24 * k + j) = F 105 (24 * k + j)) (hS : SH F' i) : IV L xs (q + 1) F' σ := by
  have hG : ∀ a, a < 70 ∨ (78 ≤ a ∧ a ≤ 102) ∨ (106 ≤ a ∧ a < 120) ∨ 122 ≤ a → F' a = F a := fun a ha => hF a (by omega) (by omega) (by omega) (by omega) (by omega) (by omega) (by omega)
  refine IV_mk I (fun a ha => hG a (by omega)) ⟨by rw [hG 0 (by omega)], by rw [hG 99 (by omega)]⟩ (TPE_cg (by rw [hG 0 (by omega)]) (by rw [hG 99 (by omega)]) (hG _ (by omega)) (hG _ (by omega)) I.tp) (WTE_cg (by rw [hG 0 (by omega)]) (by rw [hG 99 (by omega)]) (hG _ (by omega)) (hG _ (by omega)) I.wt) (fun k hk => ?_) (fun k hk => SL_cg (fun a ha => hG a (by omega)) (I.sl k hk))
  by_cases e : k = i
  · rw [e]; exact hS
  · obtain ⟨g3, g4, g5⟩ := h3 k e hk
    obtain ⟨z, z1, z2, z3, z4, z5, z6⟩ := I.sh k hk
    have c1 : F' (70 + 2 * k) = F (70 + 2 * k) := hF _ (by omega) (by omega) (by omega) (by omega) (by omega) (by omega) (by omega)
    have c2 : F' (71 + 2 * k) = F (71 + 2 * k) := hF _ (by omega) (by omega) (by omega) (by omega) (by omega) (by omega) (by omega)
    refine ⟨z, z1, by rw [c1, g3]; exact z2, by rw [c1]; exact z3, by rw [g4]; exact z4, by rw [g3]; exact z5, fun j hj => ?_⟩
    rw [c2, g5 j hj]
    exact z6 j hj
end OPE
