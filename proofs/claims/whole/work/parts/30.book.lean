/-! THE BOOK. -/
section BOOK
variable {L d : Nat} {F : Nat → Nat → Int32} {J : Nat → Nat → Int64} {σ : aSg} {μ : aMem}
def BR (F : Nat → Nat → Int32) (p : Nat) (s : Nat → Int32) (m : Nat) : Prop := m ≤ 20 ∧ s 1 = nI m ∧ F (p + 2) 3 = nI m ∧ ∀ i, i < m → F (p + 3) i = s (54 + 3 * i) ∧ F (p + 4) i = s (54 + 3 * i + 1) ∧ F (p + 5) i = s (54 + 3 * i + 2) ∧ (0 ≤ s (54 + 3 * i) ∧ s (54 + 3 * i) ≤ 2) ∧ (0 ≤ s (54 + 3 * i + 1) ∧ s (54 + 3 * i + 1) ≤ 9999) ∧ (0 ≤ s (54 + 3 * i + 2) ∧ s (54 + 3 * i + 2) ≤ 9999)
def liS (s : Nat → Int32) (m : Nat) (x w : Int32) : Int32 := if 0 ≤ w ∧ w ≤ 2 then (if 0 ≤ x ∧ x < nI m then s (54 + 3 * x.toInt.toNat + w.toInt.toNat) else -1000000005) else -1000000001
theorem m_line (h : Lay L σ) {m : Nat} (B : BR F 1 (F 100) m) (x w : Int32) : cI 100 166 [.ref 99, .int x, .int w] (F, J, σ) = some (liS (F 100) m x w, (F, J, σ)) := by
  obtain ⟨b1, b2, b3, b4⟩ := B
  refine i_166 (d := 99) ?_
  rw [q_166_0 99, m_in_0_2]
  simp only [Option.bind_some, b2i_0]
  unfold liS
  by_cases h1 : 0 ≤ w ∧ w ≤ 2
  · rw [if_neg (not_not_intro h1), if_pos h1]
    simp only [mS, mR, Y_99 h, Z_99_0 h]
    rw [if_pos trivial, show rdI (F, J, σ) 100 1 = some (F 100 1) from rdI_nI (i := 1) (Y_100 h) (by decide) (by decide), b2]
    simp only [Option.bind_some]
    rw [show cI 99 133 [.long x.toInt64, .long 0, .long (nI m - 1).toInt64] (F, J, σ) = _ from m_in x 0 (nI m - 1)]
    simp only [Option.bind_some, b2i_0]
    have hq : (0 ≤ x ∧ x ≤ nI m - 1) ↔ (0 ≤ x ∧ x < nI m) := by
      refine and_congr Iff.rfl ?_
      rw [Int32.le_iff_toInt_le, Int32.lt_iff_toInt_lt, nI_prd (by omega), nI_toInt (by omega)]
      omega
    by_cases h2 : 0 ≤ x ∧ x < nI m
    · rw [if_neg (not_not_intro (hq.mpr h2)), if_pos h2]
      obtain ⟨k, hk, rfl⟩ := (nI_ex (by omega)).mp h2
      obtain ⟨j, hj, rfl⟩ := (nI_ex (p := w) (n := 3) (by decide)).mp ⟨h1.1, by have := h1.2; rw [Int32.le_iff_toInt_le] at this; rw [Int32.lt_iff_toInt_lt]; have t : w.toInt ≤ 2 := this; show w.toInt < 3; omega⟩
      have e : (54 : Int32) + 3 * nI k + nI j = nI (54 + 3 * k + j) := by
        rw [show (54 : Int32) = nI 54 from rfl, show (3 : Int32) = nI 3 from rfl, pk_mul, nI_add, nI_add]
      simp only [mS, mR, Y_99 h, Z_99_0 h]
      rw [if_pos trivial, e, rdI_nI (Y_100 h) (by omega) (by decide), nI_toInt (show k < 2 ^ 31 by omega), nI_toInt (show j < 2 ^ 31 by omega)]
      rfl
    · rw [if_pos (fun hh => h2 (hq.mp hh)), if_neg h2]
  · rw [if_pos h1, if_neg h1]
theorem c_line (h : Lay L σ) {m : Nat} (B : BR F 1 (F 100) m) (x w : Int32) : cI 100 89 [.ref 0, .int x, .int w] (F, J, σ) = some (liS (F 100) m x w, (F, J, σ)) := by
  obtain ⟨b1, b2, b3, b4⟩ := B
  refine i_89 (d := 99) ?_
  rw [q_89_0 99, c_within]
  simp only [Option.bind_some, b2i_0]
  unfold liS
  by_cases h1 : 0 ≤ w ∧ w ≤ 2
  · rw [if_neg (not_not_intro h1), if_pos h1]
    simp only [mS, mR, Y_0 h, Z_0_0 h, Y_1 h, Z_1_2 h, Y_3 h]
    rw [if_pos trivial, if_pos trivial, if_pos ⟨trivial, by decide⟩]
    have e : cI 99 2 [.ref 3, .int x, .int w] (F, J, σ) = some (if 0 ≤ x ∧ x < nI m then F 100 (54 + 3 * x.toInt.toNat + w.toInt.toNat) else -1000000005, (F, J, σ)) := by
      refine i_2 ?_
      rw [q_2_0]
      simp only [mS, mR, mF, Y_3 h, Z_3_0 h, Z_3_1 h, Z_3_2 h]
      by_cases c1 : x < 0
      · rw [if_pos c1, if_neg (fun hh : 0 ≤ x ∧ x < nI m => (Int32.not_le.mpr c1) hh.1)]
      · rw [if_neg c1, if_pos trivial, show F 3 3 = nI m from b3]
        by_cases c2 : nI m ≤ x
        · rw [if_pos c2, if_neg (fun hh : 0 ≤ x ∧ x < nI m => (Int32.not_le.mpr hh.2) c2)]
        · have c3 : 0 ≤ x ∧ x < nI m := ⟨Int32.not_lt.mp c1, Int32.not_le.mp c2⟩
          rw [if_neg c2, if_pos c3]
          obtain ⟨k, hk, rfl⟩ := (nI_ex (by omega)).mp c3
          obtain ⟨j, hj, rfl⟩ := (nI_ex (p := w) (n := 3) (by decide)).mp ⟨h1.1, by have := h1.2; rw [Int32.le_iff_toInt_le] at this; rw [Int32.lt_iff_toInt_lt]; have t : w.toInt ≤ 2 := this; show w.toInt < 3; omega⟩
          obtain ⟨g0, g1, g2, -⟩ := b4 k hk
          rw [if_pos (show nI k < (20 : Int32) from (nI_ltI (b := 20) (by omega) (by decide)).mpr (by omega)), rdI_nI (Y_4 h) (by omega) (by decide), rdI_nI (Y_5 h) (by omega) (by decide), rdI_nI (Y_6 h) (by omega) (by decide), nI_toInt (show k < 2 ^ 31 by omega), nI_toInt (show j < 2 ^ 31 by omega), show F 4 k = _ from g0, show F 5 k = _ from g1, show F 6 k = _ from g2]
          match j, hj with
          | 0, _ => rfl
          | 1, _ => rfl
          | 2, _ => rfl
    rw [e]
    rfl
  · rw [if_pos h1, if_neg h1]
end BOOK
