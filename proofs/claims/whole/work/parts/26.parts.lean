/-! PARTS: the class's plan at p holds the row s. -/
section PARTS
variable {L d : Nat} {F : Nat → Nat → Int32} {J : Nat → Nat → Int64} {σ : aSg} {μ : aMem}
/-- a part's five numbers are as they may be -/
def PK (s : Nat → Int32) (k : Nat) : Prop := (0 ≤ s (4 + 5 * k) ∧ s (4 + 5 * k) < 6) ∧ (0 ≤ s (4 + 5 * k + 1) ∧ s (4 + 5 * k + 1) ≤ 99) ∧ (0 ≤ s (4 + 5 * k + 2) ∧ s (4 + 5 * k + 2) ≤ 10) ∧ (0 ≤ s (4 + 5 * k + 3) ∧ s (4 + 5 * k + 3) ≤ 2) ∧ (0 ≤ s (4 + 5 * k + 4) ∧ s (4 + 5 * k + 4) < nI (2 ^ k))
def PR (F : Nat → Nat → Int32) (p : Nat) (s : Nat → Int32) (n : Nat) : Prop := n ≤ 10 ∧ s 0 = nI n ∧ F p 1 = nI n ∧ (∀ k, k < n → ∀ j, j < 5 → F (p + 8 + k) j = s (4 + 5 * k + j)) ∧ ∀ k, k < n → PK s k
theorem Z_2 (h : Lay L σ) : ∀ k, k < 10 → σ.1 2 k = 1 + 8 + k
  | 0, _ => Z_2_0 h
  | 1, _ => Z_2_1 h
  | 2, _ => Z_2_2 h
  | 3, _ => Z_2_3 h
  | 4, _ => Z_2_4 h
  | 5, _ => Z_2_5 h
  | 6, _ => Z_2_6 h
  | 7, _ => Z_2_7 h
  | 8, _ => Z_2_8 h
  | 9, _ => Z_2_9 h
theorem Y_9k (h : Lay L σ) : ∀ k, k < 10 → σ.2.1 (1 + 8 + k) = (1, 5)
  | 0, _ => Y_9 h
  | 1, _ => Y_10 h
  | 2, _ => Y_11 h
  | 3, _ => Y_12 h
  | 4, _ => Y_13 h
  | 5, _ => Y_14 h
  | 6, _ => Y_15 h
  | 7, _ => Y_16 h
  | 8, _ => Y_17 h
  | 9, _ => Y_18 h
theorem c_at1 (h : Lay L σ) {n : Nat} (hn : F 1 1 = nI n) (hn10 : n ≤ 10) (x : Int32) : cR d 12 [.ref 1, .int x] (F, J, σ) = some (if 0 ≤ x ∧ x < nI n then 1 + 8 + x.toInt.toNat else 999999, (F, J, σ)) := c_partAt h (Y_1 h) (Z_1_0 h) (Y_2 h) (Z_2 h) (by decide) hn hn10 x
def asS (s : Nat → Int32) (n : Nat) (x y : Int32) : Int32 := if 0 ≤ x ∧ x < nI n then (if 0 ≤ y ∧ y ≤ 5 then (if ofI (s (4 + 5 * x.toInt.toNat)) y = 0 then -1000000012 else s (4 + 5 * x.toInt.toNat + 1)) else -1000000001) else -1000000001
theorem m_as (h : Lay L σ) {n : Nat} (P : PR F 1 (F 100) n) (x y : Int32) : cI 100 160 [.ref 99, .int x, .int y] (F, J, σ) = some (asS (F 100) n x y, (F, J, σ)) := by
  obtain ⟨p1, p2, p3, p4, p5⟩ := P
  refine i_160 (d := 99) ?_
  rw [q_160_0 99]
  simp only [mS, Y_99 h]
  rw [if_pos ⟨trivial, by decide⟩, m_isPart (d := 98) h p2 p1 x]
  simp only [Option.bind_some, b2i_0]
  unfold asS
  by_cases h1 : 0 ≤ x ∧ x < nI n
  · rw [if_neg (not_not_intro h1), if_pos h1, m_in_0_5]
    simp only [Option.bind_some, b2i_0]
    by_cases h2 : 0 ≤ y ∧ y ≤ 5
    · rw [if_neg (not_not_intro h2), if_pos h2]
      obtain ⟨k, hk, rfl⟩ := (nI_ex (by omega)).mp h1
      rw [nI_toInt (by omega), Int.toNat_natCast]
      have e0 : cI 99 139 [.ref 99, .int (nI k), .int 0] (F, J, σ) = some (F 100 (4 + 5 * k), (F, J, σ)) := m_of (w := 0) h (by omega) (by decide)
      have e1 : cI 99 139 [.ref 99, .int (nI k), .int 1] (F, J, σ) = some (F 100 (4 + 5 * k + 1), (F, J, σ)) := m_of (w := 1) h (by omega) (by decide)
      simp only [mS, Y_99 h]
      rw [if_pos ⟨trivial, by decide⟩, e0]
      simp only [Option.bind_some, m_isOf, mS, Y_99 h, e1]
      by_cases h3 : ofI (F 100 (4 + 5 * k)) y = 0
      · rw [if_pos h3, if_pos h3]
      · rw [if_neg h3, if_neg h3]
        rfl
    · rw [if_pos h2, if_neg h2]
  · rw [if_pos h1, if_neg h1]
theorem c_as (h : Lay L σ) {n : Nat} (P : PR F 1 (F 100) n) (x y : Int32) : cI 100 84 [.ref 0, .int x, .int y] (F, J, σ) = some (asS (F 100) n x y, (F, J, σ)) := by
  obtain ⟨p1, p2, p3, p4, p5⟩ := P
  refine i_84 (d := 99) ?_
  rw [q_84_0 99]
  simp only [mS, mR, Y_0 h, Z_0_0 h, Y_1 h]
  rw [if_pos trivial, if_pos ⟨trivial, by decide⟩, c_at1 h p3 p1 x]
  simp only [Option.bind_some]
  unfold asS
  by_cases h1 : 0 ≤ x ∧ x < nI n
  · obtain ⟨k, hk, rfl⟩ := (nI_ex (by omega)).mp h1
    simp only [if_pos h1, nI_toInt (show k < 2 ^ 31 by omega), Int.toNat_natCast]
    rw [if_pos (by omega), if_neg (by omega), c_isKind (d := 98)]
    simp only [Option.bind_some, b2i_0]
    by_cases h2 : 0 ≤ y ∧ y ≤ 5
    · rw [if_neg (not_not_intro h2), if_pos h2]
      have f0 : F (1 + 8 + k) 0 = F 100 (4 + 5 * k) := p4 k hk 0 (by decide)
      have f1 : F (1 + 8 + k) 1 = F 100 (4 + 5 * k + 1) := p4 k hk 1 (by decide)
      have g := (p5 k hk).1
      have e := c_isOf (d := 99) (μ := (F, J, σ)) (c := 1 + 8 + k) h.2.2.2.2.2.1 (congrArg Prod.fst (Y_9k h k (by omega))) (by show 0 ≤ F (1 + 8 + k) 0; rw [f0]; exact g.1) (by show F (1 + 8 + k) 0 < 6; rw [f0]; exact g.2) y
      rw [show mF (F, J, σ) (1 + 8 + k) 0 = F 100 (4 + 5 * k) from f0] at e
      simp only [mS, Y_9k h k (by omega)]
      rw [if_pos ⟨trivial, by omega⟩, e]
      simp only [Option.bind_some, mS, mF, Y_9k h k (by omega), f1]
      by_cases h3 : ofI (F 100 (4 + 5 * k)) y = 0
      · rw [if_pos h3, if_pos h3]
      · rw [if_neg h3, if_neg h3]
        rfl
    · rw [if_pos h2, if_neg h2]
  · simp only [if_neg h1]
    rfl
end PARTS
