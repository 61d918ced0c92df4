/-! AHEAD. -/
section AHEAD
variable {L d : Nat} {F : Nat → Nat → Int32} {J : Nat → Nat → Int64} {σ : aSg} {μ : aMem}
abbrev ahK (n : Nat) (x y v : Int32) : Prop := (0 ≤ x ∧ x < nI n) ∧ (0 ≤ y ∧ y < nI n) ∧ x < y ∧ (0 ≤ v ∧ v ≤ 1)
def ahV (w x v : Int32) : Int32 := (w &&& ((1 <<< (x &&& 31)) ^^^ (-1))) ||| (v <<< (x &&& 31))
def ahS (s : Nat → Int32) (n : Nat) (x y v : Int32) : Int32 := if ahK n x y v then (s (4 + 5 * y.toInt.toNat + 4) >>> (x &&& 31)) &&& 1 else -1000000001
theorem c_ahead (h : Lay L σ) {n : Nat} (P : PR F 1 (F 100) n) (x y v : Int32) : cI 100 87 [.ref 0, .int x, .int y, .int v] (F, J, σ) = some (ahS (F 100) n x y v, (if ahK n x y v then uF F (1 + 8 + y.toInt.toNat) 4 (ahV (F 100 (4 + 5 * y.toInt.toNat + 4)) x v) else F, J, σ)) := by
  obtain ⟨p1, p2, p3, p4, p5⟩ := P
  refine i_87 (d := 99) ?_
  rw [q_87_0 99]
  simp only [mS, mR, Y_0 h, Z_0_0 h, Y_1 h]
  rw [if_pos trivial, if_pos ⟨trivial, by decide⟩, c_at1 h p3 p1 y]
  simp only [Option.bind_some, Y_0 h, Z_0_0 h, Y_1 h]
  rw [if_pos trivial, if_pos ⟨trivial, by decide⟩, c_at1 h p3 p1 x]
  simp only [Option.bind_some]
  unfold ahS
  by_cases h1 : 0 ≤ x ∧ x < nI n
  · by_cases h2 : 0 ≤ y ∧ y < nI n
    · obtain ⟨j, hj, rfl⟩ := (nI_ex (by omega)).mp h1
      obtain ⟨k, hk, rfl⟩ := (nI_ex (by omega)).mp h2
      simp only [if_pos h1, if_pos h2, nI_toInt (show k < 2 ^ 31 by omega), nI_toInt (show j < 2 ^ 31 by omega), Int.toNat_natCast]
      rw [if_pos (by omega), if_neg (by omega), if_pos (by omega), if_neg (by omega)]
      by_cases h3 : nI j < nI k
      · rw [if_neg (Int32.not_le.mpr h3), c_within]
        simp only [Option.bind_some, b2i_0]
        by_cases h4 : 0 ≤ v ∧ v ≤ 1
        · have hA : ahK n (nI j) (nI k) v := ⟨h1, h2, h3, h4⟩
          rw [if_neg (not_not_intro h4), if_pos hA, if_pos hA]
          simp only [mS, mF, Y_9k h k (by omega), p4 k hk 4 (by decide)]
          rfl
        · rw [if_pos h4, if_neg (fun hh : ahK n (nI j) (nI k) v => h4 hh.2.2.2), if_neg (fun hh : ahK n (nI j) (nI k) v => h4 hh.2.2.2)]
      · rw [if_pos (Int32.not_lt.mp h3), if_neg (fun hh : ahK n (nI j) (nI k) v => h3 hh.2.2.1), if_neg (fun hh : ahK n (nI j) (nI k) v => h3 hh.2.2.1)]
    · rw [if_neg (fun hh : ahK n x y v => h2 hh.2.1), if_neg (fun hh : ahK n x y v => h2 hh.2.1)]
      obtain ⟨j, hj, rfl⟩ := (nI_ex (by omega)).mp h1
      simp only [if_pos h1, if_neg h2, nI_toInt (show j < 2 ^ 31 by omega), Int.toNat_natCast]
      rw [if_pos (by omega), if_neg (by omega)]
      rfl
  · rw [if_neg (fun hh : ahK n x y v => h1 hh.1), if_neg (fun hh : ahK n x y v => h1 hh.1)]
    simp only [if_neg h1]
    rfl
theorem m_ahead (h : Lay L σ) {n : Nat} (hn : F 100 0 = nI n) (p1 : n ≤ 10) (x y v : Int32) : cI 100 163 [.ref 99, .int x, .int y, .int v] (F, J, σ) = some (ahS (F 100) n x y v, (if ahK n x y v then uF F 100 (4 + 5 * y.toInt.toNat + 4) (ahV (F 100 (4 + 5 * y.toInt.toNat + 4)) x v) else F, J, σ)) := by
  refine i_163 (d := 99) ?_
  rw [q_163_0 99]
  simp only [mS, Y_99 h]
  rw [if_pos ⟨trivial, by decide⟩, m_isPart (d := 98) h hn p1 x]
  simp only [Option.bind_some, b2i_0]
  unfold ahS
  by_cases h1 : 0 ≤ x ∧ x < nI n
  · rw [if_neg (not_not_intro h1)]
    simp only [mS, Y_99 h]
    rw [if_pos ⟨trivial, by decide⟩, m_isPart (d := 98) h hn p1 y]
    simp only [Option.bind_some, b2i_0]
    by_cases h2 : 0 ≤ y ∧ y < nI n
    · rw [if_neg (not_not_intro h2)]
      by_cases h3 : x < y
      · rw [if_neg (Int32.not_le.mpr h3), m_in_0_1]
        simp only [Option.bind_some, b2i_0]
        by_cases h4 : 0 ≤ v ∧ v ≤ 1
        · have hA : ahK n x y v := ⟨h1, h2, h3, h4⟩
          rw [if_neg (not_not_intro h4), if_pos hA, if_pos hA]
          obtain ⟨k, hk, rfl⟩ := (nI_ex (by omega)).mp h2
          have e : (4 : Int32) + 5 * nI k + 4 = nI (4 + 5 * k + 4) := by
            rw [show (4 : Int32) = nI 4 from rfl, show (5 : Int32) = nI 5 from rfl, pk_mul, nI_add, nI_add]
          rw [nI_toInt (by omega), Int.toNat_natCast]
          simp only [mS, mR, Y_99 h, Z_99_0 h, Y_100 h]
          rw [if_pos trivial, e, rdI_nI (Y_100 h) (by omega) (by decide)]
          simp only [Option.bind_some]
          rw [if_pos ⟨trivial, inb_nI (by omega) (by decide)⟩, ix_nI (by omega)]
          rfl
        · rw [if_pos h4, if_neg (fun hh : ahK n x y v => h4 hh.2.2.2), if_neg (fun hh : ahK n x y v => h4 hh.2.2.2)]
      · rw [if_pos (Int32.not_lt.mp h3), if_neg (fun hh : ahK n x y v => h3 hh.2.2.1), if_neg (fun hh : ahK n x y v => h3 hh.2.2.1)]
    · rw [if_pos h2, if_neg (fun hh : ahK n x y v => h2 hh.2.1), if_neg (fun hh : ahK n x y v => h2 hh.2.1)]
  · rw [if_pos h1, if_neg (fun hh : ahK n x y v => h1 hh.1), if_neg (fun hh : ahK n x y v => h1 hh.1)]
end AHEAD
