/-! PARTS THAT CHANGE. -/
section CHG
variable {L d : Nat} {F : Nat → Nat → Int32} {J : Nat → Nat → Int64} {σ : aSg} {μ : aMem}
theorem PK_other {s : Nat → Int32} {k k' j : Nat} {v : Int32} (hne : k' ≠ k) (hj : j < 5) (h : PK s k') : PK (up1 s (4 + 5 * k + j) v) k' := by
  unfold PK
  rw [up1_n _ _ (show 4 + 5 * k' ≠ 4 + 5 * k + j by omega), up1_n _ _ (show 4 + 5 * k' + 1 ≠ 4 + 5 * k + j by omega), up1_n _ _ (show 4 + 5 * k' + 2 ≠ 4 + 5 * k + j by omega), up1_n _ _ (show 4 + 5 * k' + 3 ≠ 4 + 5 * k + j by omega), up1_n _ _ (show 4 + 5 * k' + 4 ≠ 4 + 5 * k + j by omega)]
  exact h
/-- what a change of one number of one part leaves -/
def cF (F : Nat → Nat → Int32) (k j : Nat) (v : Int32) : Nat → Nat → Int32 := uF (uF F (1 + 8 + k) j v) 100 (4 + 5 * k + j) v
theorem cF_100 {k j : Nat} {v : Int32} (hk : k < 10) : cF F k j v 100 = up1 (F 100) (4 + 5 * k + j) v := by
  unfold cF
  rw [uF_a, uF_n _ _ _ (by omega)]
theorem cF_out {k j a : Nat} {v : Int32} (h1 : a ≠ 100) (h2 : a ≠ 1 + 8 + k) : cF F k j v a = F a := by
  unfold cF
  rw [uF_n _ _ _ h1, uF_n _ _ _ h2]
theorem PR_set {n k j : Nat} {v : Int32} (P : PR F 1 (F 100) n) (hk : k < n) (hj : j < 5) (hv : PK (up1 (F 100) (4 + 5 * k + j) v) k) : PR (cF F k j v) 1 (cF F k j v 100) n := by
  obtain ⟨p1, p2, p3, p4, p5⟩ := P
  rw [cF_100 (by omega)]
  refine ⟨p1, ?_, ?_, fun k' hk' j' hj' => ?_, fun k' hk' => ?_⟩
  · rw [up1_n _ _ (by omega)]; exact p2
  · rw [cF_out (by omega) (by omega)]; exact p3
  · by_cases e : k' = k
    · subst e
      unfold cF
      rw [uF_n _ _ _ (by omega)]
      by_cases e2 : j' = j
      · rw [e2, uF_s, up1_s]
      · rw [uF_k _ _ _ e2, up1_n _ _ (by omega)]
        exact p4 k' hk' j' hj'
    · rw [cF_out (by omega) (by omega), up1_n _ _ (by omega)]
      exact p4 k' hk' j' hj'
  · by_cases e : k' = k
    · rw [e]; exact hv
    · exact PK_other e hj (p5 k' hk')
/-- the answer and the ints of turns -/
def tuS (s : Nat → Int32) (n : Nat) (x y : Int32) : Int32 := if 0 ≤ x ∧ x < nI n then (if 0 ≤ y ∧ y ≤ 5 then s (4 + 5 * x.toInt.toNat) else -1000000001) else -1000000001
theorem c_turns (h : Lay L σ) {n : Nat} (P : PR F 1 (F 100) n) (x y : Int32) : cI 100 85 [.ref 0, .int x, .int y] (F, J, σ) = some (tuS (F 100) n x y, (if 0 ≤ x ∧ x < nI n then (if 0 ≤ y ∧ y ≤ 5 then uF F (1 + 8 + x.toInt.toNat) 0 y else F) else F, J, σ)) := by
  obtain ⟨p1, p2, p3, p4, p5⟩ := P
  refine i_85 (d := 99) ?_
  rw [q_85_0 99]
  simp only [mS, mR, Y_0 h, Z_0_0 h, Y_1 h]
  rw [if_pos trivial, if_pos ⟨trivial, by decide⟩, c_at1 h p3 p1 x]
  simp only [Option.bind_some]
  unfold tuS
  by_cases h1 : 0 ≤ x ∧ x < nI n
  · obtain ⟨k, hk, rfl⟩ := (nI_ex (by omega)).mp h1
    simp only [if_pos h1, nI_toInt (show k < 2 ^ 31 by omega), Int.toNat_natCast]
    rw [if_pos (by omega), if_neg (by omega), c_isKind (d := 98)]
    simp only [Option.bind_some, b2i_0]
    by_cases h2 : 0 ≤ y ∧ y ≤ 5
    · rw [if_neg (not_not_intro h2), if_pos h2, if_pos h2]
      simp only [mS, mF, Y_9k h k (by omega), p4 k hk 0 (by decide)]
      rfl
    · rw [if_pos h2, if_neg h2, if_neg h2]
  · simp only [if_neg h1]
    rfl
theorem m_turns (h : Lay L σ) {n : Nat} (hn : F 100 0 = nI n) (p1 : n ≤ 10) (x y : Int32) : cI 100 161 [.ref 99, .int x, .int y] (F, J, σ) = some (tuS (F 100) n x y, (if 0 ≤ x ∧ x < nI n then (if 0 ≤ y ∧ y ≤ 5 then uF F 100 (4 + 5 * x.toInt.toNat) y else F) else F, J, σ)) := by
  refine i_161 (d := 99) ?_
  rw [q_161_0 99]
  simp only [mS, Y_99 h]
  rw [if_pos ⟨trivial, by decide⟩, m_isPart (d := 98) h hn p1 x]
  simp only [Option.bind_some, b2i_0]
  unfold tuS
  by_cases h1 : 0 ≤ x ∧ x < nI n
  · rw [if_neg (not_not_intro h1), if_pos h1, if_pos h1, m_in_0_5]
    simp only [Option.bind_some, b2i_0]
    by_cases h2 : 0 ≤ y ∧ y ≤ 5
    · rw [if_neg (not_not_intro h2), if_pos h2, if_pos h2]
      obtain ⟨k, hk, rfl⟩ := (nI_ex (by omega)).mp h1
      rw [nI_toInt (by omega), Int.toNat_natCast]
      simp only [mS, Y_99 h]
      have e : (4 : Int32) + 5 * nI k = nI (4 + 5 * k) := by
        rw [show (4 : Int32) = nI 4 from rfl, show (5 : Int32) = nI 5 from rfl, pk_mul, nI_add]
      rw [if_pos ⟨trivial, by decide⟩, e, m_becomes h (by omega) y]
      rfl
    · rw [if_pos h2, if_neg h2, if_neg h2]
  · rw [if_pos h1, if_neg h1, if_neg h1]
end CHG
