/-! SEED. -/
section SEED
variable {L d : Nat} {F : Nat → Nat → Int32} {J : Nat → Nat → Int64} {σ : aSg} {μ : aMem}
theorem c_seed (h : Lay L σ) (v : Int32) : cI 100 92 [.ref 0, .int v] (F, J, σ) = some (F 1 6, (uF F 1 6 v, J, σ)) := by
  refine i_92 ?_
  rw [q_92_0]
  simp only [mS, mR, mF, Y_0 h, Z_0_0 h, Y_1 h]
  rfl
theorem m_seed (h : Lay L σ) (v : Int32) : cI 100 169 [.ref 99, .int v] (F, J, σ) = some (F 100 3, (uF F 100 3 v, J, σ)) := by
  refine i_169 (d := 99) ?_
  rw [q_169_0 99]
  simp only [mS, Y_99 h]
  rw [if_pos ⟨trivial, by decide⟩, show cI 99 137 [.ref 99, .int 3, .int v] (F, J, σ) = _ from m_becomes (i := 3) h (by decide) v]
  rfl
/-- what set may set -/
abbrev seK (w v : Int32) : Prop := (w = 1 ∧ 0 ≤ v ∧ v ≤ 99) ∨ (w = 2 ∧ 0 ≤ v ∧ v ≤ 10) ∨ (w = 3 ∧ 0 ≤ v ∧ v ≤ 2)
theorem seK_no {w v : Int32} (h1 : ¬ (w = 1 ∧ 0 ≤ v ∧ v ≤ 99)) (h2 : ¬ (w = 2 ∧ 0 ≤ v ∧ v ≤ 10)) (h3 : ¬ (w = 3 ∧ 0 ≤ v ∧ v ≤ 2)) : ¬ seK w v := fun h => h.elim h1 (fun h => h.elim h2 h3)
def seS (s : Nat → Int32) (n : Nat) (x w v : Int32) : Int32 := if 0 ≤ x ∧ x < nI n then (if seK w v then s (4 + 5 * x.toInt.toNat + w.toInt.toNat) else -1000000001) else -1000000001
theorem c_set (h : Lay L σ) {n : Nat} (P : PR F 1 (F 100) n) (x w v : Int32) : cI 100 86 [.ref 0, .int x, .int w, .int v] (F, J, σ) = some (seS (F 100) n x w v, (if 0 ≤ x ∧ x < nI n then (if seK w v then uF F (1 + 8 + x.toInt.toNat) w.toInt.toNat v else F) else F, J, σ)) := by
  obtain ⟨p1, p2, p3, p4, p5⟩ := P
  refine i_86 (d := 99) ?_
  rw [q_86_0 99]
  simp only [mS, mR, Y_0 h, Z_0_0 h, Y_1 h]
  rw [if_pos trivial, if_pos ⟨trivial, by decide⟩, c_at1 h p3 p1 x]
  simp only [Option.bind_some]
  unfold seS
  by_cases h1 : 0 ≤ x ∧ x < nI n
  · obtain ⟨k, hk, rfl⟩ := (nI_ex (by omega)).mp h1
    simp only [if_pos h1, nI_toInt (show k < 2 ^ 31 by omega), Int.toNat_natCast]
    rw [if_pos (by omega), if_neg (by omega)]
    simp only [c_within, c_isSort (d := 98), Option.bind_some, b2i_0, mS, mF, Y_9k h k (by omega)]
    by_cases w1 : w = 1
    · subst w1
      by_cases c1 : 0 ≤ v ∧ v ≤ 99
      · rw [if_pos trivial, if_neg (not_not_intro c1), if_pos (Or.inl ⟨rfl, c1⟩), if_pos (Or.inl ⟨rfl, c1⟩)]
        refine (congrArg (fun z => some (some (Value.int z), _)) (p4 k hk 1 (by decide))).trans ?_
        rfl
      · have c2 : ¬ seK 1 v := seK_no (fun h => c1 h.2) (fun h => absurd h.1 (by decide)) (fun h => absurd h.1 (by decide))
        rw [if_pos trivial, if_pos c1, if_neg c2, if_neg c2]
        rfl
    · rw [if_neg w1]
      by_cases w2 : w = 2
      · subst w2
        by_cases c1 : 0 ≤ v ∧ v ≤ 10
        · rw [if_pos trivial, if_neg (not_not_intro c1), if_pos (Or.inr (Or.inl ⟨rfl, c1⟩)), if_pos (Or.inr (Or.inl ⟨rfl, c1⟩))]
          refine (congrArg (fun z => some (some (Value.int z), _)) (p4 k hk 2 (by decide))).trans ?_
          rfl
        · have c2 : ¬ seK 2 v := seK_no (fun h => absurd h.1 (by decide)) (fun h => c1 h.2) (fun h => absurd h.1 (by decide))
          rw [if_pos trivial, if_pos c1, if_neg c2, if_neg c2]
          rfl
      · rw [if_neg w2]
        by_cases w3 : w = 3
        · subst w3
          by_cases c1 : 0 ≤ v ∧ v ≤ 2
          · rw [if_pos trivial, if_neg (not_not_intro c1), if_pos (Or.inr (Or.inr ⟨rfl, c1⟩)), if_pos (Or.inr (Or.inr ⟨rfl, c1⟩))]
            refine (congrArg (fun z => some (some (Value.int z), _)) (p4 k hk 3 (by decide))).trans ?_
            rfl
          · have c2 : ¬ seK 3 v := seK_no (fun h => absurd h.1 (by decide)) (fun h => absurd h.1 (by decide)) (fun h => c1 h.2)
            rw [if_pos trivial, if_pos c1, if_neg c2, if_neg c2]
            rfl
        · have c2 : ¬ seK w v := seK_no (fun h => w1 h.1) (fun h => w2 h.1) (fun h => w3 h.1)
          rw [if_neg w3, if_neg c2, if_neg c2]
  · simp only [if_neg h1]
    rfl
theorem m_set (h : Lay L σ) {n : Nat} (hn : F 100 0 = nI n) (p1 : n ≤ 10) (x w v : Int32) : cI 100 162 [.ref 99, .int x, .int w, .int v] (F, J, σ) = some (seS (F 100) n x w v, (if 0 ≤ x ∧ x < nI n then (if seK w v then uF F 100 (4 + 5 * x.toInt.toNat + w.toInt.toNat) v else F) else F, J, σ)) := by
  refine i_162 (d := 99) ?_
  rw [q_162_0 99]
  simp only [mS, Y_99 h]
  rw [if_pos ⟨trivial, by decide⟩, m_isPart (d := 98) h hn p1 x]
  simp only [Option.bind_some, b2i_0]
  unfold seS
  by_cases h1 : 0 ≤ x ∧ x < nI n
  · rw [if_neg (not_not_intro h1), if_pos h1, if_pos h1]
    obtain ⟨k, hk, rfl⟩ := (nI_ex (by omega)).mp h1
    have e : ∀ j : Nat, (4 : Int32) + 5 * nI k + nI j = nI (4 + 5 * k + j) := fun j => by
      rw [show (4 : Int32) = nI 4 from rfl, show (5 : Int32) = nI 5 from rfl, pk_mul, nI_add, nI_add]
    have b : ∀ j : Nat, j < 5 → cI 99 137 [.ref 99, .int (4 + 5 * nI k + nI j), .int v] (F, J, σ) = some (F 100 (4 + 5 * k + j), (uF F 100 (4 + 5 * k + j) v, J, σ)) := fun j hj => by
      rw [e j]; exact m_becomes h (by omega) v
    simp only [m_in_1_3, m_in_0_99, m_in_0_10, m_in_0_2, Option.bind_some, b2i_0, mS, Y_99 h, nI_toInt (show k < 2 ^ 31 by omega), Int.toNat_natCast]
    by_cases w0 : 1 ≤ w ∧ w ≤ 3
    · rw [if_neg (not_not_intro w0)]
      by_cases w1 : w = 1
      · subst w1
        rw [if_pos rfl]
        by_cases c1 : 0 ≤ v ∧ v ≤ 99
        · rw [if_neg (not_not_intro c1), if_pos (Or.inl ⟨rfl, c1⟩), if_pos (Or.inl ⟨rfl, c1⟩), if_pos ⟨trivial, by decide⟩, show cI 99 137 [.ref 99, .int (4 + 5 * nI k + 1), .int v] (F, J, σ) = _ from b 1 (by decide)]
          rfl
        · have c2 : ¬ seK 1 v := seK_no (fun h => c1 h.2) (fun h => absurd h.1 (by decide)) (fun h => absurd h.1 (by decide))
          rw [if_pos c1, if_neg c2, if_neg c2]
      · rw [if_neg w1]
        by_cases w2 : w = 2
        · subst w2
          rw [if_pos rfl]
          by_cases c1 : 0 ≤ v ∧ v ≤ 10
          · rw [if_neg (not_not_intro c1), if_pos (Or.inr (Or.inl ⟨rfl, c1⟩)), if_pos (Or.inr (Or.inl ⟨rfl, c1⟩)), if_pos ⟨trivial, by decide⟩, show cI 99 137 [.ref 99, .int (4 + 5 * nI k + 2), .int v] (F, J, σ) = _ from b 2 (by decide)]
            rfl
          · have c2 : ¬ seK 2 v := seK_no (fun h => absurd h.1 (by decide)) (fun h => c1 h.2) (fun h => absurd h.1 (by decide))
            rw [if_pos c1, if_neg c2, if_neg c2]
        · rw [if_neg w2]
          have w3 : w = 3 := by
            obtain ⟨a1, a2⟩ := w0
            rw [Int32.le_iff_toInt_le] at a1 a2
            have b1 : w.toInt ≠ 1 := fun hh => w1 (Int32.toInt_inj.mp hh)
            have b2 : w.toInt ≠ 2 := fun hh => w2 (Int32.toInt_inj.mp hh)
            apply Int32.toInt_inj.mp
            have a1' : 1 ≤ w.toInt := a1
            have a2' : w.toInt ≤ 3 := a2
            show w.toInt = 3
            omega
          subst w3
          by_cases c1 : 0 ≤ v ∧ v ≤ 2
          · rw [if_neg (not_not_intro c1), if_pos (Or.inr (Or.inr ⟨rfl, c1⟩)), if_pos (Or.inr (Or.inr ⟨rfl, c1⟩)), if_pos ⟨trivial, by decide⟩, show cI 99 137 [.ref 99, .int (4 + 5 * nI k + 3), .int v] (F, J, σ) = _ from b 3 (by decide)]
            rfl
          · have c2 : ¬ seK 3 v := seK_no (fun h => absurd h.1 (by decide)) (fun h => absurd h.1 (by decide)) (fun h => c1 h.2)
            rw [if_pos c1, if_neg c2, if_neg c2]
    · have c2 : ¬ seK w v := seK_no (fun h => w0 (by rw [h.1]; decide)) (fun h => w0 (by rw [h.1]; decide)) (fun h => w0 (by rw [h.1]; decide))
      rw [if_pos w0, if_neg c2, if_neg c2]
  · rw [if_pos h1, if_neg h1, if_neg h1]
end SEED
