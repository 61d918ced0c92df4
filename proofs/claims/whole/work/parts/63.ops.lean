/-! WORKS. -/
section OPS
variable {L d : Nat} {F F' : Nat → Nat → Int32} {J : Nat → Nat → Int64} {σ : aSg} {μ : aMem} {s s' xs : Nat → Int32}
def RKx (s : Nat → Int32) : Prop := ∃ n m t, RK s n m t
theorem RW_RK {p : Nat} (R : RW F σ p s) : RKx s := by
  obtain ⟨n, m, t, P, B, T, z⟩ := R
  exact ⟨n, m, t, RK_of P B T⟩
theorem sd_le (s : Nat → Int32) : sdN s ≤ 9999 ∧ wsN s ≤ 9999 := ⟨mn9_le _, mn9_le _⟩
def ktN (sd ws : Nat → Nat) : Nat → Nat
  | 0 => 0
  | k + 1 => if ws k ≤ sd k then ktN sd ws k + 1 else ktN sd ws k
theorem ktN_s (sd ws : Nat → Nat) (k : Nat) : ktN sd ws (k + 1) = if ws k ≤ sd k then ktN sd ws k + 1 else ktN sd ws k := rfl
theorem ktN_le {sd ws : Nat → Nat} : ∀ k, ktN sd ws k ≤ k
  | 0 => Nat.le_refl _
  | k + 1 => by
    have : ktN sd ws k ≤ k := ktN_le k
    rw [ktN_s]
    split <;> omega
theorem c_worksL (h : Lay L σ) (ta : TA σ 1) {x : Int32} (hx : 0 ≤ x ∧ x ≤ 2) {rw_ : Nat → Nat → Int32} {sd ws : Nat → Nat} (hrw : ∀ k, wkR (rw_ k) x = rw_ (k + 1)) (hsd : ∀ k, sdN (rw_ k) = sd k) (hws : ∀ k, wsN (rw_ k) = ws k) {N : Nat} (hN : N ≤ 40) : ∀ (r k : Nat) (F : Nat → Nat → Int32), RW F σ 1 (rw_ k) → k + r = N → ∃ F', Rn 100 101 (25, [.ref 0, .int x, .int (nI N), .int (nI (ktN sd ws k)), .int (nI k)], [], (F, J, σ)) = some (some (.int (nI (ktN sd ws N))), (F', J, σ)) ∧ (∀ b, b = 0 ∨ (18 < b ∧ b < 55) ∨ 62 < b → F' b = F b) ∧ RW F' σ 1 (rw_ N) ∧ ∀ j, k ≤ j → j ≤ N → RKx (rw_ j) := by
  have hp := PL_1 h
  have t5 : True ∧ 55 < 999999 := ⟨trivial, by decide⟩
  intro r
  induction r with
  | zero =>
    intro k F R e
    have ek : k = N := by omega
    subst ek
    refine ⟨F, ?_, fun b _ => rfl, R, fun j h1 h2 => by rw [show j = k by omega]; exact RW_RK R⟩
    rw [q_101_25 99, if_pos (Int32.le_refl _)]
  | succ r ih =>
    intro k F R e
    have RX := RW_RK R
    obtain ⟨n, m, t, P, B, T, z⟩ := R
    obtain ⟨F1, a1, a2, a3, a4, a5⟩ := c_work (d := 94) (J := J) h hp (by decide) ta P B T z hx
    rw [hrw] at a3
    rw [hsd] at a4
    rw [hws] at a5
    have l1 := (sd_le (rw_ k)).1
    have l2 := (sd_le (rw_ k)).2
    rw [hsd] at l1
    rw [hws] at l2
    obtain ⟨F2, b1, b2, b3, b4⟩ := ih (k + 1) F1 a3 (by omega)
    refine ⟨F2, ?_, fun b hb => by rw [b2 b hb, a2 b (by omega)], b3, fun j h1 h2 => ?_⟩
    · rw [q_101_25 99, if_neg (nle (by omega) (by omega))]
      simp only [mS, mR, mF, Y_0 h, Z_0_0 h, Z_0_4 h, Y_55 h, if_true, if_pos t5, a1, Option.bind_some, a4, a5, nI_s]
      rw [ktN_s] at b1
      by_cases c : ws k ≤ sd k
      · rw [if_pos c] at b1
        rw [if_neg (nlt c (by omega))]
        exact b1
      · rw [if_neg c] at b1
        rw [if_pos (ylt (by omega) (by omega))]
        exact b1
    · by_cases ej : j = k
      · rw [ej]; exact RX
      · exact b4 j (by omega) h2
theorem m_worksL (h : Lay L σ) {x : Int32} {rw_ : Nat → Nat → Int32} {sd ws : Nat → Nat} (hrw : ∀ k, wkR (rw_ k) x = rw_ (k + 1)) (hsd : ∀ k, sdN (rw_ k) = sd k) (hws : ∀ k, wsN (rw_ k) = ws k) {N : Nat} (hN : N ≤ 40) (hR : ∀ j, j ≤ N → RKx (rw_ j)) : ∀ (r k : Nat) (F : Nat → Nat → Int32), F 100 = rw_ k → k + r = N → ∃ F', Rn 100 188 (27, [.ref 99, .int x, .int (nI N), .int (nI (ktN sd ws k)), .int (nI k)], [], (F, J, σ)) = some (some (.int (nI (ktN sd ws N))), (F', J, σ)) ∧ (∀ b, b < 99 ∨ (100 < b ∧ b < 111) ∨ (113 < b ∧ b < 118) ∨ 119 < b → F' b = F b) ∧ (∀ j, j ≠ 18 → F' 99 j = F 99 j) ∧ F' 100 = rw_ N := by
  have t9 : True ∧ 99 < 999999 := ⟨trivial, by decide⟩
  intro r
  induction r with
  | zero =>
    intro k F hF e
    have ek : k = N := by omega
    subst ek
    refine ⟨F, ?_, fun b _ => rfl, fun j _ => rfl, hF⟩
    rw [q_188_27 99, if_pos (Int32.le_refl _)]
  | succ r ih =>
    intro k F hF e
    obtain ⟨n, m, t, R⟩ := hR k (by omega)
    obtain ⟨F1, a1, a2, a3, a4, a5⟩ := m_work (d := 93) (F := F) (J := J) h (by rw [hF]; exact R) x
    rw [hF, hrw] at a5
    rw [hF, hsd, hws] at a1
    obtain ⟨F2, b1, b2, b3, b4⟩ := ih (k + 1) F1 a5 (by omega)
    refine ⟨F2, ?_, fun b hb => by rw [b2 b hb, a2 b hb], fun j hj => by rw [b3 j hj, a3 j hj], b4⟩
    rw [q_188_27 99, if_neg (nle (by omega) (by omega))]
    simp only [mS, Y_99 h, if_pos t9, a1, Option.bind_some, nI_s, Int32.add_zero]
    rw [ktN_s] at b1
    by_cases c : ws k ≤ sd k
    · rw [if_pos c] at b1
      simp only [if_pos c]
      rw [if_neg (by decide)]
      exact b1
    · rw [if_neg c] at b1
      simp only [if_neg c]
      rw [if_pos trivial]
      exact b1
def wkI (s : Nat → Int32) (x : Int32) : Nat → Nat → Int32
  | 0 => s
  | k + 1 => wkR (wkI s x k) x
theorem wkI_s (s : Nat → Int32) (x : Int32) (k : Nat) : wkR (wkI s x k) x = wkI s x (k + 1) := rfl
theorem in_n {x : Int32} {lo hi : Nat} (hh : lo < 2 ^ 30 ∧ hi < 2 ^ 30) (h : nI lo ≤ x ∧ x ≤ nI hi) : ∃ k, lo ≤ k ∧ k ≤ hi ∧ x = nI k := by
  have h1 := Int32.le_iff_toInt_le.mp h.1
  have h2 := Int32.le_iff_toInt_le.mp h.2
  rw [nI_toInt (by omega)] at h1 h2
  refine ⟨x.toInt.toNat, by omega, by omega, nI_fo ?_⟩
  rw [Int32.le_iff_toInt_le]
  show (0 : Int) ≤ x.toInt
  omega
theorem op_works : OpI (Inv L xs) 101 188 2 := op2 fun q F J σ x w hq I => by
  have h := I.lay
  by_cases h1 : 0 ≤ x ∧ x ≤ 2
  · by_cases h2 : 1 ≤ w ∧ w ≤ 40
    · obtain ⟨N, hN1, hN2, rfl⟩ := in_n (lo := 1) (hi := 40) (by decide) h2
      obtain ⟨rw_, erw⟩ : ∃ r, r = wkI (F 100) x := ⟨_, rfl⟩
      have r0 : rw_ 0 = F 100 := by rw [erw]; rfl
      have hrw : ∀ k, wkR (rw_ k) x = rw_ (k + 1) := fun k => by rw [erw, wkI_s]
      obtain ⟨F1, a1, a2, a3, a4⟩ := c_worksL (J := J) h I.ta.1 h1 hrw (fun k => rfl) (fun k => rfl) hN2 N 0 F (by rw [r0]; exact I.rw) (by omega)
      obtain ⟨F2, b1, b2, b3, b4⟩ := m_worksL (J := J) h hrw (fun k => rfl) (fun k => rfl) hN2 (fun j hj => a4 j (by omega) hj) N 0 F1 (by rw [r0, a2 100 (by omega)]) (by omega)
      refine ⟨nI (ktN (fun k => sdN (rw_ k)) (fun k => wsN (rw_ k)) N), F1, J, σ, F2, J, σ, ?_, h, a2 _ (by omega), ?_, ?_⟩
      · refine i_101 (d := 99) ?_
        rw [q_101_0 99, c_isSort (d := 98)]
        simp only [Option.bind_some, b2i_0, c_within]
        rw [if_neg (not_not_intro h1), if_neg (not_not_intro h2)]
        exact a1
      · refine i_188 (d := 99) ?_
        rw [q_188_0 99, m_isSort]
        simp only [Option.bind_some, b2i_0, show cI 99 133 [.long (nI N).toInt64, .long 1, .long 40] (F1, J, σ) = _ from m_in (nI N) 1 40]
        rw [if_neg (not_not_intro h1), if_neg (not_not_intro h2)]
        exact b1
      · have o : ∀ b, b = 0 ∨ (18 < b ∧ b < 55) ∨ (62 < b ∧ b < 99) ∨ (100 < b ∧ b < 111) ∨ (113 < b ∧ b < 118) ∨ 119 < b → F2 b = F b := fun b hb => by rw [b2 b (by omega), a2 b (by omega)]
        refine IV_row I (fun a ha => o a (by omega)) ?_ ?_
        · unfold k99
          rw [b3 3 (by decide), b3 20 (by decide), b3 36 (by decide), a2 99 (by omega)]
          exact ⟨rfl, rfl, rfl⟩
        · rw [b4]
          exact RW_cg (fun a h1 h2 => b2 a (by omega)) (fun a h1 h2 => b2 a (by omega)) (fun j _ => rfl) a3
    · refine ⟨-1000000001, F, J, σ, F, J, σ, ?_, h, rfl, ?_, I.up⟩
      · refine i_101 (d := 99) ?_
        rw [q_101_0 99, c_isSort (d := 98)]
        simp only [Option.bind_some, b2i_0, c_within]
        rw [if_neg (not_not_intro h1), if_pos h2]
      · refine i_188 (d := 99) ?_
        rw [q_188_0 99, m_isSort]
        simp only [Option.bind_some, b2i_0, show cI 99 133 [.long w.toInt64, .long 1, .long 40] (F, J, σ) = _ from m_in w 1 40]
        rw [if_neg (not_not_intro h1), if_pos h2]
  · refine ⟨-1000000001, F, J, σ, F, J, σ, ?_, h, rfl, ?_, I.up⟩
    · refine i_101 (d := 99) ?_
      rw [q_101_0 99, c_isSort (d := 98)]
      simp only [Option.bind_some, b2i_0]
      rw [if_pos h1]
    · refine i_188 (d := 99) ?_
      rw [q_188_0 99, m_isSort]
      simp only [Option.bind_some, b2i_0]
      rw [if_pos h1]
end OPS
