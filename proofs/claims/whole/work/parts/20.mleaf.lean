/-! THE MODEL'S LEAVES. ms = the row s of the model (cell 100). -/
section ML
variable {L d : Nat} {F : Nat → Nat → Int32} {J : Nat → Nat → Int64} {σ : aSg} {μ : aMem}
theorem m_isIn (a lo hi : Int64) : cI d 133 [.long a, .long lo, .long hi] μ = some (b2i (lo ≤ a ∧ a ≤ hi), μ) := by
  refine i_133 ?_
  rw [q_133_0]
  simp only [lg_lt, lg_gt, b2i]
  by_cases h1 : a < lo
  · rw [if_pos h1, if_neg (fun h => (Int64.not_le.mpr h1) h.1)]
  · by_cases h2 : hi < a
    · rw [if_neg h1, if_pos h2, if_neg (fun h => (Int64.not_le.mpr h2) h.2)]
    · rw [if_neg h1, if_neg h2, if_pos ⟨Int64.not_lt.mp h1, Int64.not_lt.mp h2⟩]
theorem m_within (v most : Int32) : cI d 134 [.int v, .int most] μ = some (if v < 0 then 0 else if most < v then most else v, μ) := by
  refine i_134 ?_
  rw [q_134_0]
  by_cases h1 : v < 0
  · rw [if_neg (Int32.not_le.mpr h1), if_pos h1]
  · rw [if_pos (Int32.not_lt.mp h1), if_neg h1]
    by_cases h2 : most < v
    · rw [if_neg (Int32.not_le.mpr h2), if_pos h2]
    · rw [if_pos (Int32.not_lt.mp h2), if_neg h2]
theorem m_isSort (k : Int32) : cI d 141 [.int k] μ = some (b2i (0 ≤ k ∧ k ≤ 2), μ) := by
  refine i_141 ?_
  rw [q_141_0]
  simp only [b2i]
  by_cases h1 : k < 0
  · rw [if_pos h1, if_neg (fun h => (Int32.not_le.mpr h1) h.1)]
  · by_cases h2 : 2 < k
    · rw [if_neg h1, if_pos h2, if_neg (fun h => (Int32.not_le.mpr h2) h.2)]
    · rw [if_neg h1, if_neg h2, if_pos ⟨Int32.not_lt.mp h1, Int32.not_lt.mp h2⟩]
theorem m_of (h : Lay L σ) {p w : Nat} (hp : p < 10) (hw : w < 5) : cI d 139 [.ref 99, .int (nI p), .int (nI w)] (F, J, σ) = some (F 100 (4 + 5 * p + w), (F, J, σ)) := by
  refine i_139 ?_
  rw [q_139_0]
  simp only [mS, mR, mF, Y_99 h, Z_99_0 h, if_true]
  have e : (4 + 5 * nI p) + nI w = nI (4 + 5 * p + w) := by
    rw [show (4 : Int32) = nI 4 from rfl, show (5 : Int32) = nI 5 from rfl, pk_mul, nI_add, nI_add]
  rw [e, rdI_nI (Y_100 h) (by omega) (by decide)]
  rfl
theorem m_isPart (h : Lay L σ) {n : Nat} (hn : F 100 0 = nI n) (hn10 : n ≤ 10) (p : Int32) : cI (d + 1) 140 [.ref 99, .int p] (F, J, σ) = some (b2i (0 ≤ p ∧ p < nI n), (F, J, σ)) := by
  refine i_140 ?_
  rw [q_140_0]
  simp only [mS, mR, mF, Y_99 h, Z_99_0 h, if_true]
  rw [show (0 : Int32) = nI 0 from rfl, rdI_nI (Y_100 h) (by omega) (by decide), hn]
  simp only [Option.bind_some, m_isIn, b2i_01, if_true]
  trace_state
  sorry
end ML
