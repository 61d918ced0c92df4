/-! THE MODEL'S LEAVES. ms = the row s of the model (cell 100). -/
section ML
variable {L d : Nat} {F : Nat → Nat → Int32} {J : Nat → Nat → Int64} {σ : aSg} {μ : aMem}
theorem m_isIn (a lo hi : Int64) : cI d 133 [.long a, .long lo, .long hi] μ = some (b2i (lo ≤ a ∧ a ≤ hi), μ) := by
  refine i_133 ?_
  rw [q_133_0]
  simp only [lg_lt, lg_gt, b2i]
  by_cases h1 : a < lo
  · rw [if_pos h1, if_neg (fun h => (Int64.not_le.mpr h1) h.1)]
  · by_cases h2 : hi < a
    · rw [if_neg h1, if_pos h2, if_neg (fun h => (Int64.not_le.mpr h2) h.2)]
    · rw [if_neg h1, if_neg h2, if_pos ⟨Int64.not_lt.mp h1, Int64.not_lt.mp h2⟩]
theorem m_within (v most : Int32) : cI d 134 [.int v, .int most] μ = some (if v < 0 then 0 else if most < v then most else v, μ) := by
  refine i_134 ?_
  rw [q_134_0]
  by_cases h1 : v < 0
  · rw [if_neg (Int32.not_le.mpr h1), if_pos h1]
  · rw [if_pos (Int32.not_lt.mp h1), if_neg h1]
    by_cases h2 : most < v
    · rw [if_neg (Int32.not_le.mpr h2), if_pos h2]
    · rw [if_pos (Int32.not_lt.mp h2), if_neg h2]
theorem m_isSort (k : Int32) : cI d 141 [.int k] μ = some (b2i (0 ≤ k ∧ k ≤ 2), μ) := by
  refine i_141 ?_
  rw [q_141_0]
  simp only [b2i]
  by_cases h1 : k < 0
  · rw [if_pos h1, if_neg (fun h => (Int32.not_le.mpr h1) h.1)]
  · by_cases h2 : 2 < k
    · rw [if_neg h1, if_pos h2, if_neg (fun h => (Int32.not_le.mpr h2) h.2)]
    · rw [if_neg h1, if_neg h2, if_pos ⟨Int32.not_lt.mp h1, Int32.not_lt.mp h2⟩]
theorem m_of (h : Lay L σ) {p w : Nat} (hp : p < 10) (hw : w < 5) : cI d 139 [.ref 99, .int (nI p), .int (nI w)] (F, J, σ) = some (F 100 (4 + 5 * p + w), (F, J, σ)) := by
  refine i_139 ?_
  rw [q_139_0]
  simp only [mS, mR, mF, Y_99 h, Z_99_0 h, if_true]
  have e : (4 + 5 * nI p) + nI w = nI (4 + 5 * p + w) := by
    rw [show (4 : Int32) = nI 4 from rfl, show (5 : Int32) = nI 5 from rfl, pk_mul, nI_add, nI_add]
  rw [e, rdI_nI (Y_100 h) (by omega) (by decide)]
  rfl
theorem b2i_congr {a b : Prop} [Decidable a] [Decidable b] (h : a ↔ b) : b2i a = b2i b := by
  unfold b2i
  by_cases ha : a
  · rw [if_pos ha, if_pos (h.mp ha)]
  · rw [if_neg ha, if_neg (fun hb => ha (h.mpr hb))]
theorem m_in (x lo hi : Int32) : cI d 133 [.long x.toInt64, .long lo.toInt64, .long hi.toInt64] μ = some (b2i (lo ≤ x ∧ x ≤ hi), μ) := by
  rw [m_isIn]
  exact congrArg (fun z => some (z, μ)) (b2i_congr (and_congr (i64_le lo x) (i64_le x hi)))
theorem m_in_0_5 (x : Int32) : cI d 133 [.long x.toInt64, .long 0, .long 5] μ = some (b2i (0 ≤ x ∧ x ≤ 5), μ) := m_in x 0 5
theorem m_in_0_99 (x : Int32) : cI d 133 [.long x.toInt64, .long 0, .long 99] μ = some (b2i (0 ≤ x ∧ x ≤ 99), μ) := m_in x 0 99
theorem m_in_0_10 (x : Int32) : cI d 133 [.long x.toInt64, .long 0, .long 10] μ = some (b2i (0 ≤ x ∧ x ≤ 10), μ) := m_in x 0 10
theorem m_in_0_2 (x : Int32) : cI d 133 [.long x.toInt64, .long 0, .long 2] μ = some (b2i (0 ≤ x ∧ x ≤ 2), μ) := m_in x 0 2
theorem m_in_0_1 (x : Int32) : cI d 133 [.long x.toInt64, .long 0, .long 1] μ = some (b2i (0 ≤ x ∧ x ≤ 1), μ) := m_in x 0 1
theorem m_in_1_3 (x : Int32) : cI d 133 [.long x.toInt64, .long 1, .long 3] μ = some (b2i (1 ≤ x ∧ x ≤ 3), μ) := m_in x 1 3
theorem c_within (v lo hi : Int32) : cI d 122 [.int v, .int lo, .int hi] μ = some (b2i (lo ≤ v ∧ v ≤ hi), μ) := by
  refine i_122 ?_
  rw [q_122_0]
  simp only [b2i]
  by_cases h1 : v < lo
  · rw [if_pos h1, if_neg (fun h => (Int32.not_le.mpr h1) h.1)]
  · by_cases h2 : hi < v
    · rw [if_neg h1, if_pos h2, if_neg (fun h => (Int32.not_le.mpr h2) h.2)]
    · rw [if_neg h1, if_neg h2, if_pos ⟨Int32.not_lt.mp h1, Int32.not_lt.mp h2⟩]
theorem c_isKind (x : Int32) : cI (d + 1) 124 [.int x] μ = some (b2i (0 ≤ x ∧ x ≤ 5), μ) := by
  refine i_124 ?_
  rw [q_124_0, c_within, Option.bind_some, if_pos (b2i_01 _)]
theorem c_isSort (x : Int32) : cI (d + 1) 125 [.int x] μ = some (b2i (0 ≤ x ∧ x ≤ 2), μ) := by
  refine i_125 ?_
  rw [q_125_0, c_within, Option.bind_some, if_pos (b2i_01 _)]
theorem m_orNone (x : Int32) : cI d 135 [.int x] μ = some (if 0 ≤ x then x else -1000000005, μ) := by
  refine i_135 ?_
  rw [q_135_0]
  by_cases h : 0 ≤ x
  · rw [if_pos h, if_pos h]
  · rw [if_neg h, if_neg h]
theorem m_greater (x z : Int32) : cI d 136 [.int x, .int z] μ = some (if x ≤ z then z else x, μ) := by
  refine i_136 ?_
  rw [q_136_0]
  by_cases h : x ≤ z
  · rw [if_pos h, if_pos h]
  · rw [if_neg h, if_neg h]
theorem m_becomes (h : Lay L σ) {i : Nat} (hi : i < 3114) (v : Int32) : cI d 137 [.ref 99, .int (nI i), .int v] (F, J, σ) = some (F 100 i, (uF F 100 i v, J, σ)) := by
  refine i_137 ?_
  rw [q_137_0]
  simp only [mS, mR, Y_99 h, Z_99_0 h, Y_100 h, if_true]
  rw [rdI_nI (Y_100 h) hi (by decide), Option.bind_some, if_pos ⟨trivial, inb_nI hi (by decide)⟩, ix_nI (by omega)]
  rfl
theorem nI_prd {n : Nat} (hn : n < 2 ^ 31) : (nI n - 1).toInt = (n : Int) - 1 := by
  rw [Int32.toInt_sub, nI_toInt hn, show (1 : Int32).toInt = 1 from rfl, Int.bmod_eq_of_le (by omega) (by omega)]
theorem nI_fo {p : Int32} (h : 0 ≤ p) : p = nI p.toInt.toNat := by
  rw [Int32.le_iff_toInt_le, show (0 : Int32).toInt = 0 from rfl] at h
  have h2 : p.toInt < 2 ^ 31 := Int32.toInt_lt p
  apply Int32.toInt_inj.mp
  rw [nI_toInt (by omega)]
  omega
theorem nI_ex {p : Int32} {n : Nat} (hn : n < 2 ^ 31) : (0 ≤ p ∧ p < nI n) ↔ ∃ k, k < n ∧ p = nI k := by
  constructor
  · intro ⟨h1, h2⟩
    refine ⟨p.toInt.toNat, ?_, nI_fo h1⟩
    rw [Int32.le_iff_toInt_le, show (0 : Int32).toInt = 0 from rfl] at h1
    rw [Int32.lt_iff_toInt_lt, nI_toInt hn] at h2
    omega
  · intro ⟨k, h1, h2⟩
    rw [h2]
    exact ⟨nI_le (a := 0) (by omega) (by omega), nI_lt h1 hn⟩
theorem m_isPart (h : Lay L σ) {n : Nat} (hn : F 100 0 = nI n) (hn10 : n ≤ 10) (p : Int32) : cI (d + 1) 140 [.ref 99, .int p] (F, J, σ) = some (b2i (0 ≤ p ∧ p < nI n), (F, J, σ)) := by
  refine i_140 ?_
  rw [q_140_0]
  simp only [mS, mR, mF, Y_99 h, Z_99_0 h, if_true]
  rw [show rdI (F, J, σ) 100 0 = some (F 100 0) from rdI_nI (i := 0) (Y_100 h) (by decide) (by decide), hn]
  simp only [Option.bind_some]
  rw [show cI d 133 [.long p.toInt64, .long 0, .long (nI n - 1).toInt64] (F, J, σ) = _ from m_in p 0 (nI n - 1)]
  simp only [Option.bind_some, b2i_01, if_true]
  rw [b2i_congr (b := 0 ≤ p ∧ p < nI n)]
  refine and_congr Iff.rfl ?_
  rw [Int32.le_iff_toInt_le, Int32.lt_iff_toInt_lt, nI_prd (by omega), nI_toInt (by omega)]
  omega
theorem c_partAt (h : Lay L σ) {p n : Nat} (hp : σ.2.1 p = (2, 7)) (hq : σ.1 p 0 = p + 1) (hs : σ.2.1 (p + 1) = (12, 10)) (hr : ∀ k, k < 10 → σ.1 (p + 1) k = p + 8 + k) (hp4 : p < 100) (hn : F p 1 = nI n) (hn10 : n ≤ 10) (x : Int32) : cR d 12 [.ref p, .int x] (F, J, σ) = some (if 0 ≤ x ∧ x < nI n then p + 8 + x.toInt.toNat else 999999, (F, J, σ)) := by
  refine i_12 ?_
  rw [q_12_0]
  simp only [mS, mR, mF, hp, hq, hs, hn, if_true]
  by_cases h1 : x < 0
  · rw [if_pos h1, if_neg (fun hh => (Int32.not_le.mpr h1) hh.1)]
  · rw [if_neg h1]
    by_cases h2 : nI n ≤ x
    · rw [if_pos h2, if_neg (fun hh => (Int32.not_le.mpr hh.2) h2)]
    · rw [if_neg h2]
      have h3 : 0 ≤ x ∧ x < nI n := ⟨Int32.not_lt.mp h1, Int32.not_le.mp h2⟩
      obtain ⟨k, hk, rfl⟩ := (nI_ex (by omega)).mp h3
      rw [if_neg (fun hh : (10 : Int32) ≤ nI k => absurd ((nI_leI (a := 10) (by omega) (by omega)).mp hh) (by omega)), if_pos ⟨by omega, by omega, inb_nI (by omega) (by decide)⟩, ix_nI (by omega), hr k (by omega), if_pos (by omega), if_pos h3, nI_toInt (by omega)]
      rfl
end ML
