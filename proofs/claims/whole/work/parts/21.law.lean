/-! THE LAW'S LOOP: out of an invariant that every pair of calls keeps. -/
def OpI (Inv : Nat → aMem → Prop) (y y' n : Nat) : Prop := ∀ (q : Nat) (μ : aMem) (as : List Int32), as.length = n → q < 64 → Inv q μ → ∃ (r : Int32) (μ1 μ2 : aMem), cI 100 y (.ref 0 :: as.map .int) μ = some (r, μ1) ∧ (mS μ1 99).1 = 9 ∧ mS μ1 1000014 = mS μ 1000014 ∧ mF μ1 1000014 = mF μ 1000014 ∧ cI 100 y' (.ref 99 :: as.map .int) μ1 = some (r, μ2) ∧ Inv (q + 1) μ2
def OpJ (Inv : Nat → aMem → Prop) (y y' n : Nat) : Prop := ∀ (q : Nat) (μ : aMem) (as : List Int32), as.length = n → q < 64 → Inv q μ → ∃ (r : Int64) (μ1 μ2 : aMem), cJ 100 y (.ref 0 :: as.map .int) μ = some (r, μ1) ∧ (mS μ1 99).1 = 9 ∧ mS μ1 1000014 = mS μ 1000014 ∧ mF μ1 1000014 = mF μ 1000014 ∧ cJ 100 y' (.ref 99 :: as.map .int) μ1 = some (r, μ2) ∧ Inv (q + 1) μ2
def Bs (L : Nat) (xs : Nat → Int32) (q : Nat) (μ : aMem) : Prop := mS μ 1000014 = (18, L) ∧ mF μ 1000014 = xs ∧ (mS μ 0).1 = 8 ∧ mN μ ≤ 124 + 2 * q ∧ mL μ ≤ 18424 + 200 * q
def Ops (Inv : Nat → aMem → Prop) : Prop := OpI Inv 82 146 4 ∧ OpI Inv 83 158 2 ∧ OpI Inv 84 160 2 ∧ OpI Inv 85 161 2 ∧ OpI Inv 86 162 3 ∧ OpI Inv 87 163 3 ∧ OpI Inv 88 165 3 ∧ OpI Inv 89 166 2 ∧ OpI Inv 90 167 1 ∧ OpI Inv 91 168 1 ∧ OpI Inv 92 169 1 ∧ OpI Inv 93 170 0 ∧ OpI Inv 94 171 0 ∧ OpI Inv 95 173 0 ∧ OpI Inv 96 176 1 ∧ OpI Inv 97 177 3 ∧ OpJ Inv 98 183 2 ∧ OpI Inv 99 185 1 ∧ OpJ Inv 100 186 1 ∧ OpI Inv 101 188 2 ∧ OpI Inv 102 189 1 ∧ OpI Inv 103 190 3 ∧ OpI Inv 104 191 1 ∧ OpI Inv 105 207 0 ∧ OpI Inv 106 208 2 ∧ OpI Inv 107 210 1 ∧ OpI Inv 108 214 3 ∧ OpI Inv 109 215 3 ∧ OpI Inv 110 216 1 ∧ OpI Inv 111 217 2 ∧ OpI Inv 112 218 5 ∧ OpI Inv 113 220 3 ∧ OpI Inv 114 221 2 ∧ OpI Inv 115 222 2 ∧ OpI Inv 116 223 2 ∧ OpI Inv 117 224 1 ∧ OpI Inv 118 226 2 ∧ OpI Inv 119 227 0 ∧ OpI Inv 120 228 0 ∧ OpI Inv 121 229 1
theorem rdX {μ : aMem} {L i : Nat} {xs : Nat → Int32} (hS : mS μ 1000014 = (18, L)) (hF : mF μ 1000014 = xs) (hi : i < L) (hL : L ≤ 384) : rdI μ 1000014 (nI i) = some (xs i) := by
  unfold rdI
  rw [hS, if_pos (Or.inr rfl), if_pos (nI_in hi (by omega)), hF]
  show some (xs (nI i).toNatClampNeg) = _
  rw [nI_clamp (by omega)]
theorem rdX1 {μ : aMem} {L i : Nat} {xs : Nat → Int32} (hS : mS μ 1000014 = (18, L)) (hF : mF μ 1000014 = xs) (hi : i + 5 < L) (hL : L ≤ 384) : rdI μ 1000014 (nI i + 1) = some (xs (i + 1)) ∧ rdI μ 1000014 (nI i + 2) = some (xs (i + 2)) ∧ rdI μ 1000014 (nI i + 3) = some (xs (i + 3)) ∧ rdI μ 1000014 (nI i + 4) = some (xs (i + 4)) ∧ rdI μ 1000014 (nI i + 5) = some (xs (i + 5)) :=
  ⟨(congrArg (rdI μ 1000014) (nI_add i 1)).trans (rdX hS hF (by omega) hL), (congrArg (rdI μ 1000014) (nI_add i 2)).trans (rdX hS hF (by omega) hL), (congrArg (rdI μ 1000014) (nI_add i 3)).trans (rdX hS hF (by omega) hL), (congrArg (rdI μ 1000014) (nI_add i 4)).trans (rdX hS hF (by omega) hL), (congrArg (rdI μ 1000014) (nI_add i 5)).trans (rdX hS hF (by omega) hL)⟩
section LAW
variable {Inv : Nat → aMem → Prop} {L : Nat} {xs : Nat → Int32}
theorem lc_208 (hB : ∀ q μ, Inv q μ → Bs L xs q μ) (hop : OpI Inv 82 146 4) {q : Nat} {μ : aMem} (hq : q < 64) (hI : Inv q μ) (hi : 6 * q + 5 < L) (hL : L ≤ 384) : ∃ μ2, Rn 101 246 (208, [.ref 1000014, .ref 0, .ref 99, .int (nI (6 * q))], [], μ) = Rn 101 246 (1420, [.ref 1000014, .ref 0, .ref 99, .int (nI (6 * q))], [], μ2) ∧ Inv (q + 1) μ2 := by
  obtain ⟨b1, b2, b3, -, -⟩ := hB q μ hI
  obtain ⟨r, μ1, μ2, h1, h2, h3, h4, h5, h6⟩ := hop q μ [xs (6 * q + 1), xs (6 * q + 2), xs (6 * q + 3), xs (6 * q + 4)] rfl hq hI
  replace h1 : cI 100 82 [.ref 0, .int (xs (6 * q + 1)), .int (xs (6 * q + 2)), .int (xs (6 * q + 3)), .int (xs (6 * q + 4))] μ = some (r, μ1) := h1
  replace h5 : cI 100 146 [.ref 99, .int (xs (6 * q + 1)), .int (xs (6 * q + 2)), .int (xs (6 * q + 3)), .int (xs (6 * q + 4))] μ1 = some (r, μ2) := h5
  obtain ⟨r1, r2, r3, r4, r5⟩ := rdX1 (i := 6 * q) b1 b2 hi hL
  obtain ⟨s1, s2, s3, s4, s5⟩ := rdX1 (μ := μ1) (i := 6 * q) (h3.trans b1) (h4.trans b2) hi hL
  refine ⟨μ2, ?_, h6⟩
  rw [q_246_208 100]
  simp only [r1, r2, r3, r4, r5, Option.bind_some, b3, h1, s1, s2, s3, s4, s5, h2, h5]
  rfl
theorem lc_261 (hB : ∀ q μ, Inv q μ → Bs L xs q μ) (hop : OpI Inv 83 158 2) {q : Nat} {μ : aMem} (hq : q < 64) (hI : Inv q μ) (hi : 6 * q + 5 < L) (hL : L ≤ 384) : ∃ μ2, Rn 101 246 (261, [.ref 1000014, .ref 0, .ref 99, .int (nI (6 * q))], [], μ) = Rn 101 246 (1420, [.ref 1000014, .ref 0, .ref 99, .int (nI (6 * q))], [], μ2) ∧ Inv (q + 1) μ2 := by
  obtain ⟨b1, b2, b3, -, -⟩ := hB q μ hI
  obtain ⟨r, μ1, μ2, h1, h2, h3, h4, h5, h6⟩ := hop q μ [xs (6 * q + 1), xs (6 * q + 2)] rfl hq hI
  replace h1 : cI 100 83 [.ref 0, .int (xs (6 * q + 1)), .int (xs (6 * q + 2))] μ = some (r, μ1) := h1
  replace h5 : cI 100 158 [.ref 99, .int (xs (6 * q + 1)), .int (xs (6 * q + 2))] μ1 = some (r, μ2) := h5
  obtain ⟨r1, r2, r3, r4, r5⟩ := rdX1 (i := 6 * q) b1 b2 hi hL
  obtain ⟨s1, s2, s3, s4, s5⟩ := rdX1 (μ := μ1) (i := 6 * q) (h3.trans b1) (h4.trans b2) hi hL
  refine ⟨μ2, ?_, h6⟩
  rw [q_246_261 100]
  simp only [r1, r2, r3, r4, r5, Option.bind_some, b3, h1, s1, s2, s3, s4, s5, h2, h5]
  rfl
theorem lc_294 (hB : ∀ q μ, Inv q μ → Bs L xs q μ) (hop : OpI Inv 84 160 2) {q : Nat} {μ : aMem} (hq : q < 64) (hI : Inv q μ) (hi : 6 * q + 5 < L) (hL : L ≤ 384) : ∃ μ2, Rn 101 246 (294, [.ref 1000014, .ref 0, .ref 99, .int (nI (6 * q))], [], μ) = Rn 101 246 (1420, [.ref 1000014, .ref 0, .ref 99, .int (nI (6 * q))], [], μ2) ∧ Inv (q + 1) μ2 := by
  obtain ⟨b1, b2, b3, -, -⟩ := hB q μ hI
  obtain ⟨r, μ1, μ2, h1, h2, h3, h4, h5, h6⟩ := hop q μ [xs (6 * q + 1), xs (6 * q + 2)] rfl hq hI
  replace h1 : cI 100 84 [.ref 0, .int (xs (6 * q + 1)), .int (xs (6 * q + 2))] μ = some (r, μ1) := h1
  replace h5 : cI 100 160 [.ref 99, .int (xs (6 * q + 1)), .int (xs (6 * q + 2))] μ1 = some (r, μ2) := h5
  obtain ⟨r1, r2, r3, r4, r5⟩ := rdX1 (i := 6 * q) b1 b2 hi hL
  obtain ⟨s1, s2, s3, s4, s5⟩ := rdX1 (μ := μ1) (i := 6 * q) (h3.trans b1) (h4.trans b2) hi hL
  refine ⟨μ2, ?_, h6⟩
  rw [q_246_294 100]
  simp only [r1, r2, r3, r4, r5, Option.bind_some, b3, h1, s1, s2, s3, s4, s5, h2, h5]
  rfl
theorem lc_327 (hB : ∀ q μ, Inv q μ → Bs L xs q μ) (hop : OpI Inv 85 161 2) {q : Nat} {μ : aMem} (hq : q < 64) (hI : Inv q μ) (hi : 6 * q + 5 < L) (hL : L ≤ 384) : ∃ μ2, Rn 101 246 (327, [.ref 1000014, .ref 0, .ref 99, .int (nI (6 * q))], [], μ) = Rn 101 246 (1420, [.ref 1000014, .ref 0, .ref 99, .int (nI (6 * q))], [], μ2) ∧ Inv (q + 1) μ2 := by
  obtain ⟨b1, b2, b3, -, -⟩ := hB q μ hI
  obtain ⟨r, μ1, μ2, h1, h2, h3, h4, h5, h6⟩ := hop q μ [xs (6 * q + 1), xs (6 * q + 2)] rfl hq hI
  replace h1 : cI 100 85 [.ref 0, .int (xs (6 * q + 1)), .int (xs (6 * q + 2))] μ = some (r, μ1) := h1
  replace h5 : cI 100 161 [.ref 99, .int (xs (6 * q + 1)), .int (xs (6 * q + 2))] μ1 = some (r, μ2) := h5
  obtain ⟨r1, r2, r3, r4, r5⟩ := rdX1 (i := 6 * q) b1 b2 hi hL
  obtain ⟨s1, s2, s3, s4, s5⟩ := rdX1 (μ := μ1) (i := 6 * q) (h3.trans b1) (h4.trans b2) hi hL
  refine ⟨μ2, ?_, h6⟩
  rw [q_246_327 100]
  simp only [r1, r2, r3, r4, r5, Option.bind_some, b3, h1, s1, s2, s3, s4, s5, h2, h5]
  rfl
theorem lc_360 (hB : ∀ q μ, Inv q μ → Bs L xs q μ) (hop : OpI Inv 86 162 3) {q : Nat} {μ : aMem} (hq : q < 64) (hI : Inv q μ) (hi : 6 * q + 5 < L) (hL : L ≤ 384) : ∃ μ2, Rn 101 246 (360, [.ref 1000014, .ref 0, .ref 99, .int (nI (6 * q))], [], μ) = Rn 101 246 (1420, [.ref 1000014, .ref 0, .ref 99, .int (nI (6 * q))], [], μ2) ∧ Inv (q + 1) μ2 := by
  obtain ⟨b1, b2, b3, -, -⟩ := hB q μ hI
  obtain ⟨r, μ1, μ2, h1, h2, h3, h4, h5, h6⟩ := hop q μ [xs (6 * q + 1), xs (6 * q + 2), xs (6 * q + 3)] rfl hq hI
  replace h1 : cI 100 86 [.ref 0, .int (xs (6 * q + 1)), .int (xs (6 * q + 2)), .int (xs (6 * q + 3))] μ = some (r, μ1) := h1
  replace h5 : cI 100 162 [.ref 99, .int (xs (6 * q + 1)), .int (xs (6 * q + 2)), .int (xs (6 * q + 3))] μ1 = some (r, μ2) := h5
  obtain ⟨r1, r2, r3, r4, r5⟩ := rdX1 (i := 6 * q) b1 b2 hi hL
  obtain ⟨s1, s2, s3, s4, s5⟩ := rdX1 (μ := μ1) (i := 6 * q) (h3.trans b1) (h4.trans b2) hi hL
  refine ⟨μ2, ?_, h6⟩
  rw [q_246_360 100]
  simp only [r1, r2, r3, r4, r5, Option.bind_some, b3, h1, s1, s2, s3, s4, s5, h2, h5]
  rfl
theorem lc_403 (hB : ∀ q μ, Inv q μ → Bs L xs q μ) (hop : OpI Inv 87 163 3) {q : Nat} {μ : aMem} (hq : q < 64) (hI : Inv q μ) (hi : 6 * q + 5 < L) (hL : L ≤ 384) : ∃ μ2, Rn 101 246 (403, [.ref 1000014, .ref 0, .ref 99, .int (nI (6 * q))], [], μ) = Rn 101 246 (1420, [.ref 1000014, .ref 0, .ref 99, .int (nI (6 * q))], [], μ2) ∧ Inv (q + 1) μ2 := by
  obtain ⟨b1, b2, b3, -, -⟩ := hB q μ hI
  obtain ⟨r, μ1, μ2, h1, h2, h3, h4, h5, h6⟩ := hop q μ [xs (6 * q + 1), xs (6 * q + 2), xs (6 * q + 3)] rfl hq hI
  replace h1 : cI 100 87 [.ref 0, .int (xs (6 * q + 1)), .int (xs (6 * q + 2)), .int (xs (6 * q + 3))] μ = some (r, μ1) := h1
  replace h5 : cI 100 163 [.ref 99, .int (xs (6 * q + 1)), .int (xs (6 * q + 2)), .int (xs (6 * q + 3))] μ1 = some (r, μ2) := h5
  obtain ⟨r1, r2, r3, r4, r5⟩ := rdX1 (i := 6 * q) b1 b2 hi hL
  obtain ⟨s1, s2, s3, s4, s5⟩ := rdX1 (μ := μ1) (i := 6 * q) (h3.trans b1) (h4.trans b2) hi hL
  refine ⟨μ2, ?_, h6⟩
  rw [q_246_403 100]
  simp only [r1, r2, r3, r4, r5, Option.bind_some, b3, h1, s1, s2, s3, s4, s5, h2, h5]
  rfl
theorem lc_446 (hB : ∀ q μ, Inv q μ → Bs L xs q μ) (hop : OpI Inv 88 165 3) {q : Nat} {μ : aMem} (hq : q < 64) (hI : Inv q μ) (hi : 6 * q + 5 < L) (hL : L ≤ 384) : ∃ μ2, Rn 101 246 (446, [.ref 1000014, .ref 0, .ref 99, .int (nI (6 * q))], [], μ) = Rn 101 246 (1420, [.ref 1000014, .ref 0, .ref 99, .int (nI (6 * q))], [], μ2) ∧ Inv (q + 1) μ2 := by
  obtain ⟨b1, b2, b3, -, -⟩ := hB q μ hI
  obtain ⟨r, μ1, μ2, h1, h2, h3, h4, h5, h6⟩ := hop q μ [xs (6 * q + 1), xs (6 * q + 2), xs (6 * q + 3)] rfl hq hI
  replace h1 : cI 100 88 [.ref 0, .int (xs (6 * q + 1)), .int (xs (6 * q + 2)), .int (xs (6 * q + 3))] μ = some (r, μ1) := h1
  replace h5 : cI 100 165 [.ref 99, .int (xs (6 * q + 1)), .int (xs (6 * q + 2)), .int (xs (6 * q + 3))] μ1 = some (r, μ2) := h5
  obtain ⟨r1, r2, r3, r4, r5⟩ := rdX1 (i := 6 * q) b1 b2 hi hL
  obtain ⟨s1, s2, s3, s4, s5⟩ := rdX1 (μ := μ1) (i := 6 * q) (h3.trans b1) (h4.trans b2) hi hL
  refine ⟨μ2, ?_, h6⟩
  rw [q_246_446 100]
  simp only [r1, r2, r3, r4, r5, Option.bind_some, b3, h1, s1, s2, s3, s4, s5, h2, h5]
  rfl
theorem lc_489 (hB : ∀ q μ, Inv q μ → Bs L xs q μ) (hop : OpI Inv 89 166 2) {q : Nat} {μ : aMem} (hq : q < 64) (hI : Inv q μ) (hi : 6 * q + 5 < L) (hL : L ≤ 384) : ∃ μ2, Rn 101 246 (489, [.ref 1000014, .ref 0, .ref 99, .int (nI (6 * q))], [], μ) = Rn 101 246 (1420, [.ref 1000014, .ref 0, .ref 99, .int (nI (6 * q))], [], μ2) ∧ Inv (q + 1) μ2 := by
  obtain ⟨b1, b2, b3, -, -⟩ := hB q μ hI
  obtain ⟨r, μ1, μ2, h1, h2, h3, h4, h5, h6⟩ := hop q μ [xs (6 * q + 1), xs (6 * q + 2)] rfl hq hI
  replace h1 : cI 100 89 [.ref 0, .int (xs (6 * q + 1)), .int (xs (6 * q + 2))] μ = some (r, μ1) := h1
  replace h5 : cI 100 166 [.ref 99, .int (xs (6 * q + 1)), .int (xs (6 * q + 2))] μ1 = some (r, μ2) := h5
  obtain ⟨r1, r2, r3, r4, r5⟩ := rdX1 (i := 6 * q) b1 b2 hi hL
  obtain ⟨s1, s2, s3, s4, s5⟩ := rdX1 (μ := μ1) (i := 6 * q) (h3.trans b1) (h4.trans b2) hi hL
  refine ⟨μ2, ?_, h6⟩
  rw [q_246_489 100]
  simp only [r1, r2, r3, r4, r5, Option.bind_some, b3, h1, s1, s2, s3, s4, s5, h2, h5]
  rfl
theorem lc_522 (hB : ∀ q μ, Inv q μ → Bs L xs q μ) (hop : OpI Inv 90 167 1) {q : Nat} {μ : aMem} (hq : q < 64) (hI : Inv q μ) (hi : 6 * q + 5 < L) (hL : L ≤ 384) : ∃ μ2, Rn 101 246 (522, [.ref 1000014, .ref 0, .ref 99, .int (nI (6 * q))], [], μ) = Rn 101 246 (1420, [.ref 1000014, .ref 0, .ref 99, .int (nI (6 * q))], [], μ2) ∧ Inv (q + 1) μ2 := by
  obtain ⟨b1, b2, b3, -, -⟩ := hB q μ hI
  obtain ⟨r, μ1, μ2, h1, h2, h3, h4, h5, h6⟩ := hop q μ [xs (6 * q + 1)] rfl hq hI
  replace h1 : cI 100 90 [.ref 0, .int (xs (6 * q + 1))] μ = some (r, μ1) := h1
  replace h5 : cI 100 167 [.ref 99, .int (xs (6 * q + 1))] μ1 = some (r, μ2) := h5
  obtain ⟨r1, r2, r3, r4, r5⟩ := rdX1 (i := 6 * q) b1 b2 hi hL
  obtain ⟨s1, s2, s3, s4, s5⟩ := rdX1 (μ := μ1) (i := 6 * q) (h3.trans b1) (h4.trans b2) hi hL
  refine ⟨μ2, ?_, h6⟩
  rw [q_246_522 100]
  simp only [r1, r2, r3, r4, r5, Option.bind_some, b3, h1, s1, s2, s3, s4, s5, h2, h5]
  rfl
theorem lc_545 (hB : ∀ q μ, Inv q μ → Bs L xs q μ) (hop : OpI Inv 91 168 1) {q : Nat} {μ : aMem} (hq : q < 64) (hI : Inv q μ) (hi : 6 * q + 5 < L) (hL : L ≤ 384) : ∃ μ2, Rn 101 246 (545, [.ref 1000014, .ref 0, .ref 99, .int (nI (6 * q))], [], μ) = Rn 101 246 (1420, [.ref 1000014, .ref 0, .ref 99, .int (nI (6 * q))], [], μ2) ∧ Inv (q + 1) μ2 := by
  obtain ⟨b1, b2, b3, -, -⟩ := hB q μ hI
  obtain ⟨r, μ1, μ2, h1, h2, h3, h4, h5, h6⟩ := hop q μ [xs (6 * q + 1)] rfl hq hI
  replace h1 : cI 100 91 [.ref 0, .int (xs (6 * q + 1))] μ = some (r, μ1) := h1
  replace h5 : cI 100 168 [.ref 99, .int (xs (6 * q + 1))] μ1 = some (r, μ2) := h5
  obtain ⟨r1, r2, r3, r4, r5⟩ := rdX1 (i := 6 * q) b1 b2 hi hL
  obtain ⟨s1, s2, s3, s4, s5⟩ := rdX1 (μ := μ1) (i := 6 * q) (h3.trans b1) (h4.trans b2) hi hL
  refine ⟨μ2, ?_, h6⟩
  rw [q_246_545 100]
  simp only [r1, r2, r3, r4, r5, Option.bind_some, b3, h1, s1, s2, s3, s4, s5, h2, h5]
  rfl
theorem lc_568 (hB : ∀ q μ, Inv q μ → Bs L xs q μ) (hop : OpI Inv 92 169 1) {q : Nat} {μ : aMem} (hq : q < 64) (hI : Inv q μ) (hi : 6 * q + 5 < L) (hL : L ≤ 384) : ∃ μ2, Rn 101 246 (568, [.ref 1000014, .ref 0, .ref 99, .int (nI (6 * q))], [], μ) = Rn 101 246 (1420, [.ref 1000014, .ref 0, .ref 99, .int (nI (6 * q))], [], μ2) ∧ Inv (q + 1) μ2 := by
  obtain ⟨b1, b2, b3, -, -⟩ := hB q μ hI
  obtain ⟨r, μ1, μ2, h1, h2, h3, h4, h5, h6⟩ := hop q μ [xs (6 * q + 1)] rfl hq hI
  replace h1 : cI 100 92 [.ref 0, .int (xs (6 * q + 1))] μ = some (r, μ1) := h1
  replace h5 : cI 100 169 [.ref 99, .int (xs (6 * q + 1))] μ1 = some (r, μ2) := h5
  obtain ⟨r1, r2, r3, r4, r5⟩ := rdX1 (i := 6 * q) b1 b2 hi hL
  obtain ⟨s1, s2, s3, s4, s5⟩ := rdX1 (μ := μ1) (i := 6 * q) (h3.trans b1) (h4.trans b2) hi hL
  refine ⟨μ2, ?_, h6⟩
  rw [q_246_568 100]
  simp only [r1, r2, r3, r4, r5, Option.bind_some, b3, h1, s1, s2, s3, s4, s5, h2, h5]
  rfl
theorem lc_591 (hB : ∀ q μ, Inv q μ → Bs L xs q μ) (hop : OpI Inv 93 170 0) {q : Nat} {μ : aMem} (hq : q < 64) (hI : Inv q μ) (hi : 6 * q + 5 < L) (hL : L ≤ 384) : ∃ μ2, Rn 101 246 (591, [.ref 1000014, .ref 0, .ref 99, .int (nI (6 * q))], [], μ) = Rn 101 246 (1420, [.ref 1000014, .ref 0, .ref 99, .int (nI (6 * q))], [], μ2) ∧ Inv (q + 1) μ2 := by
  obtain ⟨b1, b2, b3, -, -⟩ := hB q μ hI
  obtain ⟨r, μ1, μ2, h1, h2, h3, h4, h5, h6⟩ := hop q μ [] rfl hq hI
  replace h1 : cI 100 93 [.ref 0] μ = some (r, μ1) := h1
  replace h5 : cI 100 170 [.ref 99] μ1 = some (r, μ2) := h5
  obtain ⟨r1, r2, r3, r4, r5⟩ := rdX1 (i := 6 * q) b1 b2 hi hL
  obtain ⟨s1, s2, s3, s4, s5⟩ := rdX1 (μ := μ1) (i := 6 * q) (h3.trans b1) (h4.trans b2) hi hL
  refine ⟨μ2, ?_, h6⟩
  rw [q_246_591 100]
  simp only [r1, r2, r3, r4, r5, Option.bind_some, b3, h1, s1, s2, s3, s4, s5, h2, h5]
  rfl
theorem lc_604 (hB : ∀ q μ, Inv q μ → Bs L xs q μ) (hop : OpI Inv 94 171 0) {q : Nat} {μ : aMem} (hq : q < 64) (hI : Inv q μ) (hi : 6 * q + 5 < L) (hL : L ≤ 384) : ∃ μ2, Rn 101 246 (604, [.ref 1000014, .ref 0, .ref 99, .int (nI (6 * q))], [], μ) = Rn 101 246 (1420, [.ref 1000014, .ref 0, .ref 99, .int (nI (6 * q))], [], μ2) ∧ Inv (q + 1) μ2 := by
  obtain ⟨b1, b2, b3, -, -⟩ := hB q μ hI
  obtain ⟨r, μ1, μ2, h1, h2, h3, h4, h5, h6⟩ := hop q μ [] rfl hq hI
  replace h1 : cI 100 94 [.ref 0] μ = some (r, μ1) := h1
  replace h5 : cI 100 171 [.ref 99] μ1 = some (r, μ2) := h5
  obtain ⟨r1, r2, r3, r4, r5⟩ := rdX1 (i := 6 * q) b1 b2 hi hL
  obtain ⟨s1, s2, s3, s4, s5⟩ := rdX1 (μ := μ1) (i := 6 * q) (h3.trans b1) (h4.trans b2) hi hL
  refine ⟨μ2, ?_, h6⟩
  rw [q_246_604 100]
  simp only [r1, r2, r3, r4, r5, Option.bind_some, b3, h1, s1, s2, s3, s4, s5, h2, h5]
  rfl
theorem lc_617 (hB : ∀ q μ, Inv q μ → Bs L xs q μ) (hop : OpI Inv 95 173 0) {q : Nat} {μ : aMem} (hq : q < 64) (hI : Inv q μ) (hi : 6 * q + 5 < L) (hL : L ≤ 384) : ∃ μ2, Rn 101 246 (617, [.ref 1000014, .ref 0, .ref 99, .int (nI (6 * q))], [], μ) = Rn 101 246 (1420, [.ref 1000014, .ref 0, .ref 99, .int (nI (6 * q))], [], μ2) ∧ Inv (q + 1) μ2 := by
  obtain ⟨b1, b2, b3, -, -⟩ := hB q μ hI
  obtain ⟨r, μ1, μ2, h1, h2, h3, h4, h5, h6⟩ := hop q μ [] rfl hq hI
  replace h1 : cI 100 95 [.ref 0] μ = some (r, μ1) := h1
  replace h5 : cI 100 173 [.ref 99] μ1 = some (r, μ2) := h5
  obtain ⟨r1, r2, r3, r4, r5⟩ := rdX1 (i := 6 * q) b1 b2 hi hL
  obtain ⟨s1, s2, s3, s4, s5⟩ := rdX1 (μ := μ1) (i := 6 * q) (h3.trans b1) (h4.trans b2) hi hL
  refine ⟨μ2, ?_, h6⟩
  rw [q_246_617 100]
  simp only [r1, r2, r3, r4, r5, Option.bind_some, b3, h1, s1, s2, s3, s4, s5, h2, h5]
  rfl
theorem lc_630 (hB : ∀ q μ, Inv q μ → Bs L xs q μ) (hop : OpI Inv 96 176 1) {q : Nat} {μ : aMem} (hq : q < 64) (hI : Inv q μ) (hi : 6 * q + 5 < L) (hL : L ≤ 384) : ∃ μ2, Rn 101 246 (630, [.ref 1000014, .ref 0, .ref 99, .int (nI (6 * q))], [], μ) = Rn 101 246 (1420, [.ref 1000014, .ref 0, .ref 99, .int (nI (6 * q))], [], μ2) ∧ Inv (q + 1) μ2 := by
  obtain ⟨b1, b2, b3, -, -⟩ := hB q μ hI
  obtain ⟨r, μ1, μ2, h1, h2, h3, h4, h5, h6⟩ := hop q μ [xs (6 * q + 1)] rfl hq hI
  replace h1 : cI 100 96 [.ref 0, .int (xs (6 * q + 1))] μ = some (r, μ1) := h1
  replace h5 : cI 100 176 [.ref 99, .int (xs (6 * q + 1))] μ1 = some (r, μ2) := h5
  obtain ⟨r1, r2, r3, r4, r5⟩ := rdX1 (i := 6 * q) b1 b2 hi hL
  obtain ⟨s1, s2, s3, s4, s5⟩ := rdX1 (μ := μ1) (i := 6 * q) (h3.trans b1) (h4.trans b2) hi hL
  refine ⟨μ2, ?_, h6⟩
  rw [q_246_630 100]
  simp only [r1, r2, r3, r4, r5, Option.bind_some, b3, h1, s1, s2, s3, s4, s5, h2, h5]
  rfl
theorem lc_653 (hB : ∀ q μ, Inv q μ → Bs L xs q μ) (hop : OpI Inv 97 177 3) {q : Nat} {μ : aMem} (hq : q < 64) (hI : Inv q μ) (hi : 6 * q + 5 < L) (hL : L ≤ 384) : ∃ μ2, Rn 101 246 (653, [.ref 1000014, .ref 0, .ref 99, .int (nI (6 * q))], [], μ) = Rn 101 246 (1420, [.ref 1000014, .ref 0, .ref 99, .int (nI (6 * q))], [], μ2) ∧ Inv (q + 1) μ2 := by
  obtain ⟨b1, b2, b3, -, -⟩ := hB q μ hI
  obtain ⟨r, μ1, μ2, h1, h2, h3, h4, h5, h6⟩ := hop q μ [xs (6 * q + 1), xs (6 * q + 2), xs (6 * q + 3)] rfl hq hI
  replace h1 : cI 100 97 [.ref 0, .int (xs (6 * q + 1)), .int (xs (6 * q + 2)), .int (xs (6 * q + 3))] μ = some (r, μ1) := h1
  replace h5 : cI 100 177 [.ref 99, .int (xs (6 * q + 1)), .int (xs (6 * q + 2)), .int (xs (6 * q + 3))] μ1 = some (r, μ2) := h5
  obtain ⟨r1, r2, r3, r4, r5⟩ := rdX1 (i := 6 * q) b1 b2 hi hL
  obtain ⟨s1, s2, s3, s4, s5⟩ := rdX1 (μ := μ1) (i := 6 * q) (h3.trans b1) (h4.trans b2) hi hL
  refine ⟨μ2, ?_, h6⟩
  rw [q_246_653 100]
  simp only [r1, r2, r3, r4, r5, Option.bind_some, b3, h1, s1, s2, s3, s4, s5, h2, h5]
  rfl
theorem lc_696 (hB : ∀ q μ, Inv q μ → Bs L xs q μ) (hop : OpJ Inv 98 183 2) {q : Nat} {μ : aMem} (hq : q < 64) (hI : Inv q μ) (hi : 6 * q + 5 < L) (hL : L ≤ 384) : ∃ μ2, Rn 101 246 (696, [.ref 1000014, .ref 0, .ref 99, .int (nI (6 * q))], [], μ) = Rn 101 246 (1420, [.ref 1000014, .ref 0, .ref 99, .int (nI (6 * q))], [], μ2) ∧ Inv (q + 1) μ2 := by
  obtain ⟨b1, b2, b3, -, -⟩ := hB q μ hI
  obtain ⟨r, μ1, μ2, h1, h2, h3, h4, h5, h6⟩ := hop q μ [xs (6 * q + 1), xs (6 * q + 2)] rfl hq hI
  replace h1 : cJ 100 98 [.ref 0, .int (xs (6 * q + 1)), .int (xs (6 * q + 2))] μ = some (r, μ1) := h1
  replace h5 : cJ 100 183 [.ref 99, .int (xs (6 * q + 1)), .int (xs (6 * q + 2))] μ1 = some (r, μ2) := h5
  obtain ⟨r1, r2, r3, r4, r5⟩ := rdX1 (i := 6 * q) b1 b2 hi hL
  obtain ⟨s1, s2, s3, s4, s5⟩ := rdX1 (μ := μ1) (i := 6 * q) (h3.trans b1) (h4.trans b2) hi hL
  refine ⟨μ2, ?_, h6⟩
  rw [q_246_696 100]
  simp only [r1, r2, r3, r4, r5, Option.bind_some, b3, h1, s1, s2, s3, s4, s5, h2, h5, lg_refl]
  rfl
theorem lc_730 (hB : ∀ q μ, Inv q μ → Bs L xs q μ) (hop : OpI Inv 99 185 1) {q : Nat} {μ : aMem} (hq : q < 64) (hI : Inv q μ) (hi : 6 * q + 5 < L) (hL : L ≤ 384) : ∃ μ2, Rn 101 246 (730, [.ref 1000014, .ref 0, .ref 99, .int (nI (6 * q))], [], μ) = Rn 101 246 (1420, [.ref 1000014, .ref 0, .ref 99, .int (nI (6 * q))], [], μ2) ∧ Inv (q + 1) μ2 := by
  obtain ⟨b1, b2, b3, -, -⟩ := hB q μ hI
  obtain ⟨r, μ1, μ2, h1, h2, h3, h4, h5, h6⟩ := hop q μ [xs (6 * q + 1)] rfl hq hI
  replace h1 : cI 100 99 [.ref 0, .int (xs (6 * q + 1))] μ = some (r, μ1) := h1
  replace h5 : cI 100 185 [.ref 99, .int (xs (6 * q + 1))] μ1 = some (r, μ2) := h5
  obtain ⟨r1, r2, r3, r4, r5⟩ := rdX1 (i := 6 * q) b1 b2 hi hL
  obtain ⟨s1, s2, s3, s4, s5⟩ := rdX1 (μ := μ1) (i := 6 * q) (h3.trans b1) (h4.trans b2) hi hL
  refine ⟨μ2, ?_, h6⟩
  rw [q_246_730 100]
  simp only [r1, r2, r3, r4, r5, Option.bind_some, b3, h1, s1, s2, s3, s4, s5, h2, h5]
  rfl
theorem lc_753 (hB : ∀ q μ, Inv q μ → Bs L xs q μ) (hop : OpJ Inv 100 186 1) {q : Nat} {μ : aMem} (hq : q < 64) (hI : Inv q μ) (hi : 6 * q + 5 < L) (hL : L ≤ 384) : ∃ μ2, Rn 101 246 (753, [.ref 1000014, .ref 0, .ref 99, .int (nI (6 * q))], [], μ) = Rn 101 246 (1420, [.ref 1000014, .ref 0, .ref 99, .int (nI (6 * q))], [], μ2) ∧ Inv (q + 1) μ2 := by
  obtain ⟨b1, b2, b3, -, -⟩ := hB q μ hI
  obtain ⟨r, μ1, μ2, h1, h2, h3, h4, h5, h6⟩ := hop q μ [xs (6 * q + 1)] rfl hq hI
  replace h1 : cJ 100 100 [.ref 0, .int (xs (6 * q + 1))] μ = some (r, μ1) := h1
  replace h5 : cJ 100 186 [.ref 99, .int (xs (6 * q + 1))] μ1 = some (r, μ2) := h5
  obtain ⟨r1, r2, r3, r4, r5⟩ := rdX1 (i := 6 * q) b1 b2 hi hL
  obtain ⟨s1, s2, s3, s4, s5⟩ := rdX1 (μ := μ1) (i := 6 * q) (h3.trans b1) (h4.trans b2) hi hL
  refine ⟨μ2, ?_, h6⟩
  rw [q_246_753 100]
  simp only [r1, r2, r3, r4, r5, Option.bind_some, b3, h1, s1, s2, s3, s4, s5, h2, h5, lg_refl]
  rfl
theorem lc_777 (hB : ∀ q μ, Inv q μ → Bs L xs q μ) (hop : OpI Inv 101 188 2) {q : Nat} {μ : aMem} (hq : q < 64) (hI : Inv q μ) (hi : 6 * q + 5 < L) (hL : L ≤ 384) : ∃ μ2, Rn 101 246 (777, [.ref 1000014, .ref 0, .ref 99, .int (nI (6 * q))], [], μ) = Rn 101 246 (1420, [.ref 1000014, .ref 0, .ref 99, .int (nI (6 * q))], [], μ2) ∧ Inv (q + 1) μ2 := by
  obtain ⟨b1, b2, b3, -, -⟩ := hB q μ hI
  obtain ⟨r, μ1, μ2, h1, h2, h3, h4, h5, h6⟩ := hop q μ [xs (6 * q + 1), xs (6 * q + 2)] rfl hq hI
  replace h1 : cI 100 101 [.ref 0, .int (xs (6 * q + 1)), .int (xs (6 * q + 2))] μ = some (r, μ1) := h1
  replace h5 : cI 100 188 [.ref 99, .int (xs (6 * q + 1)), .int (xs (6 * q + 2))] μ1 = some (r, μ2) := h5
  obtain ⟨r1, r2, r3, r4, r5⟩ := rdX1 (i := 6 * q) b1 b2 hi hL
  obtain ⟨s1, s2, s3, s4, s5⟩ := rdX1 (μ := μ1) (i := 6 * q) (h3.trans b1) (h4.trans b2) hi hL
  refine ⟨μ2, ?_, h6⟩
  rw [q_246_777 100]
  simp only [r1, r2, r3, r4, r5, Option.bind_some, b3, h1, s1, s2, s3, s4, s5, h2, h5]
  rfl
theorem lc_810 (hB : ∀ q μ, Inv q μ → Bs L xs q μ) (hop : OpI Inv 102 189 1) {q : Nat} {μ : aMem} (hq : q < 64) (hI : Inv q μ) (hi : 6 * q + 5 < L) (hL : L ≤ 384) : ∃ μ2, Rn 101 246 (810, [.ref 1000014, .ref 0, .ref 99, .int (nI (6 * q))], [], μ) = Rn 101 246 (1420, [.ref 1000014, .ref 0, .ref 99, .int (nI (6 * q))], [], μ2) ∧ Inv (q + 1) μ2 := by
  obtain ⟨b1, b2, b3, -, -⟩ := hB q μ hI
  obtain ⟨r, μ1, μ2, h1, h2, h3, h4, h5, h6⟩ := hop q μ [xs (6 * q + 1)] rfl hq hI
  replace h1 : cI 100 102 [.ref 0, .int (xs (6 * q + 1))] μ = some (r, μ1) := h1
  replace h5 : cI 100 189 [.ref 99, .int (xs (6 * q + 1))] μ1 = some (r, μ2) := h5
  obtain ⟨r1, r2, r3, r4, r5⟩ := rdX1 (i := 6 * q) b1 b2 hi hL
  obtain ⟨s1, s2, s3, s4, s5⟩ := rdX1 (μ := μ1) (i := 6 * q) (h3.trans b1) (h4.trans b2) hi hL
  refine ⟨μ2, ?_, h6⟩
  rw [q_246_810 100]
  simp only [r1, r2, r3, r4, r5, Option.bind_some, b3, h1, s1, s2, s3, s4, s5, h2, h5]
  rfl
theorem lc_833 (hB : ∀ q μ, Inv q μ → Bs L xs q μ) (hop : OpI Inv 103 190 3) {q : Nat} {μ : aMem} (hq : q < 64) (hI : Inv q μ) (hi : 6 * q + 5 < L) (hL : L ≤ 384) : ∃ μ2, Rn 101 246 (833, [.ref 1000014, .ref 0, .ref 99, .int (nI (6 * q))], [], μ) = Rn 101 246 (1420, [.ref 1000014, .ref 0, .ref 99, .int (nI (6 * q))], [], μ2) ∧ Inv (q + 1) μ2 := by
  obtain ⟨b1, b2, b3, -, -⟩ := hB q μ hI
  obtain ⟨r, μ1, μ2, h1, h2, h3, h4, h5, h6⟩ := hop q μ [xs (6 * q + 1), xs (6 * q + 2), xs (6 * q + 3)] rfl hq hI
  replace h1 : cI 100 103 [.ref 0, .int (xs (6 * q + 1)), .int (xs (6 * q + 2)), .int (xs (6 * q + 3))] μ = some (r, μ1) := h1
  replace h5 : cI 100 190 [.ref 99, .int (xs (6 * q + 1)), .int (xs (6 * q + 2)), .int (xs (6 * q + 3))] μ1 = some (r, μ2) := h5
  obtain ⟨r1, r2, r3, r4, r5⟩ := rdX1 (i := 6 * q) b1 b2 hi hL
  obtain ⟨s1, s2, s3, s4, s5⟩ := rdX1 (μ := μ1) (i := 6 * q) (h3.trans b1) (h4.trans b2) hi hL
  refine ⟨μ2, ?_, h6⟩
  rw [q_246_833 100]
  simp only [r1, r2, r3, r4, r5, Option.bind_some, b3, h1, s1, s2, s3, s4, s5, h2, h5]
  rfl
theorem lc_876 (hB : ∀ q μ, Inv q μ → Bs L xs q μ) (hop : OpI Inv 104 191 1) {q : Nat} {μ : aMem} (hq : q < 64) (hI : Inv q μ) (hi : 6 * q + 5 < L) (hL : L ≤ 384) : ∃ μ2, Rn 101 246 (876, [.ref 1000014, .ref 0, .ref 99, .int (nI (6 * q))], [], μ) = Rn 101 246 (1420, [.ref 1000014, .ref 0, .ref 99, .int (nI (6 * q))], [], μ2) ∧ Inv (q + 1) μ2 := by
  obtain ⟨b1, b2, b3, -, -⟩ := hB q μ hI
  obtain ⟨r, μ1, μ2, h1, h2, h3, h4, h5, h6⟩ := hop q μ [xs (6 * q + 1)] rfl hq hI
  replace h1 : cI 100 104 [.ref 0, .int (xs (6 * q + 1))] μ = some (r, μ1) := h1
  replace h5 : cI 100 191 [.ref 99, .int (xs (6 * q + 1))] μ1 = some (r, μ2) := h5
  obtain ⟨r1, r2, r3, r4, r5⟩ := rdX1 (i := 6 * q) b1 b2 hi hL
  obtain ⟨s1, s2, s3, s4, s5⟩ := rdX1 (μ := μ1) (i := 6 * q) (h3.trans b1) (h4.trans b2) hi hL
  refine ⟨μ2, ?_, h6⟩
  rw [q_246_876 100]
  simp only [r1, r2, r3, r4, r5, Option.bind_some, b3, h1, s1, s2, s3, s4, s5, h2, h5]
  rfl
theorem lc_899 (hB : ∀ q μ, Inv q μ → Bs L xs q μ) (hop : OpI Inv 105 207 0) {q : Nat} {μ : aMem} (hq : q < 64) (hI : Inv q μ) (hi : 6 * q + 5 < L) (hL : L ≤ 384) : ∃ μ2, Rn 101 246 (899, [.ref 1000014, .ref 0, .ref 99, .int (nI (6 * q))], [], μ) = Rn 101 246 (1420, [.ref 1000014, .ref 0, .ref 99, .int (nI (6 * q))], [], μ2) ∧ Inv (q + 1) μ2 := by
  obtain ⟨b1, b2, b3, -, -⟩ := hB q μ hI
  obtain ⟨r, μ1, μ2, h1, h2, h3, h4, h5, h6⟩ := hop q μ [] rfl hq hI
  replace h1 : cI 100 105 [.ref 0] μ = some (r, μ1) := h1
  replace h5 : cI 100 207 [.ref 99] μ1 = some (r, μ2) := h5
  obtain ⟨r1, r2, r3, r4, r5⟩ := rdX1 (i := 6 * q) b1 b2 hi hL
  obtain ⟨s1, s2, s3, s4, s5⟩ := rdX1 (μ := μ1) (i := 6 * q) (h3.trans b1) (h4.trans b2) hi hL
  refine ⟨μ2, ?_, h6⟩
  rw [q_246_899 100]
  simp only [r1, r2, r3, r4, r5, Option.bind_some, b3, h1, s1, s2, s3, s4, s5, h2, h5]
  rfl
theorem lc_912 (hB : ∀ q μ, Inv q μ → Bs L xs q μ) (hop : OpI Inv 106 208 2) {q : Nat} {μ : aMem} (hq : q < 64) (hI : Inv q μ) (hi : 6 * q + 5 < L) (hL : L ≤ 384) : ∃ μ2, Rn 101 246 (912, [.ref 1000014, .ref 0, .ref 99, .int (nI (6 * q))], [], μ) = Rn 101 246 (1420, [.ref 1000014, .ref 0, .ref 99, .int (nI (6 * q))], [], μ2) ∧ Inv (q + 1) μ2 := by
  obtain ⟨b1, b2, b3, -, -⟩ := hB q μ hI
  obtain ⟨r, μ1, μ2, h1, h2, h3, h4, h5, h6⟩ := hop q μ [xs (6 * q + 1), xs (6 * q + 2)] rfl hq hI
  replace h1 : cI 100 106 [.ref 0, .int (xs (6 * q + 1)), .int (xs (6 * q + 2))] μ = some (r, μ1) := h1
  replace h5 : cI 100 208 [.ref 99, .int (xs (6 * q + 1)), .int (xs (6 * q + 2))] μ1 = some (r, μ2) := h5
  obtain ⟨r1, r2, r3, r4, r5⟩ := rdX1 (i := 6 * q) b1 b2 hi hL
  obtain ⟨s1, s2, s3, s4, s5⟩ := rdX1 (μ := μ1) (i := 6 * q) (h3.trans b1) (h4.trans b2) hi hL
  refine ⟨μ2, ?_, h6⟩
  rw [q_246_912 100]
  simp only [r1, r2, r3, r4, r5, Option.bind_some, b3, h1, s1, s2, s3, s4, s5, h2, h5]
  rfl
theorem lc_945 (hB : ∀ q μ, Inv q μ → Bs L xs q μ) (hop : OpI Inv 107 210 1) {q : Nat} {μ : aMem} (hq : q < 64) (hI : Inv q μ) (hi : 6 * q + 5 < L) (hL : L ≤ 384) : ∃ μ2, Rn 101 246 (945, [.ref 1000014, .ref 0, .ref 99, .int (nI (6 * q))], [], μ) = Rn 101 246 (1420, [.ref 1000014, .ref 0, .ref 99, .int (nI (6 * q))], [], μ2) ∧ Inv (q + 1) μ2 := by
  obtain ⟨b1, b2, b3, -, -⟩ := hB q μ hI
  obtain ⟨r, μ1, μ2, h1, h2, h3, h4, h5, h6⟩ := hop q μ [xs (6 * q + 1)] rfl hq hI
  replace h1 : cI 100 107 [.ref 0, .int (xs (6 * q + 1))] μ = some (r, μ1) := h1
  replace h5 : cI 100 210 [.ref 99, .int (xs (6 * q + 1))] μ1 = some (r, μ2) := h5
  obtain ⟨r1, r2, r3, r4, r5⟩ := rdX1 (i := 6 * q) b1 b2 hi hL
  obtain ⟨s1, s2, s3, s4, s5⟩ := rdX1 (μ := μ1) (i := 6 * q) (h3.trans b1) (h4.trans b2) hi hL
  refine ⟨μ2, ?_, h6⟩
  rw [q_246_945 100]
  simp only [r1, r2, r3, r4, r5, Option.bind_some, b3, h1, s1, s2, s3, s4, s5, h2, h5]
  rfl
theorem lc_968 (hB : ∀ q μ, Inv q μ → Bs L xs q μ) (hop : OpI Inv 108 214 3) {q : Nat} {μ : aMem} (hq : q < 64) (hI : Inv q μ) (hi : 6 * q + 5 < L) (hL : L ≤ 384) : ∃ μ2, Rn 101 246 (968, [.ref 1000014, .ref 0, .ref 99, .int (nI (6 * q))], [], μ) = Rn 101 246 (1420, [.ref 1000014, .ref 0, .ref 99, .int (nI (6 * q))], [], μ2) ∧ Inv (q + 1) μ2 := by
  obtain ⟨b1, b2, b3, -, -⟩ := hB q μ hI
  obtain ⟨r, μ1, μ2, h1, h2, h3, h4, h5, h6⟩ := hop q μ [xs (6 * q + 1), xs (6 * q + 2), xs (6 * q + 3)] rfl hq hI
  replace h1 : cI 100 108 [.ref 0, .int (xs (6 * q + 1)), .int (xs (6 * q + 2)), .int (xs (6 * q + 3))] μ = some (r, μ1) := h1
  replace h5 : cI 100 214 [.ref 99, .int (xs (6 * q + 1)), .int (xs (6 * q + 2)), .int (xs (6 * q + 3))] μ1 = some (r, μ2) := h5
  obtain ⟨r1, r2, r3, r4, r5⟩ := rdX1 (i := 6 * q) b1 b2 hi hL
  obtain ⟨s1, s2, s3, s4, s5⟩ := rdX1 (μ := μ1) (i := 6 * q) (h3.trans b1) (h4.trans b2) hi hL
  refine ⟨μ2, ?_, h6⟩
  rw [q_246_968 100]
  simp only [r1, r2, r3, r4, r5, Option.bind_some, b3, h1, s1, s2, s3, s4, s5, h2, h5]
  rfl
theorem lc_1011 (hB : ∀ q μ, Inv q μ → Bs L xs q μ) (hop : OpI Inv 109 215 3) {q : Nat} {μ : aMem} (hq : q < 64) (hI : Inv q μ) (hi : 6 * q + 5 < L) (hL : L ≤ 384) : ∃ μ2, Rn 101 246 (1011, [.ref 1000014, .ref 0, .ref 99, .int (nI (6 * q))], [], μ) = Rn 101 246 (1420, [.ref 1000014, .ref 0, .ref 99, .int (nI (6 * q))], [], μ2) ∧ Inv (q + 1) μ2 := by
  obtain ⟨b1, b2, b3, -, -⟩ := hB q μ hI
  obtain ⟨r, μ1, μ2, h1, h2, h3, h4, h5, h6⟩ := hop q μ [xs (6 * q + 1), xs (6 * q + 2), xs (6 * q + 3)] rfl hq hI
  replace h1 : cI 100 109 [.ref 0, .int (xs (6 * q + 1)), .int (xs (6 * q + 2)), .int (xs (6 * q + 3))] μ = some (r, μ1) := h1
  replace h5 : cI 100 215 [.ref 99, .int (xs (6 * q + 1)), .int (xs (6 * q + 2)), .int (xs (6 * q + 3))] μ1 = some (r, μ2) := h5
  obtain ⟨r1, r2, r3, r4, r5⟩ := rdX1 (i := 6 * q) b1 b2 hi hL
  obtain ⟨s1, s2, s3, s4, s5⟩ := rdX1 (μ := μ1) (i := 6 * q) (h3.trans b1) (h4.trans b2) hi hL
  refine ⟨μ2, ?_, h6⟩
  rw [q_246_1011 100]
  simp only [r1, r2, r3, r4, r5, Option.bind_some, b3, h1, s1, s2, s3, s4, s5, h2, h5]
  rfl
theorem lc_1054 (hB : ∀ q μ, Inv q μ → Bs L xs q μ) (hop : OpI Inv 110 216 1) {q : Nat} {μ : aMem} (hq : q < 64) (hI : Inv q μ) (hi : 6 * q + 5 < L) (hL : L ≤ 384) : ∃ μ2, Rn 101 246 (1054, [.ref 1000014, .ref 0, .ref 99, .int (nI (6 * q))], [], μ) = Rn 101 246 (1420, [.ref 1000014, .ref 0, .ref 99, .int (nI (6 * q))], [], μ2) ∧ Inv (q + 1) μ2 := by
  obtain ⟨b1, b2, b3, -, -⟩ := hB q μ hI
  obtain ⟨r, μ1, μ2, h1, h2, h3, h4, h5, h6⟩ := hop q μ [xs (6 * q + 1)] rfl hq hI
  replace h1 : cI 100 110 [.ref 0, .int (xs (6 * q + 1))] μ = some (r, μ1) := h1
  replace h5 : cI 100 216 [.ref 99, .int (xs (6 * q + 1))] μ1 = some (r, μ2) := h5
  obtain ⟨r1, r2, r3, r4, r5⟩ := rdX1 (i := 6 * q) b1 b2 hi hL
  obtain ⟨s1, s2, s3, s4, s5⟩ := rdX1 (μ := μ1) (i := 6 * q) (h3.trans b1) (h4.trans b2) hi hL
  refine ⟨μ2, ?_, h6⟩
  rw [q_246_1054 100]
  simp only [r1, r2, r3, r4, r5, Option.bind_some, b3, h1, s1, s2, s3, s4, s5, h2, h5]
  rfl
theorem lc_1077 (hB : ∀ q μ, Inv q μ → Bs L xs q μ) (hop : OpI Inv 111 217 2) {q : Nat} {μ : aMem} (hq : q < 64) (hI : Inv q μ) (hi : 6 * q + 5 < L) (hL : L ≤ 384) : ∃ μ2, Rn 101 246 (1077, [.ref 1000014, .ref 0, .ref 99, .int (nI (6 * q))], [], μ) = Rn 101 246 (1420, [.ref 1000014, .ref 0, .ref 99, .int (nI (6 * q))], [], μ2) ∧ Inv (q + 1) μ2 := by
  obtain ⟨b1, b2, b3, -, -⟩ := hB q μ hI
  obtain ⟨r, μ1, μ2, h1, h2, h3, h4, h5, h6⟩ := hop q μ [xs (6 * q + 1), xs (6 * q + 2)] rfl hq hI
  replace h1 : cI 100 111 [.ref 0, .int (xs (6 * q + 1)), .int (xs (6 * q + 2))] μ = some (r, μ1) := h1
  replace h5 : cI 100 217 [.ref 99, .int (xs (6 * q + 1)), .int (xs (6 * q + 2))] μ1 = some (r, μ2) := h5
  obtain ⟨r1, r2, r3, r4, r5⟩ := rdX1 (i := 6 * q) b1 b2 hi hL
  obtain ⟨s1, s2, s3, s4, s5⟩ := rdX1 (μ := μ1) (i := 6 * q) (h3.trans b1) (h4.trans b2) hi hL
  refine ⟨μ2, ?_, h6⟩
  rw [q_246_1077 100]
  simp only [r1, r2, r3, r4, r5, Option.bind_some, b3, h1, s1, s2, s3, s4, s5, h2, h5]
  rfl
theorem lc_1110 (hB : ∀ q μ, Inv q μ → Bs L xs q μ) (hop : OpI Inv 112 218 5) {q : Nat} {μ : aMem} (hq : q < 64) (hI : Inv q μ) (hi : 6 * q + 5 < L) (hL : L ≤ 384) : ∃ μ2, Rn 101 246 (1110, [.ref 1000014, .ref 0, .ref 99, .int (nI (6 * q))], [], μ) = Rn 101 246 (1420, [.ref 1000014, .ref 0, .ref 99, .int (nI (6 * q))], [], μ2) ∧ Inv (q + 1) μ2 := by
  obtain ⟨b1, b2, b3, -, -⟩ := hB q μ hI
  obtain ⟨r, μ1, μ2, h1, h2, h3, h4, h5, h6⟩ := hop q μ [xs (6 * q + 1), xs (6 * q + 2), xs (6 * q + 3), xs (6 * q + 4), xs (6 * q + 5)] rfl hq hI
  replace h1 : cI 100 112 [.ref 0, .int (xs (6 * q + 1)), .int (xs (6 * q + 2)), .int (xs (6 * q + 3)), .int (xs (6 * q + 4)), .int (xs (6 * q + 5))] μ = some (r, μ1) := h1
  replace h5 : cI 100 218 [.ref 99, .int (xs (6 * q + 1)), .int (xs (6 * q + 2)), .int (xs (6 * q + 3)), .int (xs (6 * q + 4)), .int (xs (6 * q + 5))] μ1 = some (r, μ2) := h5
  obtain ⟨r1, r2, r3, r4, r5⟩ := rdX1 (i := 6 * q) b1 b2 hi hL
  obtain ⟨s1, s2, s3, s4, s5⟩ := rdX1 (μ := μ1) (i := 6 * q) (h3.trans b1) (h4.trans b2) hi hL
  refine ⟨μ2, ?_, h6⟩
  rw [q_246_1110 100]
  simp only [r1, r2, r3, r4, r5, Option.bind_some, b3, h1, s1, s2, s3, s4, s5, h2, h5]
  rfl
theorem lc_1173 (hB : ∀ q μ, Inv q μ → Bs L xs q μ) (hop : OpI Inv 113 220 3) {q : Nat} {μ : aMem} (hq : q < 64) (hI : Inv q μ) (hi : 6 * q + 5 < L) (hL : L ≤ 384) : ∃ μ2, Rn 101 246 (1173, [.ref 1000014, .ref 0, .ref 99, .int (nI (6 * q))], [], μ) = Rn 101 246 (1420, [.ref 1000014, .ref 0, .ref 99, .int (nI (6 * q))], [], μ2) ∧ Inv (q + 1) μ2 := by
  obtain ⟨b1, b2, b3, -, -⟩ := hB q μ hI
  obtain ⟨r, μ1, μ2, h1, h2, h3, h4, h5, h6⟩ := hop q μ [xs (6 * q + 1), xs (6 * q + 2), xs (6 * q + 3)] rfl hq hI
  replace h1 : cI 100 113 [.ref 0, .int (xs (6 * q + 1)), .int (xs (6 * q + 2)), .int (xs (6 * q + 3))] μ = some (r, μ1) := h1
  replace h5 : cI 100 220 [.ref 99, .int (xs (6 * q + 1)), .int (xs (6 * q + 2)), .int (xs (6 * q + 3))] μ1 = some (r, μ2) := h5
  obtain ⟨r1, r2, r3, r4, r5⟩ := rdX1 (i := 6 * q) b1 b2 hi hL
  obtain ⟨s1, s2, s3, s4, s5⟩ := rdX1 (μ := μ1) (i := 6 * q) (h3.trans b1) (h4.trans b2) hi hL
  refine ⟨μ2, ?_, h6⟩
  rw [q_246_1173 100]
  simp only [r1, r2, r3, r4, r5, Option.bind_some, b3, h1, s1, s2, s3, s4, s5, h2, h5]
  rfl
theorem lc_1216 (hB : ∀ q μ, Inv q μ → Bs L xs q μ) (hop : OpI Inv 114 221 2) {q : Nat} {μ : aMem} (hq : q < 64) (hI : Inv q μ) (hi : 6 * q + 5 < L) (hL : L ≤ 384) : ∃ μ2, Rn 101 246 (1216, [.ref 1000014, .ref 0, .ref 99, .int (nI (6 * q))], [], μ) = Rn 101 246 (1420, [.ref 1000014, .ref 0, .ref 99, .int (nI (6 * q))], [], μ2) ∧ Inv (q + 1) μ2 := by
  obtain ⟨b1, b2, b3, -, -⟩ := hB q μ hI
  obtain ⟨r, μ1, μ2, h1, h2, h3, h4, h5, h6⟩ := hop q μ [xs (6 * q + 1), xs (6 * q + 2)] rfl hq hI
  replace h1 : cI 100 114 [.ref 0, .int (xs (6 * q + 1)), .int (xs (6 * q + 2))] μ = some (r, μ1) := h1
  replace h5 : cI 100 221 [.ref 99, .int (xs (6 * q + 1)), .int (xs (6 * q + 2))] μ1 = some (r, μ2) := h5
  obtain ⟨r1, r2, r3, r4, r5⟩ := rdX1 (i := 6 * q) b1 b2 hi hL
  obtain ⟨s1, s2, s3, s4, s5⟩ := rdX1 (μ := μ1) (i := 6 * q) (h3.trans b1) (h4.trans b2) hi hL
  refine ⟨μ2, ?_, h6⟩
  rw [q_246_1216 100]
  simp only [r1, r2, r3, r4, r5, Option.bind_some, b3, h1, s1, s2, s3, s4, s5, h2, h5]
  rfl
theorem lc_1249 (hB : ∀ q μ, Inv q μ → Bs L xs q μ) (hop : OpI Inv 115 222 2) {q : Nat} {μ : aMem} (hq : q < 64) (hI : Inv q μ) (hi : 6 * q + 5 < L) (hL : L ≤ 384) : ∃ μ2, Rn 101 246 (1249, [.ref 1000014, .ref 0, .ref 99, .int (nI (6 * q))], [], μ) = Rn 101 246 (1420, [.ref 1000014, .ref 0, .ref 99, .int (nI (6 * q))], [], μ2) ∧ Inv (q + 1) μ2 := by
  obtain ⟨b1, b2, b3, -, -⟩ := hB q μ hI
  obtain ⟨r, μ1, μ2, h1, h2, h3, h4, h5, h6⟩ := hop q μ [xs (6 * q + 1), xs (6 * q + 2)] rfl hq hI
  replace h1 : cI 100 115 [.ref 0, .int (xs (6 * q + 1)), .int (xs (6 * q + 2))] μ = some (r, μ1) := h1
  replace h5 : cI 100 222 [.ref 99, .int (xs (6 * q + 1)), .int (xs (6 * q + 2))] μ1 = some (r, μ2) := h5
  obtain ⟨r1, r2, r3, r4, r5⟩ := rdX1 (i := 6 * q) b1 b2 hi hL
  obtain ⟨s1, s2, s3, s4, s5⟩ := rdX1 (μ := μ1) (i := 6 * q) (h3.trans b1) (h4.trans b2) hi hL
  refine ⟨μ2, ?_, h6⟩
  rw [q_246_1249 100]
  simp only [r1, r2, r3, r4, r5, Option.bind_some, b3, h1, s1, s2, s3, s4, s5, h2, h5]
  rfl
theorem lc_1282 (hB : ∀ q μ, Inv q μ → Bs L xs q μ) (hop : OpI Inv 116 223 2) {q : Nat} {μ : aMem} (hq : q < 64) (hI : Inv q μ) (hi : 6 * q + 5 < L) (hL : L ≤ 384) : ∃ μ2, Rn 101 246 (1282, [.ref 1000014, .ref 0, .ref 99, .int (nI (6 * q))], [], μ) = Rn 101 246 (1420, [.ref 1000014, .ref 0, .ref 99, .int (nI (6 * q))], [], μ2) ∧ Inv (q + 1) μ2 := by
  obtain ⟨b1, b2, b3, -, -⟩ := hB q μ hI
  obtain ⟨r, μ1, μ2, h1, h2, h3, h4, h5, h6⟩ := hop q μ [xs (6 * q + 1), xs (6 * q + 2)] rfl hq hI
  replace h1 : cI 100 116 [.ref 0, .int (xs (6 * q + 1)), .int (xs (6 * q + 2))] μ = some (r, μ1) := h1
  replace h5 : cI 100 223 [.ref 99, .int (xs (6 * q + 1)), .int (xs (6 * q + 2))] μ1 = some (r, μ2) := h5
  obtain ⟨r1, r2, r3, r4, r5⟩ := rdX1 (i := 6 * q) b1 b2 hi hL
  obtain ⟨s1, s2, s3, s4, s5⟩ := rdX1 (μ := μ1) (i := 6 * q) (h3.trans b1) (h4.trans b2) hi hL
  refine ⟨μ2, ?_, h6⟩
  rw [q_246_1282 100]
  simp only [r1, r2, r3, r4, r5, Option.bind_some, b3, h1, s1, s2, s3, s4, s5, h2, h5]
  rfl
theorem lc_1315 (hB : ∀ q μ, Inv q μ → Bs L xs q μ) (hop : OpI Inv 117 224 1) {q : Nat} {μ : aMem} (hq : q < 64) (hI : Inv q μ) (hi : 6 * q + 5 < L) (hL : L ≤ 384) : ∃ μ2, Rn 101 246 (1315, [.ref 1000014, .ref 0, .ref 99, .int (nI (6 * q))], [], μ) = Rn 101 246 (1420, [.ref 1000014, .ref 0, .ref 99, .int (nI (6 * q))], [], μ2) ∧ Inv (q + 1) μ2 := by
  obtain ⟨b1, b2, b3, -, -⟩ := hB q μ hI
  obtain ⟨r, μ1, μ2, h1, h2, h3, h4, h5, h6⟩ := hop q μ [xs (6 * q + 1)] rfl hq hI
  replace h1 : cI 100 117 [.ref 0, .int (xs (6 * q + 1))] μ = some (r, μ1) := h1
  replace h5 : cI 100 224 [.ref 99, .int (xs (6 * q + 1))] μ1 = some (r, μ2) := h5
  obtain ⟨r1, r2, r3, r4, r5⟩ := rdX1 (i := 6 * q) b1 b2 hi hL
  obtain ⟨s1, s2, s3, s4, s5⟩ := rdX1 (μ := μ1) (i := 6 * q) (h3.trans b1) (h4.trans b2) hi hL
  refine ⟨μ2, ?_, h6⟩
  rw [q_246_1315 100]
  simp only [r1, r2, r3, r4, r5, Option.bind_some, b3, h1, s1, s2, s3, s4, s5, h2, h5]
  rfl
theorem lc_1338 (hB : ∀ q μ, Inv q μ → Bs L xs q μ) (hop : OpI Inv 118 226 2) {q : Nat} {μ : aMem} (hq : q < 64) (hI : Inv q μ) (hi : 6 * q + 5 < L) (hL : L ≤ 384) : ∃ μ2, Rn 101 246 (1338, [.ref 1000014, .ref 0, .ref 99, .int (nI (6 * q))], [], μ) = Rn 101 246 (1420, [.ref 1000014, .ref 0, .ref 99, .int (nI (6 * q))], [], μ2) ∧ Inv (q + 1) μ2 := by
  obtain ⟨b1, b2, b3, -, -⟩ := hB q μ hI
  obtain ⟨r, μ1, μ2, h1, h2, h3, h4, h5, h6⟩ := hop q μ [xs (6 * q + 1), xs (6 * q + 2)] rfl hq hI
  replace h1 : cI 100 118 [.ref 0, .int (xs (6 * q + 1)), .int (xs (6 * q + 2))] μ = some (r, μ1) := h1
  replace h5 : cI 100 226 [.ref 99, .int (xs (6 * q + 1)), .int (xs (6 * q + 2))] μ1 = some (r, μ2) := h5
  obtain ⟨r1, r2, r3, r4, r5⟩ := rdX1 (i := 6 * q) b1 b2 hi hL
  obtain ⟨s1, s2, s3, s4, s5⟩ := rdX1 (μ := μ1) (i := 6 * q) (h3.trans b1) (h4.trans b2) hi hL
  refine ⟨μ2, ?_, h6⟩
  rw [q_246_1338 100]
  simp only [r1, r2, r3, r4, r5, Option.bind_some, b3, h1, s1, s2, s3, s4, s5, h2, h5]
  rfl
theorem lc_1371 (hB : ∀ q μ, Inv q μ → Bs L xs q μ) (hop : OpI Inv 119 227 0) {q : Nat} {μ : aMem} (hq : q < 64) (hI : Inv q μ) (hi : 6 * q + 5 < L) (hL : L ≤ 384) : ∃ μ2, Rn 101 246 (1371, [.ref 1000014, .ref 0, .ref 99, .int (nI (6 * q))], [], μ) = Rn 101 246 (1420, [.ref 1000014, .ref 0, .ref 99, .int (nI (6 * q))], [], μ2) ∧ Inv (q + 1) μ2 := by
  obtain ⟨b1, b2, b3, -, -⟩ := hB q μ hI
  obtain ⟨r, μ1, μ2, h1, h2, h3, h4, h5, h6⟩ := hop q μ [] rfl hq hI
  replace h1 : cI 100 119 [.ref 0] μ = some (r, μ1) := h1
  replace h5 : cI 100 227 [.ref 99] μ1 = some (r, μ2) := h5
  obtain ⟨r1, r2, r3, r4, r5⟩ := rdX1 (i := 6 * q) b1 b2 hi hL
  obtain ⟨s1, s2, s3, s4, s5⟩ := rdX1 (μ := μ1) (i := 6 * q) (h3.trans b1) (h4.trans b2) hi hL
  refine ⟨μ2, ?_, h6⟩
  rw [q_246_1371 100]
  simp only [r1, r2, r3, r4, r5, Option.bind_some, b3, h1, s1, s2, s3, s4, s5, h2, h5]
  rfl
theorem lc_1384 (hB : ∀ q μ, Inv q μ → Bs L xs q μ) (hop : OpI Inv 120 228 0) {q : Nat} {μ : aMem} (hq : q < 64) (hI : Inv q μ) (hi : 6 * q + 5 < L) (hL : L ≤ 384) : ∃ μ2, Rn 101 246 (1384, [.ref 1000014, .ref 0, .ref 99, .int (nI (6 * q))], [], μ) = Rn 101 246 (1420, [.ref 1000014, .ref 0, .ref 99, .int (nI (6 * q))], [], μ2) ∧ Inv (q + 1) μ2 := by
  obtain ⟨b1, b2, b3, -, -⟩ := hB q μ hI
  obtain ⟨r, μ1, μ2, h1, h2, h3, h4, h5, h6⟩ := hop q μ [] rfl hq hI
  replace h1 : cI 100 120 [.ref 0] μ = some (r, μ1) := h1
  replace h5 : cI 100 228 [.ref 99] μ1 = some (r, μ2) := h5
  obtain ⟨r1, r2, r3, r4, r5⟩ := rdX1 (i := 6 * q) b1 b2 hi hL
  obtain ⟨s1, s2, s3, s4, s5⟩ := rdX1 (μ := μ1) (i := 6 * q) (h3.trans b1) (h4.trans b2) hi hL
  refine ⟨μ2, ?_, h6⟩
  rw [q_246_1384 100]
  simp only [r1, r2, r3, r4, r5, Option.bind_some, b3, h1, s1, s2, s3, s4, s5, h2, h5]
  rfl
theorem lc_1397 (hB : ∀ q μ, Inv q μ → Bs L xs q μ) (hop : OpI Inv 121 229 1) {q : Nat} {μ : aMem} (hq : q < 64) (hI : Inv q μ) (hi : 6 * q + 5 < L) (hL : L ≤ 384) : ∃ μ2, Rn 101 246 (1397, [.ref 1000014, .ref 0, .ref 99, .int (nI (6 * q))], [], μ) = Rn 101 246 (1420, [.ref 1000014, .ref 0, .ref 99, .int (nI (6 * q))], [], μ2) ∧ Inv (q + 1) μ2 := by
  obtain ⟨b1, b2, b3, -, -⟩ := hB q μ hI
  obtain ⟨r, μ1, μ2, h1, h2, h3, h4, h5, h6⟩ := hop q μ [xs (6 * q + 1)] rfl hq hI
  replace h1 : cI 100 121 [.ref 0, .int (xs (6 * q + 1))] μ = some (r, μ1) := h1
  replace h5 : cI 100 229 [.ref 99, .int (xs (6 * q + 1))] μ1 = some (r, μ2) := h5
  obtain ⟨r1, r2, r3, r4, r5⟩ := rdX1 (i := 6 * q) b1 b2 hi hL
  obtain ⟨s1, s2, s3, s4, s5⟩ := rdX1 (μ := μ1) (i := 6 * q) (h3.trans b1) (h4.trans b2) hi hL
  refine ⟨μ2, ?_, h6⟩
  rw [q_246_1397 100]
  simp only [r1, r2, r3, r4, r5, Option.bind_some, b3, h1, s1, s2, s3, s4, s5, h2, h5]
  rfl
end LAW
