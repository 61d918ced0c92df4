/-! THE INVARIANT HOLDS BEHIND THE MAKINGS. -/
section INIT
variable (L : Nat) (xs : Nat → Int32)
theorem in_sh : ∀ i, i < 4 → lk3 (0 : Int32) zf_280 (70 + 2 * i) 1 = -1 ∧ lk3 (0 : Int32) zf_280 (70 + 2 * i) 2 = 0 ∧ lk3 (0 : Int32) zf_280 103 i = -1 ∧ lk3 (0 : Int32) zf_280 104 i = 0 ∧ ∀ j, j < 24 → lk3 (0 : Int32) zf_280 (71 + 2 * i) j = 0 ∧ lk3 (0 : Int32) zf_280 105 (24 * i + j) = 0 := by decide +kernel
theorem in_sl : ∀ i, i < 5 → lk3 (0 : Int32) zf_280 (79 + 4 * i) 0 = 0 ∧ lk3 (0 : Int32) zf_280 106 i = 0 := by decide +kernel
theorem in_ta : ∀ i, i < 14 → lk3 999999 zr_275 7 i = 999999 ∧ lk3 999999 zr_275 25 i = 999999 ∧ lk3 999999 zr_275 43 i = 999999 := by decide +kernel
theorem in_ct : ∀ k, k < 3 → lk3 (0 : Int32) zf_280 8 k = -1 := by decide +kernel
theorem Inv_0 : Inv L xs 0 (k_280 L xs) := by
  have G := made_4 L xs
  have e : ∀ a k, a < 124 → (k_280 L xs).1 a k = lk3 0 zf_280 a k := fun a k h => G.F a k (by omega)
  have e1 : ∀ {a k v}, a < 124 → lk3 0 zf_280 a k = v → (k_280 L xs).1 a k = v := fun h1 h2 => (e _ _ h1).trans h2
  refine ⟨⟨made_lay L xs, G.Y, Nat.le_of_eq G.N, Nat.le_of_eq G.Q⟩, ?_, ?_, ?_, ?_, ?_, ?_, ?_⟩
  · refine ⟨0, 0, 0, ⟨by decide, e1 (by decide) (by decide +kernel), e1 (by decide) (by decide +kernel), fun k hk => absurd hk (by omega), fun k hk => absurd hk (by omega)⟩, ⟨by decide, e1 (by decide) (by decide +kernel), e1 (by decide) (by decide +kernel), fun k hk => absurd hk (by omega)⟩, ⟨by decide, e1 (by decide) (by decide +kernel), e1 (by decide) (by decide +kernel), fun k hk => absurd hk (by omega), fun k hk => e1 (by decide) (in_ct k hk)⟩, ?_⟩
    exact (e1 (a := 1) (k := 6) (v := 1) (by decide) (by decide +kernel)).trans (e1 (a := 100) (k := 3) (by decide) (by decide +kernel)).symm
  · have z : (k_280 L xs).1 99 3 = 0 := e1 (by decide) (by decide +kernel)
    refine ⟨(e1 (a := 0) (k := 3) (v := 0) (by decide) (by decide +kernel)).trans z.symm, Or.inl z, fun h => ?_⟩
    rw [z] at h
    exact absurd h (by decide)
  · exact ⟨0, by decide, e1 (by decide) (by decide +kernel), e1 (by decide) (by decide +kernel), fun i hi => absurd hi (by omega)⟩
  · exact ⟨0, by decide, e1 (by decide) (by decide +kernel), e1 (by decide) (by decide +kernel), fun i hi => absurd hi (by omega)⟩
  · intro i hi
    obtain ⟨h1, h2, h3, h4, h5⟩ := in_sh i hi
    have c3 : (k_280 L xs).1 103 i = -1 := e1 (by decide) h3
    refine ⟨0, by decide, (e1 (by omega) h1).trans c3.symm, e1 (by omega) h2, e1 (by decide) h4, Or.inl c3, fun j hj => ?_⟩
    have c5 : (k_280 L xs).1 105 (24 * i + j) = 0 := e1 (by decide) (h5 j hj).2
    refine ⟨(e1 (by omega) (h5 j hj).1).trans c5.symm, ?_⟩
    rw [c5]
    decide
  · intro i hi
    obtain ⟨h1, h2⟩ := in_sl i hi
    have c : (k_280 L xs).1 106 i = 0 := e1 (by decide) h2
    refine ⟨(e1 (by omega) h1).trans c.symm, ?_, ?_, ?_, ?_⟩
    · rw [c]; decide
    · rw [c]; exact fun h => absurd h (by decide)
    · rw [c]; exact fun h => absurd h (by decide)
    · rw [c]; exact fun h => absurd h (by decide)
  · exact ⟨fun i hi => Or.inl ((G.R 7 i).trans (in_ta i hi).1), fun i hi => Or.inl ((G.R 25 i).trans (in_ta i hi).2.1), fun i hi => Or.inl ((G.R 43 i).trans (in_ta i hi).2.2)⟩
end INIT
