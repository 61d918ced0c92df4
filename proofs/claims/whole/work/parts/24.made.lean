/-! WHAT THE MAKINGS LEAVE. -/
theorem zr_tab : ∀ t ∈ rfZ, lk3 999999 zr_275 t.1 t.2.1 = t.2.2 := by decide +kernel
section MADE
variable (L : Nat) (xs : Nat → Int32)
theorem made_1 : cV 100 81 [.ref 0] (newC (mem0 L xs) 8 12) = some (k_226 L xs) := kc_60 L xs
theorem made_2 : mN (k_226 L xs) = 99 := (G_226 L xs).N
theorem made_3 : cV 100 132 [.ref 99] (newC (k_226 L xs) 9 38) = some (k_280 L xs) := kc_61 L xs
theorem made_4 : Mk L xs 124 18424 zr_275 zf_280 (k_280 L xs) := G_280 L xs
theorem made_lay : Lay L (k_280 L xs).2.2 := by
  have G := G_280 L xs
  exact ⟨fun a h => G.S a h, fun t ht => (G.R t.1 t.2.1).trans (zr_tab t ht), G.X, Nat.le_of_eq G.N.symm, G.P.1, G.P.2.1, G.P.2.2.1, fun a h1 h2 => G.P.2.2.2 a (by rw [← G.N]; exact h1) h2⟩
end MADE
/-- the law, out of an invariant that holds behind the makings and that each pair of calls keeps -/
theorem law_inv (hyp : ∀ (L : Nat) (xs : Nat → Int32), L ≤ 384 → ∃ Inv : Nat → aMem → Prop, (∀ q μ, Inv q μ → Bs L xs q μ) ∧ (∀ q μ, Inv q μ → Inv (q + 1) μ) ∧ Inv 0 (k_280 L xs) ∧ Ops Inv) : LawOK := fun L xs hL => by
  obtain ⟨Inv, h1, h2, h3, h4⟩ := hyp L xs hL
  exact law_of h1 h2 h4 hL (made_1 L xs) (made_2 L xs) (made_3 L xs) h3
