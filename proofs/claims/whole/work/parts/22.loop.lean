theorem lw_cmp {L q : Nat} (hL : L ≤ 384) (hq : q ≤ 64) : (Int32.ofNat L - 6 < nI (6 * q)) ↔ L < 6 * q + 6 := by
  rw [Int32.lt_iff_toInt_lt, nI_toInt (by omega), Int32.toInt_sub, show (Int32.ofNat L).toInt = (L : Int) from nI_toInt (n := L) (by omega), show (6 : Int32).toInt = 6 from rfl, Int.bmod_eq_of_le (by omega) (by omega)]
  omega
theorem pk_ite {α : Type} {c : Prop} [Decidable c] {a b : α} {P : α → Prop} (ha : P a) (hb : P b) : P (if c then a else b) := by
  split
  · exact ha
  · exact hb
section LAW2
variable {Inv : Nat → aMem → Prop} {L : Nat} {xs : Nat → Int32}
theorem lw_step (hB : ∀ q μ, Inv q μ → Bs L xs q μ) (hw : ∀ q μ, Inv q μ → Inv (q + 1) μ) (ho : Ops Inv) {q : Nat} {μ : aMem} (hq : q < 64) (hI : Inv q μ) (hi : 6 * q + 5 < L) (hL : L ≤ 384) : ∃ μ2, Rn 101 246 (18, [.ref 1000014, .ref 0, .ref 99, .int (nI (6 * q))], [], μ) = Rn 101 246 (18, [.ref 1000014, .ref 0, .ref 99, .int (nI (6 * (q + 1)))], [], μ2) ∧ Inv (q + 1) μ2 := by
  obtain ⟨hop0, hop1, hop2, hop3, hop4, hop5, hop6, hop7, hop8, hop9, hop10, hop11, hop12, hop13, hop14, hop15, hop16, hop17, hop18, hop19, hop20, hop21, hop22, hop23, hop24, hop25, hop26, hop27, hop28, hop29, hop30, hop31, hop32, hop33, hop34, hop35, hop36, hop37, hop38, hop39⟩ := ho
  obtain ⟨b1, b2, -, -, -⟩ := hB q μ hI
  have hend : ∀ μ2, Rn 101 246 (1420, [.ref 1000014, .ref 0, .ref 99, .int (nI (6 * q))], [], μ2) = Rn 101 246 (18, [.ref 1000014, .ref 0, .ref 99, .int (nI (6 * (q + 1)))], [], μ2) := fun μ2 => (q_246_1420 100 _ _ _ _ μ2).trans (by rw [show nI (6 * q) + 6 = nI (6 * (q + 1)) from nI_add (6 * q) 6])
  have fin : ∀ {a : Option aRes}, (∃ μ2, a = Rn 101 246 (1420, [.ref 1000014, .ref 0, .ref 99, .int (nI (6 * q))], [], μ2) ∧ Inv (q + 1) μ2) → ∃ μ2, a = Rn 101 246 (18, [.ref 1000014, .ref 0, .ref 99, .int (nI (6 * (q + 1)))], [], μ2) ∧ Inv (q + 1) μ2 := fun ⟨μ2, h1, h2⟩ => ⟨μ2, h1.trans (hend μ2), h2⟩
  have hl : rdL μ 1000014 = some (Int32.ofNat L) := by
    unfold rdL
    rw [b1, if_pos (Or.inr rfl)]
  rw [q_246_18 100, hl, Option.bind_some, if_neg (fun h => absurd ((lw_cmp hL (by omega)).mp h) (by omega)), rdX b1 b2 (by omega) hL, Option.bind_some]
  refine fin ?_
  refine pk_ite (P := fun z => ∃ μ2, z = Rn 101 246 (1420, [.ref 1000014, .ref 0, .ref 99, .int (nI (6 * q))], [], μ2) ∧ Inv (q + 1) μ2) (lc_208 hB hop0 hq hI hi hL) ?_
  refine pk_ite (P := fun z => ∃ μ2, z = Rn 101 246 (1420, [.ref 1000014, .ref 0, .ref 99, .int (nI (6 * q))], [], μ2) ∧ Inv (q + 1) μ2) (lc_261 hB hop1 hq hI hi hL) ?_
  refine pk_ite (P := fun z => ∃ μ2, z = Rn 101 246 (1420, [.ref 1000014, .ref 0, .ref 99, .int (nI (6 * q))], [], μ2) ∧ Inv (q + 1) μ2) (lc_294 hB hop2 hq hI hi hL) ?_
  refine pk_ite (P := fun z => ∃ μ2, z = Rn 101 246 (1420, [.ref 1000014, .ref 0, .ref 99, .int (nI (6 * q))], [], μ2) ∧ Inv (q + 1) μ2) (lc_327 hB hop3 hq hI hi hL) ?_
  refine pk_ite (P := fun z => ∃ μ2, z = Rn 101 246 (1420, [.ref 1000014, .ref 0, .ref 99, .int (nI (6 * q))], [], μ2) ∧ Inv (q + 1) μ2) (lc_360 hB hop4 hq hI hi hL) ?_
  refine pk_ite (P := fun z => ∃ μ2, z = Rn 101 246 (1420, [.ref 1000014, .ref 0, .ref 99, .int (nI (6 * q))], [], μ2) ∧ Inv (q + 1) μ2) (lc_403 hB hop5 hq hI hi hL) ?_
  refine pk_ite (P := fun z => ∃ μ2, z = Rn 101 246 (1420, [.ref 1000014, .ref 0, .ref 99, .int (nI (6 * q))], [], μ2) ∧ Inv (q + 1) μ2) (lc_446 hB hop6 hq hI hi hL) ?_
  refine pk_ite (P := fun z => ∃ μ2, z = Rn 101 246 (1420, [.ref 1000014, .ref 0, .ref 99, .int (nI (6 * q))], [], μ2) ∧ Inv (q + 1) μ2) (lc_489 hB hop7 hq hI hi hL) ?_
  refine pk_ite (P := fun z => ∃ μ2, z = Rn 101 246 (1420, [.ref 1000014, .ref 0, .ref 99, .int (nI (6 * q))], [], μ2) ∧ Inv (q + 1) μ2) (lc_522 hB hop8 hq hI hi hL) ?_
  refine pk_ite (P := fun z => ∃ μ2, z = Rn 101 246 (1420, [.ref 1000014, .ref 0, .ref 99, .int (nI (6 * q))], [], μ2) ∧ Inv (q + 1) μ2) (lc_545 hB hop9 hq hI hi hL) ?_
  refine pk_ite (P := fun z => ∃ μ2, z = Rn 101 246 (1420, [.ref 1000014, .ref 0, .ref 99, .int (nI (6 * q))], [], μ2) ∧ Inv (q + 1) μ2) (lc_568 hB hop10 hq hI hi hL) ?_
  refine pk_ite (P := fun z => ∃ μ2, z = Rn 101 246 (1420, [.ref 1000014, .ref 0, .ref 99, .int (nI (6 * q))], [], μ2) ∧ Inv (q + 1) μ2) (lc_591 hB hop11 hq hI hi hL) ?_
  refine pk_ite (P := fun z => ∃ μ2, z = Rn 101 246 (1420, [.ref 1000014, .ref 0, .ref 99, .int (nI (6 * q))], [], μ2) ∧ Inv (q + 1) μ2) (lc_604 hB hop12 hq hI hi hL) ?_
  refine pk_ite (P := fun z => ∃ μ2, z = Rn 101 246 (1420, [.ref 1000014, .ref 0, .ref 99, .int (nI (6 * q))], [], μ2) ∧ Inv (q + 1) μ2) (lc_617 hB hop13 hq hI hi hL) ?_
  refine pk_ite (P := fun z => ∃ μ2, z = Rn 101 246 (1420, [.ref 1000014, .ref 0, .ref 99, .int (nI (6 * q))], [], μ2) ∧ Inv (q + 1) μ2) (lc_630 hB hop14 hq hI hi hL) ?_
  refine pk_ite (P := fun z => ∃ μ2, z = Rn 101 246 (1420, [.ref 1000014, .ref 0, .ref 99, .int (nI (6 * q))], [], μ2) ∧ Inv (q + 1) μ2) (lc_653 hB hop15 hq hI hi hL) ?_
  refine pk_ite (P := fun z => ∃ μ2, z = Rn 101 246 (1420, [.ref 1000014, .ref 0, .ref 99, .int (nI (6 * q))], [], μ2) ∧ Inv (q + 1) μ2) (lc_696 hB hop16 hq hI hi hL) ?_
  refine pk_ite (P := fun z => ∃ μ2, z = Rn 101 246 (1420, [.ref 1000014, .ref 0, .ref 99, .int (nI (6 * q))], [], μ2) ∧ Inv (q + 1) μ2) (lc_730 hB hop17 hq hI hi hL) ?_
  refine pk_ite (P := fun z => ∃ μ2, z = Rn 101 246 (1420, [.ref 1000014, .ref 0, .ref 99, .int (nI (6 * q))], [], μ2) ∧ Inv (q + 1) μ2) (lc_753 hB hop18 hq hI hi hL) ?_
  refine pk_ite (P := fun z => ∃ μ2, z = Rn 101 246 (1420, [.ref 1000014, .ref 0, .ref 99, .int (nI (6 * q))], [], μ2) ∧ Inv (q + 1) μ2) (lc_777 hB hop19 hq hI hi hL) ?_
  refine pk_ite (P := fun z => ∃ μ2, z = Rn 101 246 (1420, [.ref 1000014, .ref 0, .ref 99, .int (nI (6 * q))], [], μ2) ∧ Inv (q + 1) μ2) (lc_810 hB hop20 hq hI hi hL) ?_
  refine pk_ite (P := fun z => ∃ μ2, z = Rn 101 246 (1420, [.ref 1000014, .ref 0, .ref 99, .int (nI (6 * q))], [], μ2) ∧ Inv (q + 1) μ2) (lc_833 hB hop21 hq hI hi hL) ?_
  refine pk_ite (P := fun z => ∃ μ2, z = Rn 101 246 (1420, [.ref 1000014, .ref 0, .ref 99, .int (nI (6 * q))], [], μ2) ∧ Inv (q + 1) μ2) (lc_876 hB hop22 hq hI hi hL) ?_
  refine pk_ite (P := fun z => ∃ μ2, z = Rn 101 246 (1420, [.ref 1000014, .ref 0, .ref 99, .int (nI (6 * q))], [], μ2) ∧ Inv (q + 1) μ2) (lc_899 hB hop23 hq hI hi hL) ?_
  refine pk_ite (P := fun z => ∃ μ2, z = Rn 101 246 (1420, [.ref 1000014, .ref 0, .ref 99, .int (nI (6 * q))], [], μ2) ∧ Inv (q + 1) μ2) (lc_912 hB hop24 hq hI hi hL) ?_
  refine pk_ite (P := fun z => ∃ μ2, z = Rn 101 246 (1420, [.ref 1000014, .ref 0, .ref 99, .int (nI (6 * q))], [], μ2) ∧ Inv (q + 1) μ2) (lc_945 hB hop25 hq hI hi hL) ?_
  refine pk_ite (P := fun z => ∃ μ2, z = Rn 101 246 (1420, [.ref 1000014, .ref 0, .ref 99, .int (nI (6 * q))], [], μ2) ∧ Inv (q + 1) μ2) (lc_968 hB hop26 hq hI hi hL) ?_
  refine pk_ite (P := fun z => ∃ μ2, z = Rn 101 246 (1420, [.ref 1000014, .ref 0, .ref 99, .int (nI (6 * q))], [], μ2) ∧ Inv (q + 1) μ2) (lc_1011 hB hop27 hq hI hi hL) ?_
  refine pk_ite (P := fun z => ∃ μ2, z = Rn 101 246 (1420, [.ref 1000014, .ref 0, .ref 99, .int (nI (6 * q))], [], μ2) ∧ Inv (q + 1) μ2) (lc_1054 hB hop28 hq hI hi hL) ?_
  refine pk_ite (P := fun z => ∃ μ2, z = Rn 101 246 (1420, [.ref 1000014, .ref 0, .ref 99, .int (nI (6 * q))], [], μ2) ∧ Inv (q + 1) μ2) (lc_1077 hB hop29 hq hI hi hL) ?_
  refine pk_ite (P := fun z => ∃ μ2, z = Rn 101 246 (1420, [.ref 1000014, .ref 0, .ref 99, .int (nI (6 * q))], [], μ2) ∧ Inv (q + 1) μ2) (lc_1110 hB hop30 hq hI hi hL) ?_
  refine pk_ite (P := fun z => ∃ μ2, z = Rn 101 246 (1420, [.ref 1000014, .ref 0, .ref 99, .int (nI (6 * q))], [], μ2) ∧ Inv (q + 1) μ2) (lc_1173 hB hop31 hq hI hi hL) ?_
  refine pk_ite (P := fun z => ∃ μ2, z = Rn 101 246 (1420, [.ref 1000014, .ref 0, .ref 99, .int (nI (6 * q))], [], μ2) ∧ Inv (q + 1) μ2) (lc_1216 hB hop32 hq hI hi hL) ?_
  refine pk_ite (P := fun z => ∃ μ2, z = Rn 101 246 (1420, [.ref 1000014, .ref 0, .ref 99, .int (nI (6 * q))], [], μ2) ∧ Inv (q + 1) μ2) (lc_1249 hB hop33 hq hI hi hL) ?_
  refine pk_ite (P := fun z => ∃ μ2, z = Rn 101 246 (1420, [.ref 1000014, .ref 0, .ref 99, .int (nI (6 * q))], [], μ2) ∧ Inv (q + 1) μ2) (lc_1282 hB hop34 hq hI hi hL) ?_
  refine pk_ite (P := fun z => ∃ μ2, z = Rn 101 246 (1420, [.ref 1000014, .ref 0, .ref 99, .int (nI (6 * q))], [], μ2) ∧ Inv (q + 1) μ2) (lc_1315 hB hop35 hq hI hi hL) ?_
  refine pk_ite (P := fun z => ∃ μ2, z = Rn 101 246 (1420, [.ref 1000014, .ref 0, .ref 99, .int (nI (6 * q))], [], μ2) ∧ Inv (q + 1) μ2) (lc_1338 hB hop36 hq hI hi hL) ?_
  refine pk_ite (P := fun z => ∃ μ2, z = Rn 101 246 (1420, [.ref 1000014, .ref 0, .ref 99, .int (nI (6 * q))], [], μ2) ∧ Inv (q + 1) μ2) (lc_1371 hB hop37 hq hI hi hL) ?_
  refine pk_ite (P := fun z => ∃ μ2, z = Rn 101 246 (1420, [.ref 1000014, .ref 0, .ref 99, .int (nI (6 * q))], [], μ2) ∧ Inv (q + 1) μ2) (lc_1384 hB hop38 hq hI hi hL) ?_
  refine pk_ite (P := fun z => ∃ μ2, z = Rn 101 246 (1420, [.ref 1000014, .ref 0, .ref 99, .int (nI (6 * q))], [], μ2) ∧ Inv (q + 1) μ2) (lc_1397 hB hop39 hq hI hi hL) ?_
  exact ⟨μ, rfl, hw q μ hI⟩
theorem lw_all (hB : ∀ q μ, Inv q μ → Bs L xs q μ) (hw : ∀ q μ, Inv q μ → Inv (q + 1) μ) (ho : Ops Inv) (hL : L ≤ 384) : ∀ (n q : Nat) (μ : aMem), q + n = 64 → Inv q μ → ∃ q' μ1, q' ≤ 64 ∧ Rn 101 246 (18, [.ref 1000014, .ref 0, .ref 99, .int (nI (6 * q))], [], μ) = some (some (.int 1), μ1) ∧ Inv q' μ1 := by
  have hout : ∀ (q : Nat) (μ : aMem), q ≤ 64 → L < 6 * q + 6 → Inv q μ → ∃ q' μ1, q' ≤ 64 ∧ Rn 101 246 (18, [.ref 1000014, .ref 0, .ref 99, .int (nI (6 * q))], [], μ) = some (some (.int 1), μ1) ∧ Inv q' μ1 := by
    intro q μ hq hlt hI
    obtain ⟨b1, -⟩ := hB q μ hI
    refine ⟨q, μ, hq, ?_, hI⟩
    have hl : rdL μ 1000014 = some (Int32.ofNat L) := by
      unfold rdL
      rw [b1, if_pos (Or.inr rfl)]
    rw [q_246_18 100, hl, Option.bind_some, if_pos ((lw_cmp hL hq).mpr hlt)]
  intro n
  induction n with
  | zero => intro q μ hq hI; exact hout q μ (by omega) (by omega) hI
  | succ n ih =>
    intro q μ hq hI
    by_cases hc : L < 6 * q + 6
    · exact hout q μ (by omega) hc hI
    · obtain ⟨μ2, h1, h2⟩ := lw_step hB hw ho (by omega) hI (by omega) hL
      obtain ⟨q', μ1, h3, h4, h5⟩ := ih (q + 1) μ2 (by omega) h2
      exact ⟨q', μ1, h3, h1.trans h4, h5⟩
/-- What is left: the two makings give the invariant, and each pair of calls keeps it. -/
theorem law_of (hB : ∀ q μ, Inv q μ → Bs L xs q μ) (hw : ∀ q μ, Inv q μ → Inv (q + 1) μ) (ho : Ops Inv) (hL : L ≤ 384) {μa μb : aMem} (h1 : cV 100 81 [.ref 0] (newC (mem0 L xs) 8 12) = some μa) (h2 : mN μa = 99) (h3 : cV 100 132 [.ref 99] (newC μa 9 38) = some μb) (h4 : Inv 0 μb) : ∃ (d : Nat) (μ1 : aMem), d ≤ 1000 ∧ Rn d 246 (0, [.ref 1000014, un, un, un], [], mem0 L xs) = some (some (.int 1), μ1) ∧ mN μ1 ≤ 600000 ∧ mL μ1 ≤ 7302250 := by
  obtain ⟨q', μ1, a1, a2, a3⟩ := lw_all hB hw ho hL 64 0 μb rfl h4
  obtain ⟨-, -, -, b4, b5⟩ := hB q' μ1 a3
  refine ⟨101, μ1, by omega, ?_, by omega, by omega⟩
  rw [q_246_0 100]
  show (if (0 : Nat) < 900000 then (if (0 : Nat) < 999999 then ((cV 100 81 [.ref 0] (newC (mem0 L xs) 8 12)).bind _) else none) else none) = _
  rw [if_pos (by decide), if_pos (by decide), h1, Option.bind_some, h2, if_pos (by decide), if_pos (by decide), h3, Option.bind_some]
  exact a2
end LAW2
