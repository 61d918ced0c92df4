/-! STAFFED: what is done, begun, next; the class. -/
section STF
variable {L d : Nat} {F F' : Nat → Nat → Int32} {J J' : Nat → Nat → Int64} {σ : aSg} {μ : aMem} {s xs : Nat → Int32} {A ln ov : Nat → Nat} {b D : Nat → Bool}
abbrev sbs (a : Nat) (D : Nat → Bool) : Prop := ∀ j, j < 10 → bF a j = true → D j = true
theorem sbs_z {a : Nat} (h : a < 1024) (D : Nat → Bool) : nI a &&& (MK D ^^^ (-1)) = 0 ↔ sbs a D := by
  rw [bF_MK h, MK_sub, MK_z]
  constructor
  · intro q j hj ha
    have := q j hj
    rw [ha, Bool.true_and] at this
    exact Bool.not_eq_false' .. ▸ (by simpa using this)
  · intro q j hj
    by_cases c : bF a j = true
    · rw [c, q j hj c]; rfl
    · rw [Bool.eq_false_iff.mpr c]; rfl
/-- what is done behind a week -/
def dnK (A ln ov : Nat → Nat) (wk : Nat) (b D : Nat → Bool) : Nat → Nat → Bool
  | 0 => D
  | k + 1 => if (b k = true ∧ ov k ≤ wk) ∨ (ln k = 0 ∧ sbs (A k) (dnK A ln ov wk b D k)) then up1 (dnK A ln ov wk b D k) k true else dnK A ln ov wk b D k
theorem dnK_s (wk k : Nat) : dnK A ln ov wk b D (k + 1) = if (b k = true ∧ ov k ≤ wk) ∨ (ln k = 0 ∧ sbs (A k) (dnK A ln ov wk b D k)) then up1 (dnK A ln ov wk b D k) k true else dnK A ln ov wk b D k := rfl
theorem c_doneIn (h : Lay L σ) {n m t wk : Nat} (R : RK s n m t) (P : PR F 1 s n) (hln : ∀ q, q < n → F 56 q = nI (ln q) ∧ ln q ≤ 999) (hov : ∀ q, q < n → b q = true → F 61 q = nI (ov q) ∧ ov q < 2 ^ 30) (hwk : wk < 2 ^ 30) : cI d 56 [.ref 55, .ref 1, .int (nI wk), .int (MK b), .int (MK D)] (F, J, σ) = some (MK (dnK (aN s) ln ov wk b D n), (F, J, σ)) := by
  have hp := PL_1 h
  have n10 := P.1
  refine i_56 ?_
  rw [q_56_0]
  have h10 : ¬ (1 : Int32) = 0 := by decide
  have go : ∀ r k w7 w8, k + r = n → Rn d 56 (7, [.ref 55, .ref 1, .int (nI wk), .int (MK b), .int (MK D), .int (MK (dnK (aN s) ln ov wk b D k)), .int (nI k), w7, w8], [], (F, J, σ)) = some (some (.int (MK (dnK (aN s) ln ov wk b D n))), (F, J, σ)) := by
    intro r
    induction r with
    | zero =>
      intro k w7 w8 e
      rw [q_56_7]
      simp only [mS, mF, hp.y0, P.2.2.1, if_true]
      rw [if_pos (yle (by omega) (by omega)), show k = n by omega]
    | succ r ih =>
      intro k w7 w8 e
      have hk : k < n := by omega
      have i1 := ih (k + 1)
      obtain ⟨a1, a2, a3⟩ := aN_eq R hk
      obtain ⟨l1, l2⟩ := hln k hk
      have f4 : F (1 + 8 + k) 4 = nI (aN s k) := (P.2.2.2.1 k hk 4 (by decide)).trans a1
      have l0 : (nI (ln k) = (0 : Int32)) ↔ ln k = 0 := nI_eq (b := 0) (by omega) (by decide)
      have ib : inb (nI k) 10 := inb_nI (by omega) (by decide)
      have tA : 12 ≤ 12 ∧ 12 < 16 ∧ inb (nI k) 10 := ⟨by decide, by decide, ib⟩
      rw [q_56_7]
      simp only [mS, mR, mF, hp.y0, hp.z0, hp.y1, P.2.2.1, if_true, Y_55 h, Z_55_0 h, Z_55_5 h, ix_nI (show k < 2 ^ 31 by omega), hp.zk (show k < 10 by omega), hp.yk (show k < 10 by omega), f4, rd_k (Y_56 h) (show k < 10 by omega) (by decide), rd_k (Y_61 h) (show k < 10 by omega) (by decide), l1, Option.bind_some, l0, sbs_z a3, if_neg h10, MK_bit b (show k < 10 by omega), MK_or1 _ (show k < 10 by omega), nI_s, if_pos tA]
      rw [if_neg (nle hk (by omega))]
      rw [dnK_s] at i1
      by_cases cz : ln k = 0 ∧ sbs (aN s k) (dnK (aN s) ln ov wk b D k)
      · rw [if_pos (Or.inr cz)] at i1
        simp only [if_pos cz.1, if_pos cz.2]
        by_cases cb : b k = true
        · simp only [if_pos cb, if_neg h10]
          split <;> exact i1 _ _ (by omega)
        · simp only [if_neg cb, if_true]
          exact i1 _ _ (by omega)
      · by_cases cb : b k = true
        · obtain ⟨o1, o2⟩ := hov k hk cb
          simp only [if_pos cb, if_neg h10, o1]
          by_cases co : ov k ≤ wk
          · rw [if_pos (Or.inl ⟨cb, co⟩)] at i1
            rw [if_neg (nlt co (by omega))]
            by_cases c1 : ln k = 0
            · have c2 : ¬ sbs (aN s k) (dnK (aN s) ln ov wk b D k) := fun q => cz ⟨c1, q⟩
              simp only [if_pos c1, if_neg c2]
              exact i1 _ _ (by omega)
            · simp only [if_neg c1]
              exact i1 _ _ (by omega)
          · rw [if_neg (fun q => by rcases q with q | q; exact co q.2; exact cz q)] at i1
            rw [if_pos (ylt (by omega) (by omega))]
            by_cases c1 : ln k = 0
            · have c2 : ¬ sbs (aN s k) (dnK (aN s) ln ov wk b D k) := fun q => cz ⟨c1, q⟩
              simp only [if_pos c1, if_neg c2]
              exact i1 _ _ (by omega)
            · simp only [if_neg c1]
              exact i1 _ _ (by omega)
        · rw [if_neg (fun q => by rcases q with q | q; exact cb q.1; exact cz q)] at i1
          simp only [if_neg cb, if_true]
          by_cases c1 : ln k = 0
          · have c2 : ¬ sbs (aN s k) (dnK (aN s) ln ov wk b D k) := fun q => cz ⟨c1, q⟩
            simp only [if_pos c1, if_neg c2]
            exact i1 _ _ (by omega)
          · simp only [if_neg c1]
            exact i1 _ _ (by omega)
  exact go n 0 un un (by omega)
end STF
