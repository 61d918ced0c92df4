/-! A WORK, the model. -/
section WORKD
variable {L d : Nat} {F F' : Nat → Nat → Int32} {J : Nat → Nat → Int64} {σ : aSg} {μ : aMem} {s s' xs : Nat → Int32} {A ln wt W : Nat → Nat}
theorem m_work (h : Lay L σ) {n m t : Nat} (R : RK (F 100) n m t) (x : Int32) : ∃ F', cI (d + 6) 187 [.ref 99, .int x] (F, J, σ) = some (if wsN (F 100) ≤ sdN (F 100) then 1 else 0, (F', J, σ)) ∧ (∀ b, b < 99 ∨ (100 < b ∧ b < 111) ∨ (113 < b ∧ b < 118) ∨ 119 < b → F' b = F b) ∧ (∀ j, j ≠ 18 → F' 99 j = F 99 j) ∧ F' 99 18 = nI (wsN (F 100)) ∧ F' 100 = wkR (F 100) x := by
  have n10 := R.1.1
  obtain ⟨en, em, et⟩ := RK_o R
  obtain ⟨s, es⟩ : ∃ s, s = F 100 := ⟨_, rfl⟩
  rw [← es] at R en em et ⊢
  have t9 : True ∧ 99 < 999999 := ⟨trivial, by decide⟩
  have hE := teN_le (A := aN s) (LW_s R)
  have hE2 := teN_le (A := aN s) (LW_w R)
  have esd : sdN s = mn9 (teN (aN s) (sN s m t) (wN s t) n) := by unfold sdN; rw [en, em, et]
  have ews : wsN s = mn9 (teN (aN s) (lW s) (wN s t) n) := by unfold wsN; rw [en, et]
  have l1 : sdN s ≤ 9999 := by rw [esd]; exact mn9_le _
  have l2 : wsN s ≤ 9999 := by rw [ews]; exact mn9_le _
  obtain ⟨F1, a1, a2, a3⟩ := m_endSaid (d := d) (J := J) (F := F) h (by rw [← es]; exact R)
  rw [← es] at a1 a3
  obtain ⟨F2, b1, b2, b3⟩ := m_workL (d := d + 5) (J := J) h R x (nI (sdN s)) F1 (by rw [a2 100 (by omega), es])
  have hS : stN (lgB s) n < 2 ^ 31 := by
    have := stN_lt (f := lgB s) n
    have : 2 ^ n ≤ 2 ^ 10 := Nat.pow_le_pow_right (by decide) n10
    omega
  have hs3 : ∀ j, j ≠ 3 → up1 s 3 (zs s n) j = s j := fun j hj => up1_n _ _ hj
  have R2 : RK (F2 100) n m t := by
    rw [b3]
    obtain ⟨⟨r1, r2, r3⟩, ⟨r4, r5, r6⟩, r7, r8, r9⟩ := R
    refine ⟨⟨r1, (hs3 0 (by decide)).trans r2, fun k hk => ?_⟩, ⟨r4, (hs3 1 (by decide)).trans r5, fun i hi => ?_⟩, r7, (hs3 2 (by decide)).trans r8, fun i hi => ?_⟩
    · have := r3 k hk
      unfold PK at this ⊢
      rw [hs3 _ (by omega), hs3 _ (by omega), hs3 _ (by omega), hs3 _ (by omega), hs3 _ (by omega)]
      exact this
    · rw [hs3 _ (by omega), hs3 _ (by omega), hs3 _ (by omega)]
      exact r6 i hi
    · obtain ⟨K, W⟩ := r9 i hi
      exact ⟨K, TW_cg (fun j hj => hs3 _ (by omega)) W⟩
  obtain ⟨F3, d1, d2, d3⟩ := m_layLong (d := d + 4) (J := J) h hS n 0 F2 R2 (fun q hq => absurd hq (by omega)) (by omega)
  have gz : gN (up1 s 3 (zs s n)) = gN s := by
    funext k
    unfold gN
    rw [hs3 _ (by omega)]
  have f111 : ∀ q, q < n → F3 111 q = nI (lW s q) := fun q hq => by
    rw [d3 q hq, b3, gz]
    unfold lW
    by_cases c : lgB s q = true
    · rw [if_pos ((stN_bit n hq).mpr c), if_pos c]
    · rw [if_neg (fun z => c ((stN_bit n hq).mp z)), if_neg c]
  have f100 : F3 100 = up1 s 3 (zs s n) := by rw [d2 100 (by decide), b3]
  obtain ⟨F4, e1, e2, e3⟩ := m_endBy0 (d := d + 4) (J := J) (F := F3) h (LW_w R) (by rw [d2 100 (by decide)]; exact R2) (fun q hq => ⟨f111 q hq, by rw [d2 112 (by decide), b2 112 (by decide)]; exact (a3 q hq).1.2⟩)
  rw [f100, aN_z] at e1
  obtain ⟨F5, eF5⟩ : ∃ F5, F5 = up1 F4 99 (up1 (F4 99) 18 (nI (wsN s))) := ⟨_, rfl⟩
  have g100 : F5 100 = up1 s 3 (zs s n) := by rw [eF5, up1_ne _ _ (by decide), e2 100 (by decide), f100]
  have cw := m_writes (d := d + 5) (F := F5) (J := J) h R.2.1.1 (by rw [g100, hs3 1 (by decide)]; exact R.2.1.2.1) x (nI (sdN s)) (nI (wsN s))
  rw [g100] at cw
  have o4 : ∀ b, b < 100 ∨ (100 < b ∧ b < 111) ∨ (113 < b ∧ b < 118) ∨ 119 < b → F4 b = F b := fun b hb => by rw [e2 b (by omega), d2 b (by omega), b2 b (by omega), a2 b (by omega)]
  have o5 : ∀ b, b < 99 ∨ (100 < b ∧ b < 111) ∨ (113 < b ∧ b < 118) ∨ 119 < b → F5 b = F b := fun b hb => by rw [eF5, up1_ne _ _ (by omega), o4 b (by omega)]
  refine ⟨up1 F5 100 (wkR s x), ?_, fun b hb => by rw [up1_ne _ _ (by omega), o5 b hb], fun j hj => by rw [up1_ne _ _ (by decide), eF5, up1_s, up1_n _ _ hj, o4 99 (by omega)], by rw [up1_ne _ _ (by decide), eF5, up1_s, up1_s], by rw [up1_s]⟩
  have cl : cV (d + 5) 178 [.ref 99, .int (nI (stN (lgB s) n))] (F2, J, σ) = some (F3, J, σ) := i_178 (d := d + 4) (v := none) (by rw [q_178_0 (d + 4)]; exact d1)
  refine i_187 (d := d + 5) ?_
  rw [q_187_0 (d + 5)]
  simp only [mS, Y_99 h, if_pos t9, a1, Option.bind_some, m_wi, mn9_m (show teN (aN s) (sN s m t) (wN s t) n < 2 ^ 31 by omega), ← esd]
  refine (show _ = _ from b1).trans ?_
  rw [q_187_16 (d + 5)]
  simp only [mS, mR, Y_99 h, Z_99_0 h, if_true, if_pos t9, show rdI (F2, J, σ) 100 0 = some (F2 100 0) from rd_100 (i := 0) h (by decide), R2.1.2.1, Option.bind_some, cl, e1, m_wi, mn9_m (show teN (aN s) (lW s) (wN s t) n < 2 ^ 31 by omega), ← ews, setF_up, mF, up1_s]
  rw [if_pos (Int32.le_refl _), ← eF5, cw]
  have ek : wrS (up1 s 3 (zs s n)) m x (nI (sdN s)) (nI (wsN s)) = wkR s x := by unfold wkR; rw [en, em]
  rw [ek]
  simp only [Option.bind_some, mS, mF, Y_99 h, if_true, up1_n _ _ (show 99 ≠ 100 by decide)]
  rw [show F5 99 18 = nI (wsN s) by rw [eF5, up1_s, up1_s]]
  by_cases c : wsN s ≤ sdN s
  · rw [if_neg (nlt c (by omega)), if_pos c]
  · rw [if_pos (ylt (by omega) (by omega)), if_neg c]
end WORKD
