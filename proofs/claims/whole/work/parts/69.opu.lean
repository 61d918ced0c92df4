/-! ODDS, SPAN, MEAN. -/
section OPU
variable {L d : Nat} {F F' : Nat → Nat → Int32} {J J' : Nat → Nat → Int64} {σ : aSg} {μ : aMem} {s xs : Nat → Int32} {A wt g tl ln : Nat → Nat} {φ ψ : Nat → Nat}
def OpRJ (L : Nat) (xs : Nat → Int32) (q y y' : Nat) (as : List Value) (F : Nat → Nat → Int32) (J : Nat → Nat → Int64) (σ : aSg) : Prop := ∃ r F1 J1 σ1 F2 J2 σ2, cJ 100 y (.ref 0 :: as) (F, J, σ) = some (r, (F1, J1, σ1)) ∧ Lay L σ1 ∧ F1 1000014 = F 1000014 ∧ cJ 100 y' (.ref 99 :: as) (F1, J1, σ1) = some (r, (F2, J2, σ2)) ∧ IV L xs (q + 1) F2 σ2
theorem OpRJ.mk {q y y' : Nat} {as : List Value} (I : IV L xs q F σ) (H : OpRJ L xs q y y' as F J σ) : ∃ (r : Int64) (μ1 μ2 : aMem), cJ 100 y (.ref 0 :: as) (F, J, σ) = some (r, μ1) ∧ (mS μ1 99).1 = 9 ∧ mS μ1 1000014 = mS (F, J, σ) 1000014 ∧ mF μ1 1000014 = mF (F, J, σ) 1000014 ∧ cJ 100 y' (.ref 99 :: as) μ1 = some (r, μ2) ∧ Inv L xs (q + 1) μ2 := by
  obtain ⟨r, F1, J1, σ1, F2, J2, σ2, h1, h2, h3, h4, h5⟩ := H
  exact ⟨r, (F1, J1, σ1), (F2, J2, σ2), h1, congrArg Prod.fst (Y_99 h2), h2.2.2.1.trans I.lay.2.2.1.symm, h3, h4, h5⟩
theorem opJ1 {y y' : Nat} (H : ∀ q F J σ a, q < 64 → IV L xs q F σ → OpRJ L xs q y y' [.int a] F J σ) : OpJ (Inv L xs) y y' 1 := by
  intro q μ as hl hq I
  match as, hl with
  | [a], _ => exact OpRJ.mk I (H q μ.1 μ.2.1 μ.2.2 a hq I)
theorem opJ2 {y y' : Nat} (H : ∀ q F J σ a b, q < 64 → IV L xs q F σ → OpRJ L xs q y y' [.int a, .int b] F J σ) : OpJ (Inv L xs) y y' 2 := by
  intro q μ as hl hq I
  match as, hl with
  | [a, b], _ => exact OpRJ.mk I (H q μ.1 μ.2.1 μ.2.2 a b hq I)
theorem ten_34 {n : Nat} (h : n ≤ 10) : 0 < 10 ^ n ∧ 10 ^ n < 2 ^ 34 := ⟨Nat.pow_pos (by decide), by have := ten_n h; omega⟩
theorem op_odds : OpJ (Inv L xs) 98 183 2 := opJ2 fun q F J σ x w hq I => by
  have h := I.lay
  have hp := PL_1 h
  obtain ⟨n, m, t, P, B, T, z⟩ := I.rw
  have n10 := P.1
  have R := RK_of P B T
  have t5 : True ∧ 55 < 999999 := ⟨trivial, by decide⟩
  have t9 : True ∧ 99 < 999999 := ⟨trivial, by decide⟩
  have bad : ¬ (0 ≤ x ∧ x ≤ 9999) ∨ ¬ (0 ≤ w ∧ w ≤ 1) → OpRJ L xs q 98 183 [.int x, .int w] F J σ := fun hn => by
    refine ⟨-1000000001, F, J, σ, F, J, σ, i_98 (d := 99) ?_, h, rfl, i_183 (d := 99) ?_, I.up⟩
    · rw [q_98_0 99, c_within]
      simp only [Option.bind_some, b2i_0, c_within]
      by_cases c : 0 ≤ x ∧ x ≤ 9999
      · rw [if_neg (not_not_intro c), if_pos (hn.resolve_left (not_not_intro c))]
      · rw [if_pos c]
    · rw [q_183_0 99, m_in_9999]
      simp only [Option.bind_some, b2i_0, m_in_0_1]
      by_cases c : 0 ≤ x ∧ x ≤ 9999
      · rw [if_neg (not_not_intro c), if_pos (hn.resolve_left (not_not_intro c))]
      · rw [if_pos c]
  by_cases h1 : 0 ≤ x ∧ x ≤ 9999
  · by_cases h2 : 0 ≤ w ∧ w ≤ 1
    · obtain ⟨T0, -, hT, rfl⟩ := in_n (lo := 0) (hi := 9999) (by decide) h1
      obtain ⟨F1, J1, a1, a2, a3⟩ := c_fillChances (J := J) h I.ta.1 P B T
      obtain ⟨M, eM⟩ : ∃ M, M = if T0 < 2980 then T0 + 1 else 2981 := ⟨_, rfl⟩
      have cu := c_upTo (J := J1) h a3 hT eM F1 M 0 (by omega)
      have c62 : cJ 99 62 [.ref 55, .ref 1, .int (nI T0)] (F, J, σ) = some (lN (sR (chN (F 100) (wN (F 100) t) n) M), (F1, J1, σ)) := by
        refine i_62 (d := 98) ?_
        rw [q_62_0 98]
        simp only [mS, Y_55 h, if_pos t5, a1, Option.bind_some]
        exact cu
      have hM : sR (chN (F 100) (wN (F 100) t) n) M = sR (psi (F 100) (wN (F 100) t) n T0) (2 ^ n) := by
        rw [ch_sum]
        refine sR_cg _ (fun S _ => ?_)
        have hte : teN (aN (F 100)) (lS (gN (F 100)) S) (wN (F 100) t) n ≤ 2980 := Nat.le_trans (teN_l2 (L2_S R (fun k => (wN_eq (F 100) t k).2))) (by omega)
        have : (teN (aN (F 100)) (lS (gN (F 100)) S) (wN (F 100) t) n < M) ↔ (teN (aN (F 100)) (lS (gN (F 100)) S) (wN (F 100) t) n < T0 + 1) := by
          by_cases c : T0 < 2980
          · rw [eM, if_pos c]
          · rw [eM, if_neg c]; omega
        unfold psi
        by_cases c : teN (aN (F 100)) (lS (gN (F 100)) S) (wN (F 100) t) n < M
        · rw [if_pos c, if_pos (this.mp c)]
        · rw [if_neg c, if_neg (fun q => c (this.mpr q))]
      have hle := ch_le (F 100) (wN (F 100) t) n M
      have ten := ten_n n10
      obtain ⟨r, r1, r2⟩ := both_low (a := sR (chN (F 100) (wN (F 100) t) n) M) (b := 10 ^ n) (by omega) (ten_34 n10).1 (ten_34 n10).2 w
      have o100 := a2 100 (by omega)
      obtain ⟨F2, b1, b2⟩ := m_upTo (d := 95) (F := F1) (J := J1) (T := T0) h (by rw [o100]; exact R) hT
      rw [o100, ← hM] at b1
      have p1 : F1 1 1 = nI n := by rw [a2 1 (by omega)]; exact P.2.2.1
      have p2 : F2 100 0 = nI n := by rw [b2 100 (by omega), o100]; exact P.2.1
      refine ⟨r, F1, J1, σ, F2, J1, σ, i_98 (d := 99) ?_, h, a2 _ (by omega), i_183 (d := 99) ?_, IV_scr I (fun b hb => by rw [b2 b (by omega), a2 b (by omega)])⟩
      · rw [q_98_0 99, c_within]
        simp only [Option.bind_some, b2i_0, c_within, mS, mR, Y_0 h, Z_0_0 h, Z_0_4 h, Y_55 h, if_true, if_pos t5, c62, c_all h n10 p1, r1 98]
        rw [if_neg (not_not_intro h1), if_neg (not_not_intro h2)]
      · rw [q_183_0 99, m_in_9999]
        simp only [Option.bind_some, b2i_0, m_in_0_1, mS, Y_99 h, if_pos t9, b1, m_all h n10 p2, r2]
        rw [if_neg (not_not_intro h1), if_neg (not_not_intro h2)]
    · exact bad (Or.inr h2)
  · exact bad (Or.inl h1)
/-- what the model's greatest end says of the sums -/
theorem ch_most {n m t : Nat} (R : RK s n m t) (hw : ∀ k, wt k ≤ 99) : sR (chN s wt n) (moN s wt n (2 ^ n) + 1) = 10 ^ n ∧ ∀ e, moN s wt n (2 ^ n) < e → chN s wt n e = 0 := by
  refine ⟨?_, fun e he => ?_⟩
  · rw [ch_sum, ← tw_sum (s := s) n]
    refine sR_cg _ (fun S hS => ?_)
    by_cases c : tw (tlN s) S n = 0
    · rw [c]; exact ite_self _
    · rw [if_pos (Nat.lt_succ_of_le (le_moN (2 ^ n) S hS c))]
  · refine sR_0 _ (fun S hS => ?_)
    unfold phi
    by_cases c : tw (tlN s) S n = 0
    · rw [c]; exact ite_self _
    · have := le_moN (wt := wt) (2 ^ n) S hS c
      rw [if_neg (by omega)]
theorem m_spanL (h : Lay L σ) {c : Nat → Nat} (hc : ∀ e, e < 4000 → J 116 e = lN (c e)) {W0 i0 M p all : Nat} (hM : M ≤ 2980) (hp : p ≤ 100) (hpa : p * all = W0) (hb : ∀ k, k ≤ 2980 → 100 * sR c (k + 1) < 2 ^ 63) (hW : W0 < 2 ^ 63) (hi : i0 ≤ M) (h0 : W0 ≤ 100 * sR c (i0 + 1)) (hl : ∀ j, j < i0 → ¬ W0 ≤ 100 * sR c (j + 1)) (F : Nat → Nat → Int32) : ∀ r k, k + r = i0 → Rn (d + 1) 185 (31, [.ref 99, .int (nI p), .int (nI M), .long (lN all), un, .long (lN (sR c k)), un, .int (nI k)], [], (F, J, σ)) = some (some (.int (nI i0)), (F, J, σ)) := by
  have cm : ∀ k, (100 : Int64) * lN (sR c (k + 1)) = lN (100 * sR c (k + 1)) := fun k => lN_mul 100 _
  intro r
  induction r with
  | zero =>
    intro k e
    have ek : k = i0 := by omega
    subst ek
    rw [q_185_31]
    by_cases q : M ≤ k
    · rw [if_pos (yle q (by omega)), show M = k by omega]
    · rw [if_neg (nle (by omega) (by omega))]
      simp only [mS, mR, mJ, Y_99 h, Z_99_17 h, Y_116 h, if_true, ix_nI (show k < 2 ^ 31 by omega), hc k (by omega), lN_add, ← sR_s, cm, lg_lt, nI_lN (show p < 2 ^ 31 by omega), lN_mul, hpa]
      rw [if_pos ⟨trivial, inb_nI (by omega) (by decide)⟩, if_neg (fun z => by have := (pk_lLT (hb k (by omega)) hW).mp z; omega)]
  | succ r ih =>
    intro k e
    rw [q_185_31, if_neg (nle (by omega) (by omega))]
    simp only [mS, mR, mJ, Y_99 h, Z_99_17 h, Y_116 h, if_true, ix_nI (show k < 2 ^ 31 by omega), hc k (by omega), lN_add, ← sR_s, cm, lg_lt, nI_lN (show p < 2 ^ 31 by omega), lN_mul, hpa, nI_s]
    rw [if_pos ⟨trivial, inb_nI (by omega) (by decide)⟩, if_pos ((pk_lLT (hb k (by omega)) hW).mpr (by have := hl k (by omega); omega))]
    exact ih (k + 1) (by omega)
theorem op_span : OpI (Inv L xs) 99 185 1 := op1 fun q F J σ x hq I => by
  have h := I.lay
  have hp := PL_1 h
  obtain ⟨n, m, t, P, B, T, z⟩ := I.rw
  have n10 := P.1
  have R := RK_of P B T
  have t5 : True ∧ 55 < 999999 := ⟨trivial, by decide⟩
  have t9 : True ∧ 99 < 999999 := ⟨trivial, by decide⟩
  by_cases h1 : 1 ≤ x ∧ x ≤ 100
  · obtain ⟨p, hp1, hp2, rfl⟩ := in_n (lo := 1) (hi := 100) (by decide) h1
    obtain ⟨F1, J1, a1, a2, a3⟩ := c_fillChances (J := J) h I.ta.1 P B T
    have o100 := a2 100 (by omega)
    obtain ⟨F2, J2, b1, b2, b3⟩ := m_likely (d := 95) (F := F1) (J := J1) h (by rw [o100]; exact R)
    rw [o100] at b1 b3
    obtain ⟨m1, m2⟩ := ch_most (wt := wN (F 100) t) R (fun k => (wN_eq (F 100) t k).2)
    have ml := moN_le (wt := wN (F 100) t) R (fun k => (wN_eq (F 100) t k).2) (2 ^ n)
    obtain ⟨c, ec⟩ : ∃ c, c = chN (F 100) (wN (F 100) t) n := ⟨_, rfl⟩
    obtain ⟨M, eM⟩ : ∃ M, M = moN (F 100) (wN (F 100) t) n (2 ^ n) := ⟨_, rfl⟩
    have cle : ∀ k, sR c k ≤ 10 ^ n := fun k => by rw [ec]; exact ch_le _ _ _ _
    have ten := ten_n n10
    rw [← ec, ← eM] at m1
    rw [← eM] at b1 ml
    have a3' : ∀ e, e ≤ 2980 → J1 63 e = lN (c e) := fun e he => by rw [ec]; exact a3 e he
    have b3' : ∀ e, e < 4000 → J2 116 e = lN (c e) := fun e he => by rw [ec]; exact b3 e he
    have hW : p * 10 ^ n ≤ 100 * 10 ^ n := Nat.mul_le_mul_right _ hp2
    obtain ⟨i0, i1, i2⟩ := pk_least (fun i => p * 10 ^ n ≤ 100 * sR c (i + 1)) ⟨M, by rw [m1]; exact hW⟩
    have hiM : i0 ≤ M := by
      by_cases q : i0 ≤ M
      · exact q
      · exact absurd (show p * 10 ^ n ≤ 100 * sR c (M + 1) by rw [m1]; exact hW) (i2 M (by omega))
    have hb : ∀ k, k ≤ 2980 → 100 * sR c (k + 1) < 2 ^ 63 := fun k _ => by have := cle (k + 1); omega
    have cs := c_spanL (J := J1) h a3' hb (show p * 10 ^ n < 2 ^ 63 by omega) (show i0 ≤ 2980 by omega) i1 i2 F1 (nI p) i0 0 (by omega)
    have ms := m_spanL (d := 99) (J := J2) (all := 10 ^ n) h b3' ml hp2 rfl hb (show p * 10 ^ n < 2 ^ 63 by omega) hiM i1 i2 F2 i0 0 (by omega)
    have q1 : F1 1 1 = nI n := by rw [a2 1 (by omega)]; exact P.2.2.1
    have q2 : F2 100 0 = nI n := by rw [b2 100 (by omega), o100]; exact P.2.1
    refine ⟨nI i0, F1, J1, σ, F2, J2, σ, i_99 (d := 99) ?_, h, a2 _ (by omega), i_185 (d := 99) ?_, IV_scr I (fun b hb => by rw [b2 b (by omega), a2 b (by omega)])⟩
    · have c63 : cI 99 63 [.ref 55, .ref 1, .int (nI p)] (F, J, σ) = some (nI i0, (F1, J1, σ)) := by
        refine i_63 (d := 98) ?_
        rw [q_63_0 98]
        simp only [mS, Y_55 h, if_pos t5, a1, Option.bind_some, c_all h n10 q1, nI_lN (show p < 2 ^ 31 by omega), lN_mul]
        rw [Nat.mul_comm (10 ^ n) p]
        exact cs
      rw [q_99_0 99, c_within]
      simp only [Option.bind_some, b2i_0, mS, mR, Y_0 h, Z_0_0 h, Z_0_4 h, Y_55 h, if_true, if_pos t5, c63]
      rw [if_neg (not_not_intro h1)]
    · rw [q_185_0 99, show cI 99 133 [.long (nI p).toInt64, .long 1, .long 100] (F1, J1, σ) = _ from m_in (nI p) 1 100]
      simp only [Option.bind_some, b2i_0, mS, Y_99 h, if_pos t9, b1, m_all h n10 q2]
      rw [if_neg (not_not_intro h1)]
      exact ms
  · refine ⟨-1000000001, F, J, σ, F, J, σ, i_99 (d := 99) ?_, h, rfl, i_185 (d := 99) ?_, I.up⟩
    · rw [q_99_0 99, c_within]
      simp only [Option.bind_some, b2i_0]
      rw [if_pos h1]
    · rw [q_185_0 99, show cI 99 133 [.long x.toInt64, .long 1, .long 100] (F, J, σ) = _ from m_in x 1 100]
      simp only [Option.bind_some, b2i_0]
      rw [if_pos h1]
theorem m_meanL (h : Lay L σ) {c : Nat → Nat} (hc : ∀ e, e < 4000 → J 116 e = lN (c e)) {M : Nat} (hM : M ≤ 2980) (F : Nat → Nat → Int32) (x : Int32) : ∀ r k, k + r = M + 1 → Rn (d + 1) 186 (24, [.ref 99, .int x, .int (nI M), .long (lN (sR (fun i => c i * i) k)), un, .int (nI k)], [], (F, J, σ)) = Rn (d + 1) 186 (24, [.ref 99, .int x, .int (nI M), .long (lN (sR (fun i => c i * i) (M + 1))), un, .int (nI (M + 1))], [], (F, J, σ)) := by
  intro r
  induction r with
  | zero =>
    intro k e
    rw [show k = M + 1 by omega]
  | succ r ih =>
    intro k e
    rw [q_186_24, if_neg (nlt (by omega) (by omega))]
    simp only [mS, mR, mJ, Y_99 h, Z_99_17 h, Y_116 h, if_true, ix_nI (show k < 2 ^ 31 by omega), hc k (by omega), nI_lN (show k < 2 ^ 31 by omega), lN_mul, lN_add, nI_s]
    rw [if_pos ⟨trivial, inb_nI (by omega) (by decide)⟩, Nat.mul_comm k (c k)]
    exact ih (k + 1) (by omega)
theorem op_mean : OpJ (Inv L xs) 100 186 1 := opJ1 fun q F J σ x hq I => by
  have h := I.lay
  have hp := PL_1 h
  obtain ⟨n, m, t, P, B, T, z⟩ := I.rw
  have n10 := P.1
  have R := RK_of P B T
  have t5 : True ∧ 55 < 999999 := ⟨trivial, by decide⟩
  have t9 : True ∧ 99 < 999999 := ⟨trivial, by decide⟩
  by_cases h1 : 0 ≤ x ∧ x ≤ 1
  · obtain ⟨F1, J1, a1, a2, a3⟩ := c_fillChances (J := J) h I.ta.1 P B T
    have o100 := a2 100 (by omega)
    obtain ⟨F2, J2, b1, b2, b3⟩ := m_likely (d := 95) (F := F1) (J := J1) h (by rw [o100]; exact R)
    rw [o100] at b1 b3
    obtain ⟨m1, m2⟩ := ch_most (wt := wN (F 100) t) R (fun k => (wN_eq (F 100) t k).2)
    have ml := moN_le (wt := wN (F 100) t) R (fun k => (wN_eq (F 100) t k).2) (2 ^ n)
    obtain ⟨c, ec⟩ : ∃ c, c = chN (F 100) (wN (F 100) t) n := ⟨_, rfl⟩
    obtain ⟨M, eM⟩ : ∃ M, M = moN (F 100) (wN (F 100) t) n (2 ^ n) := ⟨_, rfl⟩
    have cle : ∀ k, sR c k ≤ 10 ^ n := fun k => by rw [ec]; exact ch_le _ _ _ _
    have ten := ten_n n10
    rw [← ec, ← eM] at m2
    rw [← eM] at b1 ml
    have a3' : ∀ e, e ≤ 2980 → J1 63 e = lN (c e) := fun e he => by rw [ec]; exact a3 e he
    have b3' : ∀ e, e < 4000 → J2 116 e = lN (c e) := fun e he => by rw [ec]; exact b3 e he
    have et : sR (fun i => c i * i) 2981 = sR (fun i => c i * i) (M + 1) := sR_tail 2981 (M + 1) (by omega) (fun j hj _ => by show c j * j = 0; rw [m2 j (by omega), Nat.zero_mul])
    have hA : sR (fun i => c i * i) 2981 ≤ sR (fun i => c i * 2980) 2981 := sR_le _ (fun j hj => Nat.mul_le_mul_left _ (by omega))
    rw [sR_mul] at hA
    have hA2 : sR c 2981 * 2980 ≤ 10 ^ n * 2980 := Nat.mul_le_mul_right _ (cle 2981)
    obtain ⟨r, r1, r2⟩ := both_low (a := sR (fun i => c i * i) 2981) (b := 10 ^ n) (by omega) (ten_34 n10).1 (ten_34 n10).2 x
    have cs := c_meanL (J := J1) h a3' F1 2981 0 (by omega)
    have ms := m_meanL (d := 99) (J := J2) h b3' ml F2 x (M + 1) 0 (by omega)
    have q1 : F1 1 1 = nI n := by rw [a2 1 (by omega)]; exact P.2.2.1
    have q2 : F2 100 0 = nI n := by rw [b2 100 (by omega), o100]; exact P.2.1
    refine ⟨r, F1, J1, σ, F2, J2, σ, i_100 (d := 99) ?_, h, a2 _ (by omega), i_186 (d := 99) ?_, IV_scr I (fun b hb => by rw [b2 b (by omega), a2 b (by omega)])⟩
    · have c64 : cJ 99 64 [.ref 55, .ref 1] (F, J, σ) = some (lN (sR (fun i => c i * i) 2981), (F1, J1, σ)) := by
        refine i_64 (d := 98) ?_
        rw [q_64_0 98]
        simp only [mS, Y_55 h, if_pos t5, a1, Option.bind_some]
        exact cs
      rw [q_100_0 99, c_within]
      simp only [Option.bind_some, b2i_0, mS, mR, Y_0 h, Z_0_0 h, Z_0_4 h, Y_55 h, if_true, if_pos t5, c64, c_all h n10 q1, r1 98]
      rw [if_neg (not_not_intro h1)]
    · rw [q_186_0 99, m_in_0_1]
      simp only [Option.bind_some, b2i_0, mS, Y_99 h, if_pos t9, b1]
      rw [if_neg (not_not_intro h1)]
      refine (show _ = _ from ms).trans ?_
      rw [q_186_24 99, if_pos (ylt (by omega) (by omega)), ← et]
      simp only [mS, Y_99 h, if_pos t9, m_all h n10 q2, Option.bind_some, r2]
  · refine ⟨-1000000001, F, J, σ, F, J, σ, i_100 (d := 99) ?_, h, rfl, i_186 (d := 99) ?_, I.up⟩
    · rw [q_100_0 99, c_within]
      simp only [Option.bind_some, b2i_0]
      rw [if_pos h1]
    · rw [q_186_0 99, m_in_0_1]
      simp only [Option.bind_some, b2i_0]
      rw [if_pos h1]
end OPU
