/-! CHANCES: the model. -/
section CHP
variable {L d : Nat} {F F' : Nat → Nat → Int32} {J J' : Nat → Nat → Int64} {σ : aSg} {μ : aMem} {s : Nat → Int32} {A wt g tl ln : Nat → Nat} {φ ψ : Nat → Nat}
theorem sh1 : ∀ n, n < 11 → (1 : Int32) <<< (nI n &&& 31) = nI (2 ^ n) := by decide
theorem tw_le (S : Nat) : ∀ n, tw (tlN s) S n ≤ 10 ^ n
  | 0 => Nat.le_refl _
  | n + 1 => by
    have ih := tw_le S n
    have := tlN_le (s := s) n
    rw [tw_s, Nat.pow_succ]
    exact Nat.mul_le_mul ih (by split <;> omega)
theorem ten_n {n : Nat} (h : n ≤ 10) : 10 ^ n ≤ 10000000000 := Nat.le_trans (Nat.pow_le_pow_right (by decide) h) (by decide)
theorem m_weight (h : Lay L σ) {n m t S : Nat} (R : RK (F 100) n m t) (hS : S < 2 ^ 31) : cJ (d + 1) 179 [.ref 99, .int (nI S)] (F, J, σ) = some (lN (tw (tlN (F 100)) S n), (F, J, σ)) := by
  have n10 := R.1.1
  have t9 : True ∧ 99 < 999999 := ⟨trivial, by decide⟩
  refine i_179 ?_
  rw [q_179_0]
  have go : ∀ r k, k + r = n → Rn (d + 1) 179 (5, [.ref 99, .int (nI S), .long (lN (tw (tlN (F 100)) S k)), un, .int (nI k)], [], (F, J, σ)) = some (some (.long (lN (tw (tlN (F 100)) S n))), (F, J, σ)) := by
    intro r
    induction r with
    | zero =>
      intro k e
      rw [q_179_5]
      simp only [mS, mR, Y_99 h, Z_99_0 h, if_true, show rdI (F, J, σ) 100 0 = some (F 100 0) from rd_100 (i := 0) h (by decide), R.1.2.1, Option.bind_some]
      rw [if_pos (yle (by omega) (by omega)), show k = n by omega]
    | succ r ih =>
      intro k e
      have hk : k < n := by omega
      have tle := tlN_le (s := F 100) k
      have o2 : cI d 139 [.ref 99, .int (nI k), .int 2] (F, J, σ) = some (nI (tlN (F 100) k), (F, J, σ)) := by rw [← tlN_eq R hk]; exact m_of (w := 2) h (by omega) (by decide)
      have tt : (nI (tlN (F 100) k)).toInt64 = lN (tlN (F 100) k) := nI_lN (by omega)
      have t10 : (10 - nI (tlN (F 100) k)).toInt64 = lN (10 - tlN (F 100) k) := by rw [show (10 : Int32) - nI (tlN (F 100) k) = nI (10 - tlN (F 100) k) from pk_sub (a := 10) tle, nI_lN (by omega)]
      have i1 := ih (k + 1) (by omega)
      rw [tw_s] at i1
      rw [q_179_5]
      simp only [mS, mR, Y_99 h, Z_99_0 h, if_true, if_pos t9, show rdI (F, J, σ) 100 0 = some (F 100 0) from rd_100 (i := 0) h (by decide), R.1.2.1, Option.bind_some, bitI hS (show k < 32 by omega), o2, tt, t10, lN_mul, nI_s]
      rw [if_neg (nle hk (by omega))]
      by_cases c : S / 2 ^ k % 2 = 1
      · rw [if_pos c] at i1
        rw [if_pos (bit01.2.mpr c)]
        exact i1
      · rw [if_neg c] at i1
        rw [if_neg (fun q => c (bit01.2.mp q))]
        exact i1
  exact go n 0 (by omega)
theorem m_all (h : Lay L σ) {n : Nat} (n10 : n ≤ 10) (hn : F 100 0 = nI n) : cJ d 180 [.ref 99] (F, J, σ) = some (lN (10 ^ n), (F, J, σ)) := by
  refine i_180 ?_
  rw [q_180_0]
  have n0 : rdI (F, J, σ) 100 0 = some (nI n) := by rw [← hn]; exact rd_100 (i := 0) h (by decide)
  have go : ∀ r k, k + r = n → Rn d 180 (4, [.ref 99, .long (lN (10 ^ k)), un, .int (nI k)], [], (F, J, σ)) = some (some (.long (lN (10 ^ n))), (F, J, σ)) := by
    intro r
    induction r with
    | zero =>
      intro k e
      rw [q_180_4]
      simp only [mS, mR, Y_99 h, Z_99_0 h, if_true, n0, Option.bind_some]
      rw [if_pos (yle (by omega) (by omega)), show k = n by omega]
    | succ r ih =>
      intro k e
      rw [q_180_4]
      simp only [mS, mR, Y_99 h, Z_99_0 h, if_true, n0, Option.bind_some]
      rw [if_neg (nle (by omega) (by omega)), show lN (10 ^ k) * 10 = lN (10 ^ k * 10) from lN_mul _ 10, ← Nat.pow_succ, nI_s]
      exact ih (k + 1) (by omega)
  exact go n 0 (by omega)
theorem pos_le0 {w : Nat} (hw : w < 2 ^ 63) : lg_cmp (lN w) 0 ≤ 0 ↔ w = 0 := by
  rw [lg_le]
  have := pk_lLE (a := w) (b := 0) hw (by decide)
  exact this.trans (by omega)
/-- one row of short and long ones is laid out and gone through -/
theorem m_oneS (h : Lay L σ) {n m t S : Nat} (R : RK (F 100) n m t) (hS : S < 2 ^ 31) (hw : ∀ k, wt k ≤ 99) (h2 : ∀ q, q < n → F 112 q = nI (wt q)) : ∃ F1 F2, cV (d + 1) 178 [.ref 99, .int (nI S)] (F, J, σ) = some (F1, J, σ) ∧ cI (d + 1) 154 [.ref 99] (F1, J, σ) = some (nI (teN (aN (F 100)) (lS (gN (F 100)) S) wt n), (F2, J, σ)) ∧ ∀ b, b ≠ 111 → b ≠ 113 → F2 b = F b := by
  obtain ⟨F1, a1, a2, a3⟩ := m_layLong (d := d) (J := J) h hS n 0 F R (fun q hq => absurd hq (by omega)) (by omega)
  have o100 := a2 100 (by decide)
  have hb : LW (lS (gN (F 100)) S) wt n := fun q hq => by have := L2_S (S := S) R hw q hq; omega
  obtain ⟨F2, b1, b2, b3⟩ := m_endBy0 (d := d) (J := J) (F := F1) h hb (by rw [o100]; exact R) (fun q hq => ⟨a3 q hq, by rw [a2 112 (by decide)]; exact h2 q hq⟩)
  rw [o100] at b1
  exact ⟨F1, F2, i_178 (d := d) (v := none) (by rw [q_178_0 d]; exact a1), b1, fun b h1 h2 => by rw [b2 b h2, a2 b h1]⟩
def psi (s : Nat → Int32) (wt : Nat → Nat) (n T S : Nat) : Nat := if teN (aN s) (lS (gN s) S) wt n < T + 1 then tw (tlN s) S n else 0
theorem m_upToL (h : Lay L σ) {n m t T : Nat} (R : RK s n m t) (hw : ∀ k, wt k ≤ 99) (hT : T ≤ 9999) : ∀ (r S : Nat) (F : Nat → Nat → Int32) (w5 w6 : Value), F 100 = s → (∀ q, q < n → F 112 q = nI (wt q)) → S + r = 2 ^ n → ∃ F', Rn (d + 2) 181 (9, [.ref 99, .int (nI T), .long (lN (sR (psi s wt n T) S)), un, .int (nI S), w5, w6], [], (F, J, σ)) = some (some (.long (lN (sR (psi s wt n T) (2 ^ n)))), (F', J, σ)) ∧ ∀ b, b ≠ 111 → b ≠ 113 → F' b = F b := by
  have n10 := R.1.1
  have p10 : 2 ^ n ≤ 2 ^ 10 := Nat.pow_le_pow_right (by decide) n10
  have t9 : True ∧ 99 < 999999 := ⟨trivial, by decide⟩
  have ten := ten_n n10
  intro r
  induction r with
  | zero =>
    intro S F w5 w6 hF h2 e
    refine ⟨F, ?_, fun _ _ _ => rfl⟩
    rw [q_181_9 (d + 1)]
    simp only [mS, mR, Y_99 h, Z_99_0 h, if_true, show rdI (F, J, σ) 100 0 = some (F 100 0) from rd_100 (i := 0) h (by decide), hF, R.1.2.1, Option.bind_some, sh1 n (by omega)]
    rw [if_pos (yle (by omega) (by omega)), show S = 2 ^ n by omega]
  | succ r ih =>
    intro S F w5 w6 hF h2 e
    have twl := tw_le (s := s) S n
    have mw := m_weight (d := d) (J := J) (F := F) (S := S) h (by rw [hF]; exact R) (by omega)
    rw [hF] at mw
    have es : sR (psi s wt n T) (S + 1) = sR (psi s wt n T) S + psi s wt n T S := rfl
    rw [q_181_9 (d + 1)]
    simp only [mS, mR, Y_99 h, Z_99_0 h, if_true, if_pos t9, show rdI (F, J, σ) 100 0 = some (F 100 0) from rd_100 (i := 0) h (by decide), hF, R.1.2.1, Option.bind_some, sh1 n (by omega), mw, pos_le0 (show tw (tlN s) S n < 2 ^ 63 by omega), nI_s]
    rw [if_neg (nle (by omega) (by omega))]
    by_cases c : tw (tlN s) S n = 0
    · rw [if_pos c]
      obtain ⟨F', g1, g2⟩ := ih (S + 1) F (.long (lN (tw (tlN s) S n))) un hF h2 (by omega)
      have p0 : psi s wt n T S = 0 := by unfold psi; rw [c]; exact ite_self _
      rw [es, p0, Nat.add_zero] at g1
      exact ⟨F', g1, g2⟩
    · rw [if_neg c]
      obtain ⟨F1, F2, a1, a2, a3⟩ := m_oneS (d := d) (J := J) (F := F) (S := S) h (by rw [hF]; exact R) (by omega) hw h2
      rw [hF] at a2
      have hte : teN (aN s) (lS (gN s) S) wt n ≤ 2980 := Nat.le_trans (teN_l2 (L2_S R hw)) (by omega)
      obtain ⟨F', g1, g2⟩ := ih (S + 1) F2 (.long (lN (tw (tlN s) S n))) un (by rw [a3 100 (by decide) (by decide), hF]) (fun q hq => by rw [a3 112 (by decide) (by decide)]; exact h2 q hq) (by omega)
      refine ⟨F', ?_, fun b h1 h2 => by rw [g2 b h1 h2, a3 b h1 h2]⟩
      rw [a1, Option.bind_some]
      simp only [mS, Y_99 h, if_pos t9, a2, Option.bind_some]
      rw [es] at g1
      by_cases c2 : teN (aN s) (lS (gN s) S) wt n < T + 1
      · have p1 : psi s wt n T S = tw (tlN s) S n := if_pos c2
        rw [p1] at g1
        rw [if_neg (nlt (by omega) (by omega)), lN_add]
        exact g1
      · have p1 : psi s wt n T S = 0 := if_neg c2
        rw [p1, Nat.add_zero] at g1
        rw [if_pos (ylt (by omega) (by omega)), Int64.add_zero]
        exact g1
def moN (s : Nat → Int32) (wt : Nat → Nat) (n : Nat) : Nat → Nat
  | 0 => 0
  | S + 1 => if tw (tlN s) S n = 0 then moN s wt n S else (if moN s wt n S < teN (aN s) (lS (gN s) S) wt n then teN (aN s) (lS (gN s) S) wt n else moN s wt n S)
theorem moN_s (s : Nat → Int32) (wt : Nat → Nat) (n S : Nat) : moN s wt n (S + 1) = if tw (tlN s) S n = 0 then moN s wt n S else (if moN s wt n S < teN (aN s) (lS (gN s) S) wt n then teN (aN s) (lS (gN s) S) wt n else moN s wt n S) := rfl
theorem moN_le {n m t : Nat} (R : RK s n m t) (hw : ∀ k, wt k ≤ 99) : ∀ M, moN s wt n M ≤ 2980
  | 0 => Nat.zero_le _
  | M + 1 => by
    have ih := moN_le R hw M
    have n10 := R.1.1
    have hte : teN (aN s) (lS (gN s) M) wt n ≤ 2980 := Nat.le_trans (teN_l2 (L2_S R hw)) (by omega)
    rw [moN_s]
    split
    · exact ih
    · split <;> omega
theorem le_moN {n : Nat} : ∀ M S, S < M → tw (tlN s) S n ≠ 0 → teN (aN s) (lS (gN s) S) wt n ≤ moN s wt n M
  | 0, S, h, _ => absurd h (by omega)
  | M + 1, S, h, h0 => by
    rw [moN_s]
    by_cases e : S = M
    · subst e
      rw [if_neg h0]
      split <;> omega
    · have ih : teN (aN s) (lS (gN s) S) wt n ≤ moN s wt n M := le_moN M S (by omega) h0
      split
      · exact ih
      · split <;> omega
theorem m_zero (h : Lay L σ) (w2 w3 w4 w5 : Value) : ∀ (r k : Nat) (J : Nat → Nat → Int64), k + r = 4000 → (∀ j, j < k → J 116 j = 0) → ∃ J', Rn (d + 1) 184 (6, [.ref 99, .int (nI k), w2, w3, w4, w5], [], (F, J, σ)) = Rn (d + 1) 184 (30, [.ref 99, .int 0, .int 0, w3, w4, w5], [], (F, J', σ)) ∧ ∀ j, j < 4000 → J' 116 j = 0 := by
  intro r
  induction r with
  | zero =>
    intro k J e hJ
    refine ⟨J, ?_, fun j hj => hJ j (by omega)⟩
    rw [q_184_6, show k = 4000 by omega, if_pos (by decide)]
  | succ r ih =>
    intro k J e hJ
    obtain ⟨J', g1, g2⟩ := ih (k + 1) (up1 J 116 (up1 (J 116) k 0)) (by omega) (fun j hj => by
      rw [up1_s]
      by_cases ej : j = k
      · rw [ej, up1_s]
      · rw [up1_n _ _ ej]; exact hJ j (by omega))
    refine ⟨J', ?_, g2⟩
    rw [q_184_6, if_neg (show ¬ (4000 : Int32) ≤ nI k from nle (a := 4000) (by omega) (by decide))]
    simp only [mS, mR, Y_99 h, Z_99_17 h, Y_116 h, if_true, setJ_up, ix_nI (show k < 2 ^ 31 by omega)]
    rw [if_pos ⟨trivial, inb_nI (by omega) (by decide)⟩, nI_s]
    exact g1
theorem m_likeL (h : Lay L σ) {n m t : Nat} (R : RK s n m t) (hw : ∀ k, wt k ≤ 99) : ∀ (r S : Nat) (F : Nat → Nat → Int32) (J : Nat → Nat → Int64) (w3 w4 w5 : Value), F 100 = s → (∀ q, q < n → F 112 q = nI (wt q)) → (∀ e, e < 4000 → J 116 e = lN (sR (phi s wt n e) S)) → S + r = 2 ^ n → ∃ F' J', Rn (d + 2) 184 (30, [.ref 99, .int (nI (moN s wt n S)), .int (nI S), w3, w4, w5], [], (F, J, σ)) = some (some (.int (nI (moN s wt n (2 ^ n)))), (F', J', σ)) ∧ (∀ b, b ≠ 111 → b ≠ 113 → F' b = F b) ∧ ∀ e, e < 4000 → J' 116 e = lN (chN s wt n e) := by
  have n10 := R.1.1
  have p10 : 2 ^ n ≤ 2 ^ 10 := Nat.pow_le_pow_right (by decide) n10
  have t9 : True ∧ 99 < 999999 := ⟨trivial, by decide⟩
  have ten := ten_n n10
  intro r
  induction r with
  | zero =>
    intro S F J w3 w4 w5 hF h2 hJ e
    have eS : S = 2 ^ n := by omega
    subst eS
    refine ⟨F, J, ?_, fun _ _ _ => rfl, hJ⟩
    rw [q_184_30 (d + 1)]
    simp only [mS, mR, Y_99 h, Z_99_0 h, if_true, show rdI (F, J, σ) 100 0 = some (F 100 0) from rd_100 (i := 0) h (by decide), hF, R.1.2.1, Option.bind_some, sh1 n (by omega)]
    rw [if_pos (Int32.le_refl _)]
  | succ r ih =>
    intro S F J w3 w4 w5 hF h2 hJ e
    have twl := tw_le (s := s) S n
    have mw := m_weight (d := d) (J := J) (F := F) (S := S) h (by rw [hF]; exact R) (by omega)
    rw [hF] at mw
    have ml := moN_le (s := s) (wt := wt) R hw S
    rw [q_184_30 (d + 1)]
    simp only [mS, mR, Y_99 h, Z_99_0 h, if_true, if_pos t9, show rdI (F, J, σ) 100 0 = some (F 100 0) from rd_100 (i := 0) h (by decide), hF, R.1.2.1, Option.bind_some, sh1 n (by omega), mw, pos_le0 (show tw (tlN s) S n < 2 ^ 63 by omega), nI_s]
    rw [if_neg (nle (by omega) (by omega))]
    have es : ∀ e', sR (phi s wt n e') (S + 1) = sR (phi s wt n e') S + phi s wt n e' S := fun e' => rfl
    by_cases c : tw (tlN s) S n = 0
    · rw [if_pos c]
      obtain ⟨F', J', g1, g2, g3⟩ := ih (S + 1) F J (.long (lN (tw (tlN s) S n))) un w5 hF h2 (fun e' he => by
        have p0 : phi s wt n e' S = 0 := by unfold phi; rw [c]; exact ite_self _
        rw [es, p0, Nat.add_zero]
        exact hJ e' he) (by omega)
      rw [moN_s, if_pos c] at g1
      exact ⟨F', J', g1, g2, g3⟩
    · rw [if_neg c]
      obtain ⟨F1, F2, a1, a2, a3⟩ := m_oneS (d := d) (J := J) (F := F) (S := S) h (by rw [hF]; exact R) (by omega) hw h2
      rw [hF] at a2
      obtain ⟨E, eE⟩ : ∃ E, E = teN (aN s) (lS (gN s) S) wt n := ⟨_, rfl⟩
      have hte : teN (aN s) (lS (gN s) S) wt n ≤ 2980 := Nat.le_trans (teN_l2 (L2_S R hw)) (by omega)
      rw [← eE] at hte a2
      obtain ⟨J1, eJ1⟩ : ∃ J1, J1 = up1 J 116 (up1 (J 116) E (J 116 E + lN (tw (tlN s) S n))) := ⟨_, rfl⟩
      obtain ⟨F', J', g1, g2, g3⟩ := ih (S + 1) F2 J1 (.long (lN (tw (tlN s) S n))) un (.int (nI E)) (by rw [a3 100 (by decide) (by decide), hF]) (fun q hq => by rw [a3 112 (by decide) (by decide)]; exact h2 q hq) (fun e' he => by
        rw [eJ1, up1_s, es]
        show up1 (J 116) E _ e' = lN (_ + if teN (aN s) (lS (gN s) S) wt n = e' then tw (tlN s) S n else 0)
        rw [← eE]
        by_cases c2 : E = e'
        · rw [if_pos c2, ← c2, up1_s, hJ E (by omega), lN_add]
        · rw [if_neg c2, up1_n _ _ (fun q => c2 q.symm), Nat.add_zero]
          exact hJ e' he) (by omega)
      refine ⟨F', J', ?_, fun b h1 h2 => by rw [g2 b h1 h2, a3 b h1 h2], g3⟩
      rw [a1, Option.bind_some]
      simp only [mS, mR, mJ, Y_99 h, if_pos t9, a2, Option.bind_some, if_true, Z_99_17 h, Y_116 h, setJ_up, ix_nI (show E < 2 ^ 31 by omega), m_greater]
      rw [if_pos ⟨trivial, inb_nI (by omega) (by decide)⟩, ← eJ1]
      rw [moN_s, if_neg c, ← eE] at g1
      have em : (if nI (moN s wt n S) ≤ nI E then nI E else nI (moN s wt n S)) = nI (if moN s wt n S < E then E else moN s wt n S) := by
        by_cases c2 : moN s wt n S < E
        · rw [if_pos (yle (by omega) (by omega)), if_pos c2]
        · rw [if_neg c2]
          by_cases c3 : moN s wt n S = E
          · rw [if_pos (yle (by omega) (by omega)), c3]
          · rw [if_neg (nle (by omega) (by omega))]
      rw [em]
      exact g1
theorem m_likely (h : Lay L σ) {n m t : Nat} (R : RK (F 100) n m t) : ∃ F' J', cI (d + 4) 184 [.ref 99] (F, J, σ) = some (nI (moN (F 100) (wN (F 100) t) n (2 ^ n)), (F', J', σ)) ∧ (∀ b, b < 111 ∨ 119 < b ∨ (113 < b ∧ b < 118) → F' b = F b) ∧ ∀ e, e < 4000 → J' 116 e = lN (chN (F 100) (wN (F 100) t) n e) := by
  obtain ⟨F1, a1, a2, a3⟩ := m_layWaits (d := d) (J := J) h n 0 F R (fun q hq => absurd hq (by omega)) (by omega)
  have t9 : True ∧ 99 < 999999 := ⟨trivial, by decide⟩
  have o100 := a2 100 (by decide) (by decide) (by decide)
  have cw : cV (d + 3) 152 [.ref 99] (F, J, σ) = some (F1, J, σ) := i_152 (d := d + 2) (v := none) (by rw [q_152_0 (d + 2)]; exact a1)
  obtain ⟨J1, b1, b2⟩ := m_zero (d := d + 3) (F := F1) h un un un un 4000 0 J (by omega) (fun j hj => absurd hj (by omega))
  obtain ⟨F2, J2, c1, c2, c3⟩ := m_likeL (d := d + 2) (wt := wN (F 100) t) h R (fun k => (wN_eq (F 100) t k).2) (2 ^ n) 0 F1 J1 un un un o100 a3 (fun e he => b2 e he) (by omega)
  refine ⟨F2, J2, ?_, fun b hb => by rw [c2 b (by omega) (by omega), a2 b (by omega) (by omega) (by omega)], c3⟩
  refine i_184 (d := d + 3) ?_
  rw [q_184_0 (d + 3)]
  simp only [mS, Y_99 h, if_pos t9, cw, Option.bind_some]
  exact b1.trans c1
theorem m_upTo (h : Lay L σ) {n m t T : Nat} (R : RK (F 100) n m t) (hT : T ≤ 9999) : ∃ F', cJ (d + 4) 181 [.ref 99, .int (nI T)] (F, J, σ) = some (lN (sR (psi (F 100) (wN (F 100) t) n T) (2 ^ n)), (F', J, σ)) ∧ ∀ b, b < 111 ∨ 119 < b ∨ (113 < b ∧ b < 118) → F' b = F b := by
  obtain ⟨F1, a1, a2, a3⟩ := m_layWaits (d := d) (J := J) h n 0 F R (fun q hq => absurd hq (by omega)) (by omega)
  have t9 : True ∧ 99 < 999999 := ⟨trivial, by decide⟩
  have o100 := a2 100 (by decide) (by decide) (by decide)
  have cw : cV (d + 3) 152 [.ref 99] (F, J, σ) = some (F1, J, σ) := i_152 (d := d + 2) (v := none) (by rw [q_152_0 (d + 2)]; exact a1)
  obtain ⟨F2, c1, c2⟩ := m_upToL (d := d + 2) (J := J) (wt := wN (F 100) t) h R (fun k => (wN_eq (F 100) t k).2) hT (2 ^ n) 0 F1 un un o100 a3 (by omega)
  refine ⟨F2, ?_, fun b hb => by rw [c2 b (by omega) (by omega), a2 b (by omega) (by omega) (by omega)]⟩
  refine i_181 (d := d + 3) ?_
  rw [q_181_0 (d + 3)]
  simp only [mS, Y_99 h, if_pos t9, cw, Option.bind_some]
  exact c1
end CHP
