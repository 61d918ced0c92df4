/-! CRITICAL, TOLD, COUNT, FINE. -/
section OPQ
variable {L d : Nat} {F F' : Nat → Nat → Int32} {J : Nat → Nat → Int64} {σ : aSg} {μ : aMem} {s s' xs : Nat → Int32} {A ln wt W : Nat → Nat}
def crN (A ln wt W : Nat → Nat) (E : Nat) : Nat → Nat
  | 0 => 0
  | k + 1 => if enN A ln wt k + W k = E then crN A ln wt W E k + 2 ^ k else crN A ln wt W E k
theorem crN_lt {E : Nat} : ∀ k, crN A ln wt W E k < 2 ^ k
  | 0 => Nat.zero_lt_one
  | k + 1 => by
    have : crN A ln wt W E k < 2 ^ k := crN_lt k
    have e : 2 ^ (k + 1) = 2 ^ k + 2 ^ k := by rw [Nat.pow_succ]; omega
    show (if _ then _ else _) < _
    rw [e]
    split
    · exact Nat.add_lt_add_right this _
    · exact Nat.lt_of_lt_of_le this (Nat.le_add_right _ _)
set_option maxRecDepth 100000 in
theorem orI : ∀ k, k < 10 → ∀ S, S < 2 ^ k → nI S ||| ((1 : Int32) <<< (nI k &&& 31)) = nI (S + 2 ^ k) := by decide +kernel
theorem wi_id {a M : Nat} (h : a ≤ M) (hM : M < 2 ^ 31) : wiM (nI a) (nI M) = nI a := by
  unfold wiM
  rw [if_neg (show ¬ nI a < (0 : Int32) from nlt (b := 0) (by omega) (by omega)), if_neg (nlt (by omega) (by omega))]
theorem c_crit (h : Lay L σ) {p n m t : Nat} (hp : PL σ p) (hp2 : p + 17 < 55) (ta : TA σ p) (P : PR F p s n) (B : BR F p s m) (T : TR F σ p s t) : ∃ F' W, cI (d + 5) 52 [.ref 55, .ref p] (F, J, σ) = some (nI (crN (aN s) (sN s m t) (wN s t) W (teN (aN s) (sN s m t) (wN s t) n) n), (F', J, σ)) ∧ (∀ b, b < 56 ∨ 62 < b → F' b = F b) ∧ WS (aN s) (sN s m t) (wN s t) W n := by
  have n10 := P.1
  have R := RK_of P B T
  have t5 : True ∧ 55 < 999999 := ⟨trivial, by decide⟩
  obtain ⟨F1, a1, a2, a3⟩ := c_endSaid (d := d) (J := J) h hp hp2 ta P B T
  have P1 : PR F1 p s n := PR_cg (fun a h1 h2 => a2 a (by omega)) (fun j _ => rfl) P
  obtain ⟨F2, W, b1, b2, b3, b4⟩ := c_ways (d := d + 4) (J := J) h hp hp2 R (LW_s R) P1 (fun q hq => (a3 q hq).1)
  have P2 : PR F2 p s n := PR_cg (fun a h1 h2 => by rw [b2 a (by omega), a2 a (by omega)]) (fun j _ => rfl) P
  have hE := teN_le (A := aN s) (LW_s R)
  obtain ⟨E, eE⟩ : ∃ E, E = teN (aN s) (sN s m t) (wN s t) n := ⟨_, rfl⟩
  have go : ∀ r k, k + r = n → Rn (d + 5) 52 (16, [.ref 55, .ref p, .int (nI E), .int (nI (crN (aN s) (sN s m t) (wN s t) W E k)), .int (nI k)], [], (F2, J, σ)) = some (some (.int (nI (crN (aN s) (sN s m t) (wN s t) W E n))), (F2, J, σ)) := by
    intro r
    induction r with
    | zero =>
      intro k e
      rw [q_52_16 (d + 4)]
      simp only [mS, mF, hp.y0, P2.2.2.1, if_true]
      rw [if_pos (yle (by omega) (by omega)), show k = n by omega]
    | succ r ih =>
      intro k e
      have hk : k < n := by omega
      have h1 := ih (k + 1) (by omega)
      rw [show crN (aN s) (sN s m t) (wN s t) W E (k + 1) = if enN (aN s) (sN s m t) (wN s t) k + W k = E then crN (aN s) (sN s m t) (wN s t) W E k + 2 ^ k else crN (aN s) (sN s m t) (wN s t) W E k from rfl] at h1
      have hw := en_W b3 (n - k) k (by omega) hk
      rw [← eE] at hw hE
      rw [q_52_16 (d + 4)]
      simp only [mS, mR, mF, hp.y0, P2.2.2.1, if_true, Y_55 h, Z_55_3 h, Z_55_4 h, rd_k (Y_59 h) (show k < 10 by omega) (by decide), rd_k (Y_60 h) (show k < 10 by omega) (by decide), b2 59 (by decide), (a3 k hk).2.2, b4 k hk, Option.bind_some, nI_add, nI_s, orI k (by omega) _ (crN_lt k)]
      rw [if_neg (nle hk (by omega))]
      by_cases c : enN (aN s) (sN s m t) (wN s t) k + W k = E
      · rw [if_pos c] at h1
        rw [if_pos (by rw [c])]
        exact h1
      · rw [if_neg c] at h1
        rw [if_neg (fun z => c ((nI_eq (by omega) (by omega)).mp z))]
        exact h1
  refine ⟨F2, W, ?_, fun b hb => by rw [b2 b (by omega), a2 b hb], b3⟩
  refine i_52 (d := d + 4) ?_
  rw [q_52_0 (d + 4)]
  simp only [mS, Y_55 h, if_pos t5, a1, b1, Option.bind_some]
  rw [← eE]
  exact go n 0 (by omega)
theorem m_slack (h : Lay L σ) {n m t k : Nat} (n10 : n ≤ 10) (hb : LW ln wt n) (hW : WS A ln wt W n) (hk : k < n) (h1 : F 111 k = nI (ln k)) (h2 : F 113 k = nI (bgN A ln wt k)) (h3 : F 114 k = nI (teN A ln wt n - W k)) : cI (d + 1) 157 [.ref 99, .int (nI k)] (F, J, σ) = some (nI (teN A ln wt n - W k - enN A ln wt k), (F, J, σ)) := by
  have hw := en_W hW (n - k) k (by omega) hk
  have hE := teN_le (A := A) hb
  have hs := slack_le hW hb n10 hk
  have e : enN A ln wt k = bgN A ln wt k + ln k := rfl
  refine i_157 (d := d) ?_
  rw [q_157_0]
  simp only [mS, mR, Y_99 h, Z_99_12 h, Z_99_14 h, Z_99_15 h, if_true, rd_k (Y_111 h) (show k < 10 by omega) (by decide), rd_k (Y_113 h) (show k < 10 by omega) (by decide), rd_k (Y_114 h) (show k < 10 by omega) (by decide), h1, h2, h3, Option.bind_some, sub3 (show bgN A ln wt k + ln k ≤ teN A ln wt n - W k by omega) (show teN A ln wt n - W k < 2 ^ 31 by omega), m_wi]
  rw [show (9999 : Int32) = nI 9999 from rfl, wi_id (by omega) (by decide), e, Nat.sub_sub]
theorem m_crit (h : Lay L σ) {n m t : Nat} (R : RK (F 100) n m t) (hW : WS (aN (F 100)) (sN (F 100) m t) (wN (F 100) t) W n) : ∃ F', cI (d + 7) 172 [.ref 99] (F, J, σ) = some (nI (crN (aN (F 100)) (sN (F 100) m t) (wN (F 100) t) W (teN (aN (F 100)) (sN (F 100) m t) (wN (F 100) t) n) n), (F', J, σ)) ∧ ∀ b, b < 111 ∨ 119 < b ∨ (114 < b ∧ b < 118) → F' b = F b := by
  have n10 := R.1.1
  obtain ⟨F1, a1, a2, a3⟩ := m_latest (d := d) (J := J) h R hW
  have o100 := a2 100 (by omega)
  have t9 : True ∧ 99 < 999999 := ⟨trivial, by decide⟩
  obtain ⟨E, eE⟩ : ∃ E, E = teN (aN (F 100)) (sN (F 100) m t) (wN (F 100) t) n := ⟨_, rfl⟩
  have hE := teN_le (A := aN (F 100)) (LW_s R)
  have go : ∀ r k, k + r = n → Rn (d + 7) 172 (8, [.ref 99, .int (nI (crN (aN (F 100)) (sN (F 100) m t) (wN (F 100) t) W E k)), .int (nI k)], [], (F1, J, σ)) = some (some (.int (nI (crN (aN (F 100)) (sN (F 100) m t) (wN (F 100) t) W E n))), (F1, J, σ)) := by
    intro r
    induction r with
    | zero =>
      intro k e
      rw [q_172_8 (d + 6)]
      simp only [mS, mR, Y_99 h, Z_99_0 h, if_true, show rdI (F1, J, σ) 100 0 = some (F1 100 0) from rd_100 (i := 0) h (by decide), o100, R.1.2.1, Option.bind_some]
      rw [if_pos (yle (by omega) (by omega)), show k = n by omega]
    | succ r ih =>
      intro k e
      have hk : k < n := by omega
      have h1 := ih (k + 1) (by omega)
      rw [show crN (aN (F 100)) (sN (F 100) m t) (wN (F 100) t) W E (k + 1) = if enN (aN (F 100)) (sN (F 100) m t) (wN (F 100) t) k + W k = E then crN (aN (F 100)) (sN (F 100) m t) (wN (F 100) t) W E k + 2 ^ k else crN (aN (F 100)) (sN (F 100) m t) (wN (F 100) t) W E k from rfl] at h1
      have hw := en_W hW (n - k) k (by omega) hk
      obtain ⟨g1, g2, g3⟩ := a3 k hk
      have ms := m_slack (d := d + 5) (m := m) (t := t) (J := J) h n10 (LW_s R) hW hk g1 g2 g3
      rw [← eE] at hw hE ms
      rw [q_172_8 (d + 6)]
      simp only [mS, mR, Y_99 h, Z_99_0 h, if_true, if_pos t9, show rdI (F1, J, σ) 100 0 = some (F1 100 0) from rd_100 (i := 0) h (by decide), o100, R.1.2.1, Option.bind_some, ms, nI_s, orI k (by omega) _ (crN_lt k), Int32.or_zero]
      rw [if_neg (nle hk (by omega))]
      by_cases c : enN (aN (F 100)) (sN (F 100) m t) (wN (F 100) t) k + W k = E
      · rw [if_pos c] at h1
        rw [if_pos (by rw [show E - W k - enN (aN (F 100)) (sN (F 100) m t) (wN (F 100) t) k = 0 by omega]; rfl)]
        exact h1
      · rw [if_neg c] at h1
        rw [if_neg (fun z : nI _ = (0 : Int32) => by have := (nI_eq (b := 0) (by omega) (by decide)).mp z; omega)]
        exact h1
  refine ⟨F1, ?_, a2⟩
  refine i_172 (d := d + 6) ?_
  rw [q_172_0 (d + 6)]
  simp only [mS, Y_99 h, if_pos t9, a1, Option.bind_some]
  rw [← eE]
  exact go n 0 (by omega)
theorem op_critical : OpI (Inv L xs) 95 173 0 := op0 fun q F J σ hq I => by
  have h := I.lay
  have hp := PL_1 h
  obtain ⟨n, m, t, P, B, T, z⟩ := I.rw
  obtain ⟨F1, W, a1, a2, a3⟩ := c_crit (d := 94) (J := J) h hp (by decide) I.ta.1 P B T
  have o100 := a2 100 (by omega)
  have R := RK_of P B T
  obtain ⟨F2, b1, b2⟩ := m_crit (d := 92) (F := F1) (J := J) h (by rw [o100]; exact R) (by rw [o100]; exact a3)
  rw [o100] at b1
  have t5 : True ∧ 55 < 999999 := ⟨trivial, by decide⟩
  have t9 : True ∧ 99 < 999999 := ⟨trivial, by decide⟩
  refine ⟨nI (crN (aN (F 100)) (sN (F 100) m t) (wN (F 100) t) W (teN (aN (F 100)) (sN (F 100) m t) (wN (F 100) t) n) n), F1, J, σ, F2, J, σ, i_95 (d := 99) ?_, h, a2 _ (by omega), i_173 (d := 99) ?_, IV_scr I (fun b hb => by rw [b2 b (by omega), a2 b (by omega)])⟩
  · rw [q_95_0 99]
    simp only [mS, mR, Y_0 h, Z_0_0 h, Z_0_4 h, Y_55 h, if_true, if_pos t5, a1, Option.bind_some]
  · rw [q_173_0 99]
    simp only [mS, Y_99 h, if_pos t9, b1, Option.bind_some]
theorem op_count : OpI (Inv L xs) 121 229 1 := op1 fun q F J σ x hq I => by
  have h := I.lay
  have hp := PL_1 h
  obtain ⟨n, m, t, P, B, T, z⟩ := I.rw
  obtain ⟨l, t1, t2, t3, t4⟩ := I.tp
  obtain ⟨w, w1, w2, w3, w4⟩ := I.wt
  have n10 := P.1
  have R := RK_of P B T
  have t5 : True ∧ 55 < 999999 := ⟨trivial, by decide⟩
  have t9 : True ∧ 99 < 999999 := ⟨trivial, by decide⟩
  by_cases x2 : x = 2
  · subst x2
    obtain ⟨F1, W, a1, a2, a3⟩ := c_crit (d := 94) (J := J) h hp (by decide) I.ta.1 P B T
    have o100 := a2 100 (by omega)
    obtain ⟨F2, b1, b2⟩ := m_crit (d := 92) (F := F1) (J := J) h (by rw [o100]; exact R) (by rw [o100]; exact a3)
    rw [o100] at b1
    obtain ⟨C, eC⟩ : ∃ C, C = crN (aN (F 100)) (sN (F 100) m t) (wN (F 100) t) W (teN (aN (F 100)) (sN (F 100) m t) (wN (F 100) t) n) n := ⟨_, rfl⟩
    have hC : C < 2 ^ n := by rw [eC]; exact crN_lt n
    have h2 : 2 ^ n ≤ 2 ^ 10 := Nat.pow_le_pow_right (by decide) n10
    rw [← eC] at a1 b1
    refine ⟨nI (pcN C 10), F1, J, σ, F2, J, σ, ?_, h, a2 _ (by omega), ?_, IV_scr I (fun b hb => by rw [b2 b (by omega), a2 b (by omega)])⟩
    · refine i_121 (d := 99) ?_
      rw [q_121_0 99, if_neg (by decide), if_neg (by decide), if_pos rfl]
      simp only [mS, mR, Y_0 h, Z_0_0 h, Z_0_4 h, Y_55 h, if_true, if_pos t5, a1, Option.bind_some, c_bits, bc_pc C (by omega)]
    · refine i_229 (d := 99) ?_
      rw [q_229_0 99, if_neg (by decide), if_neg (by decide), if_pos rfl]
      simp only [mS, Y_99 h, if_pos t9, b1, Option.bind_some, m_ones (show C < 2 ^ 31 by omega)]
  · have n0 : rdI (F, J, σ) 100 0 = some (F 100 0) := rd_100 (i := 0) h (by decide)
    have n1 : rdI (F, J, σ) 100 1 = some (F 100 1) := rd_100 (i := 1) h (by decide)
    have n2 : rdI (F, J, σ) 100 2 = some (F 100 2) := rd_100 (i := 2) h (by decide)
    have n3 : rdI (F, J, σ) 100 3 = some (F 100 3) := rd_100 (i := 3) h (by decide)
    refine ⟨if x = 0 then nI n else if x = 1 then nI m else if x = 3 then nI t else if x = 4 then nI w else if x = 5 then nI l else if x = 6 then F 100 3 else -1000000001, F, J, σ, F, J, σ, ?_, h, rfl, ?_, I.up⟩
    · refine i_121 (d := 99) ?_
      rw [q_121_0 99]
      simp only [mS, mR, mF, Y_0 h, Z_0_0 h, hp.y0, hp.z2, hp.y2, if_true, P.2.2.1, T.2.2.1, w2, t2, z, show F (1 + 2) 3 = nI m from B.2.2.1, if_neg x2]
      split
      · rfl
      · split
        · rfl
        · split
          · rfl
          · split
            · rfl
            · split
              · rfl
              · split <;> rfl
    · refine i_229 (d := 99) ?_
      rw [q_229_0 99]
      simp only [mS, mR, mF, Y_99 h, Z_99_0 h, if_true, n0, n1, n2, n3, P.2.1, B.2.1, T.2.1, w3, t3, Option.bind_some, if_neg x2]
      split
      · rfl
      · split
        · rfl
        · split
          · rfl
          · split
            · rfl
            · split
              · rfl
              · split <;> rfl
end OPQ
