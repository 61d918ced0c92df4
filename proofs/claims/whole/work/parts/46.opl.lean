/-! POUR. -/
section OPL
variable {L d : Nat} {F F' : Nat → Nat → Int32} {J : Nat → Nat → Int64} {σ : aSg} {μ : aMem} {s s' xs : Nat → Int32}
theorem RW_fld {p n m t k j : Nat} {v : Int32} (hp : p + 17 < 100) (P : PR F p s n) (B : BR F p s m) (T : TR F σ p s t) (z : F p 6 = s 3) (hk : k < n) (hj : j < 5) (hv : PK (up1 s (4 + 5 * k + j) v) k) : PR (up1 F (p + 8 + k) (up1 (F (p + 8 + k)) j v)) p (up1 s (4 + 5 * k + j) v) n ∧ BR (up1 F (p + 8 + k) (up1 (F (p + 8 + k)) j v)) p (up1 s (4 + 5 * k + j) v) m ∧ TR (up1 F (p + 8 + k) (up1 (F (p + 8 + k)) j v)) σ p (up1 s (4 + 5 * k + j) v) t ∧ up1 F (p + 8 + k) (up1 (F (p + 8 + k)) j v) p 6 = up1 s (4 + 5 * k + j) v 3 := by
  have n10 := P.1
  have hs : ∀ i, i < 4 + 5 * k + j ∨ 4 + 5 * k + j < i → up1 s (4 + 5 * k + j) v i = s i := fun i e => up1_n _ _ (by omega)
  refine ⟨?_, ?_, ?_, ?_⟩
  · obtain ⟨p1, p2, p3, p4, p5⟩ := P
    refine ⟨p1, (hs 0 (by omega)).trans p2, by rw [up1_ne _ _ (by omega)]; exact p3, fun k' hk' j' hj' => ?_, fun k' hk' => ?_⟩
    · by_cases e : k' = k
      · subst e
        rw [up1_s]
        by_cases e2 : j' = j
        · rw [e2, up1_s, up1_s]
        · rw [up1_n _ _ e2, hs _ (by omega)]; exact p4 k' hk' j' hj'
      · rw [up1_ne _ _ (by omega), hs _ (by omega)]; exact p4 k' hk' j' hj'
    · by_cases e : k' = k
      · rw [e]; exact hv
      · exact PK_other e hj (p5 k' hk')
  · obtain ⟨b1, b2, b3, b4⟩ := B
    refine ⟨b1, (hs 1 (by omega)).trans b2, by rw [up1_ne _ _ (by omega)]; exact b3, fun i hi => ?_⟩
    rw [hs _ (by omega), hs _ (by omega), hs _ (by omega), up1_ne _ _ (by omega), up1_ne _ _ (by omega), up1_ne _ _ (by omega)]
    exact b4 i hi
  · obtain ⟨t1, t2, t3, t4, t5⟩ := T
    refine ⟨t1, (hs 2 (by omega)).trans t2, by rw [up1_ne _ _ (by omega)]; exact t3, fun i hi => TX_cg (fun x h1 h2' => up1_ne _ _ (by omega)) (fun j hj => hs _ (by omega)) (t4 i hi), fun k' hk' => ?_⟩
    rw [up1_ne _ _ (by omega), t5 k' hk', cntS_cg t _ (fun i hi => hs _ (by omega))]
  · rw [up1_ne _ _ (by omega), hs _ (by omega)]; exact z
def wi99 (v : Int32) : Int32 := if v < 0 then 0 else if 99 < v then 99 else v
theorem hol99 (v : Int32) : (if (0 : Int32) < (if v < 99 then v else 99) then (if v < 99 then v else 99) else 0) = wi99 v := by
  unfold wi99
  by_cases h1 : v < 99
  · rw [if_pos h1]
    by_cases h2 : (0 : Int32) < v
    · rw [if_pos h2, if_neg (Int32.not_lt.mpr (Int32.le_of_lt h2)), if_neg (Int32.not_lt.mpr (Int32.le_of_lt h1))]
    · rw [if_neg h2]
      by_cases h3 : v < 0
      · rw [if_pos h3]
      · rw [if_neg h3, if_neg (Int32.not_lt.mpr (Int32.le_of_lt h1))]
        exact Int32.le_antisymm (Int32.not_lt.mp h3) (Int32.not_lt.mp h2)
  · rw [if_neg h1, if_pos (by decide), if_neg (Int32.not_lt.mpr (Int32.le_trans (by decide) (Int32.not_lt.mp h1)))]
    by_cases h2 : 99 < v
    · rw [if_pos h2]
    · rw [if_neg h2]
      exact Int32.le_antisymm (Int32.not_lt.mp h1) (Int32.not_lt.mp h2)
theorem m_w99 (v : Int32) : cI d 134 [.int v, .int 99] μ = some (wi99 v, μ) := m_within v 99
theorem wi99_in (v : Int32) : 0 ≤ wi99 v ∧ wi99 v ≤ 99 := by
  unfold wi99
  by_cases h1 : v < 0
  · rw [if_pos h1]; decide
  · rw [if_neg h1]
    by_cases h2 : 99 < v
    · rw [if_pos h2]; decide
    · rw [if_neg h2]; exact ⟨Int32.not_lt.mp h1, Int32.not_lt.mp h2⟩
def poG (f s : Nat → Int32) (k : Nat) : Int32 := if f k = -1000000005 then s (4 + 5 * k + 1) else wi99 (f k)
def poC (f s : Nat → Int32) (k : Nat) (c : Int32) : Int32 := if poG f s k = s (4 + 5 * k + 1) then c else c + 1
def poN (f : Nat → Int32) : Nat → Nat → (Nat → Int32) → Int32 → (Nat → Int32) × Int32
  | 0, _, s, c => (s, c)
  | r + 1, k, s, c => poN f r (k + 1) (up1 s (4 + 5 * k + 1) (poG f s k)) (poC f s k c)
theorem up1_self {α : Type} (f : Nat → α) (k : Nat) : up1 f k (f k) = f := by
  funext j
  unfold up1
  by_cases h : j = k
  · rw [if_pos h, h]
  · rw [if_neg h]
theorem c_pourL (h : Lay L σ) {i z M n : Nat} (hi : i < 4) (f : Nat → Int32) (x : Int32) (hz : z ≤ 24) (hMz : M ≤ z) (hMn : M ≤ n) : ∀ (r k : Nat) (F : Nat → Nat → Int32) (s : Nat → Int32) (c : Int32) (w6 w7 : Value), RW F σ 1 s → s 0 = nI n → n ≤ 10 → F (70 + 2 * i) 2 = nI z → (∀ j, j < 24 → F (71 + 2 * i) j = f j) → k + r = M → ∃ F', Rn 100 110 (46, [.ref 0, .int x, .ref (70 + 2 * i), .int c, .int (nI M), .int (nI k), w6, w7], [], (F, J, σ)) = some (some (.int (poN f r k s c).2), (F', J, σ)) ∧ RW F' σ 1 (poN f r k s c).1 ∧ ∀ a, a < 1 ∨ 1 + 17 < a → F' a = F a
  | 0, k, F, s, c, w6, w7, R, h0, h10, hF2, hf, e => by
    refine ⟨F, ?_, R, fun a _ => rfl⟩
    rw [q_110_46 99, if_pos (yle (by omega) (by omega))]
    rfl
  | r + 1, k, F, s, c, w6, w7, R, h0, h10, hF2, hf, e => by
    have hp := PL_1 h
    obtain ⟨n', m, t, P, B, T, zz⟩ := R
    have en := PR_n P h0 (by omega)
    subst en
    have fk : F (1 + 8 + k) 1 = s (4 + 5 * k + 1) := P.2.2.2.1 k (by omega) 1 (by decide)
    have t2 : True ∧ 70 + 2 * i < 999999 := ⟨trivial, by omega⟩
    have ck : 0 ≤ nI k ∧ nI k < nI z := ⟨yle (a := 0) (by omega) (by omega), ylt (by omega) (by omega)⟩
    have ek : (nI k).toInt.toNat = k := by rw [nI_toInt (by omega), Int.toNat_natCast]
    have ne1 : F (71 + 2 * i) k = f k := hf k (by omega)
    have pk : PK (up1 s (4 + 5 * k + 1) (poG f s k)) k := by
      refine PK_at (P.2.2.2.2 k (by omega)) ⟨fun e => absurd e (by decide), fun _ => ?_, fun e => absurd e (by decide), fun e => absurd e (by decide), fun e => absurd e (by decide)⟩ (by decide)
      unfold poG
      by_cases c1 : f k = -1000000005
      · rw [if_pos c1]; exact (P.2.2.2.2 k (by omega)).2.1
      · rw [if_neg c1]; exact wi99_in _
    obtain ⟨P', B', T', z'⟩ := RW_fld (by decide) P B T zz (show k < n' by omega) (show 1 < 5 by decide) pk
    have hcn := c_isNumber (d := 98) (F := F) (J := J) (S_y h i hi) (by omega) (S_c h i hi) (S_yc h i hi) hF2 hz (nI k)
    rw [ek, ne1] at hcn
    have eq0 : ∀ v, v = s (4 + 5 * k + 1) → up1 F (1 + 8 + k) (up1 (F (1 + 8 + k)) 1 v) = F := fun v ev => by rw [ev, ← fk, up1_self, up1_self]
    have step : ∃ w6' w7', Rn 100 110 (46, [.ref 0, .int x, .ref (70 + 2 * i), .int c, .int (nI M), .int (nI k), w6, w7], [], (F, J, σ)) = Rn 100 110 (46, [.ref 0, .int x, .ref (70 + 2 * i), .int (poC f s k c), .int (nI M), .int (nI (k + 1)), w6', w7'], [], (up1 F (1 + 8 + k) (up1 (F (1 + 8 + k)) 1 (poG f s k)), J, σ)) := by
      rw [q_110_46 99, if_neg (nle (by omega) (by omega))]
      simp only [mS, mR, mF, Y_0 h, Z_0_0 h, hp.y0, hp.z0, hp.y1, ix_nI (show k < 2 ^ 31 by omega), hp.zk (show k < 10 by omega), hp.yk (show k < 10 by omega), S_y h i hi, S_c h i hi, if_pos t2, if_true, hcn, Option.bind_some, b2i_0, fk, nI_s, c_held (show (0 : Int32) ≤ 99 by decide), hol99, setF_up, rd_k (S_yc h i hi) (show k < 24 by omega) (by decide), ne1]
      rw [if_pos ⟨by decide, by decide, inb_nI (by omega) (by decide)⟩]
      by_cases c1 : f k = -1000000005
      · have g : poG f s k = s (4 + 5 * k + 1) := if_pos c1
        rw [if_pos (fun hh => hh.2 c1), show poC f s k c = c from if_pos g, g, eq0 _ rfl]
        exact ⟨_, _, rfl⟩
      · have g : poG f s k = wi99 (f k) := if_neg c1
        rw [if_neg (not_not_intro ⟨ck, c1⟩)]
        by_cases c2 : wi99 (f k) = s (4 + 5 * k + 1)
        · rw [if_pos c2, show poC f s k c = c from if_pos (g.trans c2), g, eq0 _ c2]
          exact ⟨_, _, rfl⟩
        · rw [if_neg c2, show poC f s k c = c + 1 from if_neg (fun hh => c2 (g.symm.trans hh)), g]
          exact ⟨_, _, rfl⟩
    obtain ⟨w6', w7', step⟩ := step
    obtain ⟨F', g1, g2, g3⟩ := c_pourL h hi f x hz hMz hMn r (k + 1) _ (up1 s (4 + 5 * k + 1) (poG f s k)) (poC f s k c) w6' w7' ⟨n', m, t, P', B', T', z'⟩ (by rw [up1_n _ _ (by omega)]; exact h0) h10 (by rw [up1_ne _ _ (by omega)]; exact hF2) (fun j hj => by rw [up1_ne _ _ (by omega)]; exact hf j hj) (by omega)
    exact ⟨F', step.trans g1, g2, fun a ha => by rw [g3 a ha, up1_ne _ _ (by omega)]⟩
theorem m_pourL (h : Lay L σ) {i z M n : Nat} (hi : i < 4) (f : Nat → Int32) (hz : z ≤ 24) (n10 : n ≤ 10) (hM : (M ≤ z ∧ M ≤ n) ∧ (M = z ∨ M = n)) : ∀ (r k : Nat) (F : Nat → Nat → Int32) (c : Int32) (w4 w5 : Value), F 100 0 = nI n → F 104 i = nI z → (∀ j, j < 24 → F 105 (24 * i + j) = f j) → k + r = M → Rn 100 216 (27, [.ref 99, .int (nI i), .int c, .int (nI k), w4, w5], [], (F, J, σ)) = some (some (.int (poN f r k (F 100) c).2), (up1 F 100 (poN f r k (F 100) c).1, J, σ))
  | 0, k, F, c, w4, w5, h0, h4, hf, e => by
    rw [q_216_27 99]
    simp only [mS, mR, Y_99 h, Z_99_5 h, Z_99_0 h, rd_104 h hi, h4, Option.bind_some, if_true, show rdI (F, J, σ) 100 0 = some (F 100 0) from rd_100 (i := 0) h (by decide), h0]
    have eF : up1 F 100 (poN f 0 k (F 100) c).1 = F := up1_self F 100
    rw [eF]
    by_cases c1 : z ≤ k
    · rw [if_pos (yle c1 (by omega))]; rfl
    · rw [if_neg (nle (by omega) (by omega)), if_pos (yle (by omega) (by omega))]; rfl
  | r + 1, k, F, c, w4, w5, h0, h4, hf, e => by
    have t9 : True ∧ 99 < 999999 := ⟨trivial, by decide⟩
    have e1 : ∀ v, cI 99 137 [.ref 99, .int (nI (4 + 5 * k + 1)), .int v] (F, J, σ) = some (F 100 (4 + 5 * k + 1), (uF F 100 (4 + 5 * k + 1) v, J, σ)) := fun v => m_becomes h (by omega) v
    have e0 : cI 99 139 [.ref 99, .int (nI k), .int 1] (F, J, σ) = some (F 100 (4 + 5 * k + 1), (F, J, σ)) := m_of (w := 1) h (by omega) (by decide)
    have step : ∃ w4' w5', Rn 100 216 (27, [.ref 99, .int (nI i), .int c, .int (nI k), w4, w5], [], (F, J, σ)) = Rn 100 216 (27, [.ref 99, .int (nI i), .int (poC f (F 100) k c), .int (nI (k + 1)), w4', w5'], [], (up1 F 100 (up1 (F 100) (4 + 5 * k + 1) (poG f (F 100) k)), J, σ)) := by
      rw [q_216_27 99]
      simp only [mS, mR, Y_99 h, Z_99_5 h, Z_99_0 h, Z_99_6 h, rd_104 h hi, h4, Option.bind_some, if_true, show rdI (F, J, σ) 100 0 = some (F 100 0) from rd_100 (i := 0) h (by decide), h0, i24, rd_105 h (show 24 * i + k < 96 by omega), hf k (by omega), if_pos t9, e0, m_w99, i5_, nI_s, e1, Int32.add_zero]
      rw [if_neg (nle (by omega) (by omega)), if_neg (nle (by omega) (by omega))]
      by_cases c1 : f k = -1000000005
      · have g : poG f (F 100) k = F 100 (4 + 5 * k + 1) := if_pos c1
        rw [if_pos c1, show poC f (F 100) k c = c from if_pos g, g]
        exact ⟨_, _, rfl⟩
      · have g : poG f (F 100) k = wi99 (f k) := if_neg c1
        rw [if_neg c1]
        by_cases c2 : wi99 (f k) = F 100 (4 + 5 * k + 1)
        · rw [if_pos c2, show poC f (F 100) k c = c from if_pos (g.trans c2), g]
          exact ⟨_, _, rfl⟩
        · rw [if_neg c2, show poC f (F 100) k c = c + 1 from if_neg (fun hh => c2 (g.symm.trans hh)), g]
          exact ⟨_, _, rfl⟩
    obtain ⟨w4', w5', step⟩ := step
    rw [step, m_pourL h hi f hz n10 hM r (k + 1) _ (poC f (F 100) k c) w4' w5' (by rw [up1_s, up1_n _ _ (by omega)]; exact h0) (by rw [up1_ne _ _ (by decide)]; exact h4) (fun j hj => by rw [up1_ne _ _ (by decide)]; exact hf j hj) (by omega), up1_s, up1_up1]
    rfl
theorem op_pour : OpI (Inv L xs) 110 216 1 := op1 fun q F J σ x hq I => by
  have h := I.lay
  have hp := PL_1 h
  have t0 : True ∧ 0 < 999999 := ⟨trivial, by decide⟩
  by_cases h1 : 0 ≤ x ∧ x ≤ 3
  · obtain ⟨i, hi, rfl⟩ := three4 h1
    have ei : (nI i).toInt.toNat = i := by rw [nI_toInt (by omega), Int.toNat_natCast]
    have lei : 70 + 2 * i ≤ 999999 := by omega
    have nei : ¬ 70 + 2 * i = 999999 := by omega
    obtain ⟨z, z1, z2, z3, z4, z5, z6⟩ := I.sh i hi
    by_cases a1 : F 103 i = -1
    · refine ⟨-1000000011, F, J, σ, F, J, σ, ?_, h, rfl, ?_, I.up⟩
      · refine i_110 (d := 99) ?_
        rw [q_110_0 99, c_sheetAt (d := 98) h]
        simp only [mS, mF, Y_0 h, Option.bind_some, if_pos h1, ei, if_pos t0, if_pos lei, if_neg nei, S_y h i hi, z2, if_true]
        rw [if_pos a1]
      · refine i_216 (d := 99) ?_
        rw [q_216_0 99, m_isSheet (d := 98)]
        simp only [Option.bind_some, b2i_0, mS, mR, Y_99 h, Z_99_4 h, rd_103 h hi, if_true]
        rw [if_neg (not_not_intro h1), if_neg (by rw [a1]; decide)]
    · have a2 : 0 ≤ F 103 i := by rcases z5 with c | c | c; exact absurd c a1; rw [c]; decide; rw [c]; decide
      obtain ⟨n, m, t, P, B, T, zz⟩ := I.rw
      have n10 := P.1
      obtain ⟨M, eM⟩ : ∃ M, M = if z < n then z else n := ⟨_, rfl⟩
      have hM : (M ≤ z ∧ M ≤ n) ∧ (M = z ∨ M = n) := by
        by_cases c : z < n
        · rw [if_pos c] at eM; omega
        · rw [if_neg c] at eM; omega
      obtain ⟨F1, e1, R1, f1⟩ := c_pourL (J := J) h hi (fun j => F 105 (24 * i + j)) (nI i) z1 hM.1.1 hM.1.2 M 0 F (F 100) 0 un un I.rw P.2.1 P.1 z3 (fun j hj => (z6 j hj).1) (by omega)
      have o : ∀ a, 18 < a → F1 a = F a := fun a ha => f1 a (by omega)
      have e2 := m_pourL (J := J) h hi (fun j => F 105 (24 * i + j)) z1 P.1 hM M 0 F1 0 un un (by rw [o 100 (by omega)]; exact P.2.1) (by rw [o 104 (by omega)]; exact z4) (fun j hj => by rw [o 105 (by omega)]) (by omega)
      rw [o 100 (by omega)] at e2
      refine ⟨(poN (fun j => F 105 (24 * i + j)) M 0 (F 100) 0).2, F1, J, σ, up1 F1 100 (poN (fun j => F 105 (24 * i + j)) M 0 (F 100) 0).1, J, σ, ?_, h, o _ (by omega), i_216 (d := 99) ?_, ?_⟩
      · refine i_110 (d := 99) ?_
        rw [q_110_0 99, c_sheetAt (d := 98) h]
        simp only [mS, mR, mF, Y_0 h, Z_0_0 h, hp.y0, Option.bind_some, if_pos h1, ei, if_pos t0, if_pos lei, if_neg nei, S_y h i hi, z2, z3, P.2.2.1, if_true]
        rw [if_neg a1]
        have em : (if nI z < nI n then nI z else nI n) = nI M := by
          by_cases c : z < n
          · rw [if_pos (ylt c (by omega)), eM, if_pos c]
          · rw [if_neg (nlt (by omega) (by omega)), eM, if_neg c]
        rw [em]
        exact e1
      · rw [q_216_0 99, m_isSheet (d := 98)]
        simp only [Option.bind_some, b2i_0, mS, mR, Y_99 h, Z_99_4 h, rd_103 h hi, o 103 (by omega), if_true]
        rw [if_neg (not_not_intro h1), if_pos a2]
        exact e2
      · refine IV_row I (fun a ha => by rw [up1_ne _ _ (by omega), f1 a (by omega)]) (by unfold k99; rw [up1_ne _ _ (by decide), o 99 (by omega)]; exact ⟨rfl, rfl, rfl⟩) ?_
        rw [up1_s]
        exact RW_up R1 (by omega) (by omega)
  · refine ⟨-1000000001, F, J, σ, F, J, σ, ?_, h, rfl, ?_, I.up⟩
    · refine i_110 (d := 99) ?_
      rw [q_110_0 99, c_sheetAt (d := 98) h]
      simp only [mS, Y_0 h, Option.bind_some, if_neg h1, if_pos t0]
      rfl
    · refine i_216 (d := 99) ?_
      rw [q_216_0 99, m_isSheet (d := 98)]
      simp only [Option.bind_some, b2i_0]
      rw [if_pos h1]
end OPL
