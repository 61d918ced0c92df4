/-! WAITS; WHAT IS SAID, THE MODEL. -/
section WAITS
variable {L d : Nat} {F F' : Nat → Nat → Int32} {J : Nat → Nat → Int64} {σ : aSg} {μ : aMem} {s s' xs : Nat → Int32}
def bcE (x0 : Int32) : Int32 := ((((((((x0 - ((((x0 : Int32).toUInt32 >>> ((1 : Int32).toUInt32 &&& Int32.toUInt32 31)).toInt32) &&& 1431655765)) &&& 858993459) + ((((x0 - ((((x0 : Int32).toUInt32 >>> ((1 : Int32).toUInt32 &&& Int32.toUInt32 31)).toInt32) &&& 1431655765) : Int32).toUInt32 >>> ((2 : Int32).toUInt32 &&& Int32.toUInt32 31)).toInt32) &&& 858993459)) + (((((x0 - ((((x0 : Int32).toUInt32 >>> ((1 : Int32).toUInt32 &&& Int32.toUInt32 31)).toInt32) &&& 1431655765)) &&& 858993459) + ((((x0 - ((((x0 : Int32).toUInt32 >>> ((1 : Int32).toUInt32 &&& Int32.toUInt32 31)).toInt32) &&& 1431655765) : Int32).toUInt32 >>> ((2 : Int32).toUInt32 &&& Int32.toUInt32 31)).toInt32) &&& 858993459) : Int32).toUInt32 >>> ((4 : Int32).toUInt32 &&& Int32.toUInt32 31)).toInt32)) &&& 252645135) + (((((((x0 - ((((x0 : Int32).toUInt32 >>> ((1 : Int32).toUInt32 &&& Int32.toUInt32 31)).toInt32) &&& 1431655765)) &&& 858993459) + ((((x0 - ((((x0 : Int32).toUInt32 >>> ((1 : Int32).toUInt32 &&& Int32.toUInt32 31)).toInt32) &&& 1431655765) : Int32).toUInt32 >>> ((2 : Int32).toUInt32 &&& Int32.toUInt32 31)).toInt32) &&& 858993459)) + (((((x0 - ((((x0 : Int32).toUInt32 >>> ((1 : Int32).toUInt32 &&& Int32.toUInt32 31)).toInt32) &&& 1431655765)) &&& 858993459) + ((((x0 - ((((x0 : Int32).toUInt32 >>> ((1 : Int32).toUInt32 &&& Int32.toUInt32 31)).toInt32) &&& 1431655765) : Int32).toUInt32 >>> ((2 : Int32).toUInt32 &&& Int32.toUInt32 31)).toInt32) &&& 858993459) : Int32).toUInt32 >>> ((4 : Int32).toUInt32 &&& Int32.toUInt32 31)).toInt32)) &&& 252645135 : Int32).toUInt32 >>> ((8 : Int32).toUInt32 &&& Int32.toUInt32 31)).toInt32)) + ((((((((x0 - ((((x0 : Int32).toUInt32 >>> ((1 : Int32).toUInt32 &&& Int32.toUInt32 31)).toInt32) &&& 1431655765)) &&& 858993459) + ((((x0 - ((((x0 : Int32).toUInt32 >>> ((1 : Int32).toUInt32 &&& Int32.toUInt32 31)).toInt32) &&& 1431655765) : Int32).toUInt32 >>> ((2 : Int32).toUInt32 &&& Int32.toUInt32 31)).toInt32) &&& 858993459)) + (((((x0 - ((((x0 : Int32).toUInt32 >>> ((1 : Int32).toUInt32 &&& Int32.toUInt32 31)).toInt32) &&& 1431655765)) &&& 858993459) + ((((x0 - ((((x0 : Int32).toUInt32 >>> ((1 : Int32).toUInt32 &&& Int32.toUInt32 31)).toInt32) &&& 1431655765) : Int32).toUInt32 >>> ((2 : Int32).toUInt32 &&& Int32.toUInt32 31)).toInt32) &&& 858993459) : Int32).toUInt32 >>> ((4 : Int32).toUInt32 &&& Int32.toUInt32 31)).toInt32)) &&& 252645135) + (((((((x0 - ((((x0 : Int32).toUInt32 >>> ((1 : Int32).toUInt32 &&& Int32.toUInt32 31)).toInt32) &&& 1431655765)) &&& 858993459) + ((((x0 - ((((x0 : Int32).toUInt32 >>> ((1 : Int32).toUInt32 &&& Int32.toUInt32 31)).toInt32) &&& 1431655765) : Int32).toUInt32 >>> ((2 : Int32).toUInt32 &&& Int32.toUInt32 31)).toInt32) &&& 858993459)) + (((((x0 - ((((x0 : Int32).toUInt32 >>> ((1 : Int32).toUInt32 &&& Int32.toUInt32 31)).toInt32) &&& 1431655765)) &&& 858993459) + ((((x0 - ((((x0 : Int32).toUInt32 >>> ((1 : Int32).toUInt32 &&& Int32.toUInt32 31)).toInt32) &&& 1431655765) : Int32).toUInt32 >>> ((2 : Int32).toUInt32 &&& Int32.toUInt32 31)).toInt32) &&& 858993459) : Int32).toUInt32 >>> ((4 : Int32).toUInt32 &&& Int32.toUInt32 31)).toInt32)) &&& 252645135 : Int32).toUInt32 >>> ((8 : Int32).toUInt32 &&& Int32.toUInt32 31)).toInt32) : Int32).toUInt32 >>> ((16 : Int32).toUInt32 &&& Int32.toUInt32 31)).toInt32)) &&& 63)
theorem c_bits (x : Int32) : cI d 230 [.int x] μ = some (bcE x, μ) := by
  refine i_230 ?_
  rw [q_230_0]
  rfl
/-- how many of the first k bits of w are set -/
def pcN (w : Nat) : Nat → Nat
  | 0 => 0
  | k + 1 => pcN w k + w / 2 ^ k % 2
set_option maxRecDepth 100000 in
theorem bc_pc : ∀ w, w < 1024 → bcE (nI w) = nI (pcN w 10) := by decide +kernel
theorem sm32 : ∀ k, k < 32 → ((nI k &&& 31).toBitVec.smod 32).toNat = k := by decide
theorem bitI {w k : Nat} (hw : w < 2 ^ 31) (hk : k < 32) : (nI w >>> (nI k &&& 31)) &&& 1 = nI (w / 2 ^ k % 2) := by
  rw [pk_shrN hw _ k (sm32 k hk), pk_andN (n := w / 2 ^ k) (by have := Nat.div_le_self w (2 ^ k); omega) 1 rfl]
theorem m_ones {w : Nat} (hw : w < 2 ^ 31) : cI d 144 [.int (nI w)] μ = some (nI (pcN w 10), μ) := by
  refine i_144 ?_
  rw [q_144_0]
  have go : ∀ n k, k + n = 10 → Rn d 144 (4, [.int (nI w), .int (nI (pcN w k)), .int (nI k)], [], μ) = some (some (.int (nI (pcN w 10))), μ) := by
    intro n
    induction n with
    | zero =>
      intro k e
      rw [q_144_4, show k = 10 by omega, if_pos (by decide)]
    | succ n ih =>
      intro k e
      rw [q_144_4, if_neg (show ¬ (10 : Int32) ≤ nI k from nle (a := 10) (by omega) (by decide)), bitI hw (by omega), nI_add, nI_s]
      exact ih (k + 1) (by omega)
  exact go 10 0 rfl
def onI (x : Int32) : Int32 := nI (pcN x.toInt.toNat 10)
def waS (s : Nat → Int32) (t k : Nat) : Int32 := if cntS s t 1 < 0 then 0 else wiM (vaT s (cntS s t 1).toInt.toNat (onI (s (4 + 5 * k + 4))) (s (4 + 5 * k + 1)) (s (4 + 5 * k + 2))) 99
theorem ahd_n {n m t k : Nat} (R : RK s n m t) (hk : k < n) : ∃ w, w < 2 ^ k ∧ w < 1024 ∧ s (4 + 5 * k + 4) = nI w := by
  have n10 := R.1.1
  have hp : 2 ^ k ≤ 2 ^ 9 := Nat.pow_le_pow_right (by decide) (by omega)
  obtain ⟨w, h1, h2⟩ := (nI_ex (n := 2 ^ k) (by omega)).mp (R.1.2.2 k hk).2.2.2.2
  exact ⟨w, h1, by omega, h2⟩
theorem onI_n {w : Nat} (hw : w < 1024) : onI (nI w) = nI (pcN w 10) := by
  unfold onI
  rw [nI_toInt (by omega), Int.toNat_natCast]
theorem c_waits (h : Lay L σ) {p n m t k : Nat} (hp : PL σ p) (ta : TA σ p) (P : PR F p s n) (B : BR F p s m) (T : TR F σ p s t) (hk : k < n) : ∃ F', cI (d + 2) 44 [.ref 55, .ref p, .ref (p + 8 + k)] (F, J, σ) = some (waS s t k, (F', J, σ)) ∧ ∀ b, b ≠ 62 → F' b = F b := by
  have hlt := hp.lt
  have n10 := P.1
  have t14 := T.1
  have f1 : F (p + 8 + k) 1 = s (4 + 5 * k + 1) := P.2.2.2.1 k hk 1 (by decide)
  have f2 : F (p + 8 + k) 2 = s (4 + 5 * k + 2) := P.2.2.2.1 k hk 2 (by decide)
  have f4 : F (p + 8 + k) 4 = s (4 + 5 * k + 4) := P.2.2.2.1 k hk 4 (by decide)
  have tp : True ∧ p < 999999 := ⟨trivial, by omega⟩
  have t5 : True ∧ 55 < 999999 := ⟨trivial, by decide⟩
  have ct := c_textFor (n := n) (m := m) (d := d) (F := F) (J := J) hp ta T (show 1 < 3 by decide)
  obtain ⟨w, -, hw, ew⟩ := ahd_n (RK_of P B T) hk
  rcases cnt_in (s := s) (key := 1) t T.1 with c | ⟨i, hi, c, ck⟩
  · have h1 : cntS s t 1 < 0 := by rw [c]; decide
    refine ⟨F, ?_, fun b _ => rfl⟩
    refine i_44 (d := d + 1) ?_
    rw [q_44_0 (d + 1)]
    simp only [mS, hp.y0, if_pos tp]
    rw [show cR (d + 1) 16 [.ref p, .int 1] (F, J, σ) = _ from ct]
    have h1' : cntS s t (nI 1) < 0 := h1
    simp only [Option.bind_some, if_pos h1']
    unfold waS
    rw [if_pos h1]
    rfl
  · have h1 : ¬ cntS s t 1 < 0 := by rw [c]; exact nlt (b := 0) (by omega) (by omega)
    have ei : (cntS s t 1).toInt.toNat = i := by rw [c, nI_toInt (by omega), Int.toNat_natCast]
    obtain ⟨K, F', W, e1, e2⟩ := c_value (d := d) (J := J) h (T.2.2.2.1 i hi) (onI (s (4 + 5 * k + 4))) (s (4 + 5 * k + 1)) (s (4 + 5 * k + 2))
    obtain ⟨_, _, ⟨x1, x2, x3⟩, _⟩ := T.2.2.2.1 i hi
    have eo : bcE (s (4 + 5 * k + 4)) = onI (s (4 + 5 * k + 4)) := by rw [ew, bc_pc w hw, onI_n hw]
    refine ⟨F', ?_, e2⟩
    refine i_44 (d := d + 1) ?_
    rw [q_44_0 (d + 1)]
    simp only [mS, hp.y0, if_pos tp]
    rw [show cR (d + 1) 16 [.ref p, .int 1] (F, J, σ) = _ from ct]
    have h1' : ¬ cntS s t (nI 1) < 0 := h1
    have ei' : (cntS s t (nI 1)).toInt.toNat = i := ei
    simp only [Option.bind_some, if_neg h1', ei', mS, mR, mF, hp.yk (show k < 10 by omega), if_true, f1, f2, f4, c_bits, eo, Y_55 h, if_pos t5, e1, c_held (show (0 : Int32) ≤ 99 by decide), hold0 (show (0 : Int32) < 99 by decide)]
    rw [if_pos (by omega), if_neg (by omega)]
    unfold waS
    rw [if_neg h1, ei, vaT_K W]
/-! the model -/
theorem nm0 {f : Nat → Int32} {x y z : Int32} (h1 : f 103 = x) (h2 : f 116 = y) (h3 : f 102 = z) : ∀ i, i < 128 → isNm 0 (nI i) → f i = e3 0 x y z (nI i) := by
  intro i hi hm
  have e : ∀ j, j < 128 → nI i = nI j → i = j := fun j hj q => (nI_eq (by omega) (by omega)).mp q
  rcases hm with ⟨-, q | q | q⟩ | ⟨q, -⟩ | ⟨q, -⟩
  · rw [e 103 (by decide) q, h1]; rfl
  · rw [e 116 (by decide) q, h2]; rfl
  · rw [e 102 (by decide) q, h3]; rfl
  · exact absurd q (by decide)
  · exact absurd q (by decide)
theorem nm1 {f : Nat → Int32} {x y z : Int32} (h1 : f 110 = x) (h2 : f 103 = y) (h3 : f 116 = z) : ∀ i, i < 128 → isNm 1 (nI i) → f i = e3 1 x y z (nI i) := by
  intro i hi hm
  have e : ∀ j, j < 128 → nI i = nI j → i = j := fun j hj q => (nI_eq (by omega) (by omega)).mp q
  rcases hm with ⟨q, -⟩ | ⟨-, q | q | q⟩ | ⟨q, -⟩
  · exact absurd q (by decide)
  · rw [e 110 (by decide) q, h1]; rfl
  · rw [e 103 (by decide) q, h2]; rfl
  · rw [e 116 (by decide) q, h3]; rfl
  · exact absurd q (by decide)
theorem nm2 {f : Nat → Int32} {x y z : Int32} (h1 : f 101 = x) (h2 : f 100 = y) : ∀ i, i < 128 → isNm 2 (nI i) → f i = e3 2 x y z (nI i) := by
  intro i hi hm
  have e : ∀ j, j < 128 → nI i = nI j → i = j := fun j hj q => (nI_eq (by omega) (by omega)).mp q
  rcases hm with ⟨q, -⟩ | ⟨q, -⟩ | ⟨-, q | q⟩
  · exact absurd q (by decide)
  · exact absurd q (by decide)
  · rw [e 101 (by decide) q, h1]; rfl
  · rw [e 100 (by decide) q, h2]; rfl
theorem m_waits (h : Lay L σ) {n m t k : Nat} (R : RK (F 100) n m t) (hk : k < n) : ∃ F', cI (d + 2) 150 [.ref 99, .int (nI k)] (F, J, σ) = some (waS (F 100) t k, (F', J, σ)) ∧ ∀ b, b ≠ 118 → b ≠ 119 → F' b = F b := by
  have n10 := R.1.1
  have t14 := R.2.2.1
  have t9 : True ∧ 99 < 999999 := ⟨trivial, by decide⟩
  have cc := m_counts (d := d) (F := F) (J := J) h R.2.2.2.1 R.2.2.1 1
  rcases cnt_in (s := F 100) (key := 1) t t14 with c | ⟨i, hi, c, ck⟩
  · have h1 : cntS (F 100) t 1 < 0 := by rw [c]; decide
    refine ⟨F, ?_, fun b _ _ => rfl⟩
    refine i_150 (d := d + 1) ?_
    rw [q_150_0 (d + 1)]
    simp only [mS, Y_99 h, if_pos t9, cc, Option.bind_some]
    rw [if_neg (Int32.not_le.mpr h1)]
    unfold waS
    rw [if_pos h1]
  · have h1 : ¬ cntS (F 100) t 1 < 0 := by rw [c]; exact nlt (b := 0) (by omega) (by omega)
    have ei : (cntS (F 100) t 1).toInt.toNat = i := by rw [c, nI_toInt (by omega), Int.toNat_natCast]
    obtain ⟨w, -, hw, ew⟩ := ahd_n R hk
    obtain ⟨K, W⟩ := R.2.2.2.2 i hi
    obtain ⟨G, eG⟩ : ∃ G, G = up1 F 118 (up1 (up1 (up1 (F 118) 110 (onI (F 100 (4 + 5 * k + 4)))) 103 (F 100 (4 + 5 * k + 1))) 116 (F 100 (4 + 5 * k + 2))) := ⟨_, rfl⟩
    have g100 : G 100 = F 100 := by rw [eG, up1_ne _ _ (by decide)]
    have g118 : G 118 = up1 (up1 (up1 (F 118) 110 (onI (F 100 (4 + 5 * k + 4)))) 103 (F 100 (4 + 5 * k + 1))) 116 (F 100 (4 + 5 * k + 2)) := by rw [eG, up1_s]
    obtain ⟨F', e1, e2⟩ := m_worked (d := d) (F := G) (J := J) h (show i < 14 by omega) (onI (F 100 (4 + 5 * k + 4))) (F 100 (4 + 5 * k + 1)) (F 100 (4 + 5 * k + 2)) (by rw [g100]; exact W) (by rw [g100, ck, g118]; exact nm1 rfl rfl rfl)
    rw [g100] at e1
    refine ⟨F', ?_, fun b h1 h2 => by rw [e2 b h2, eG, up1_ne _ _ h1]⟩
    refine i_150 (d := d + 1) ?_
    rw [q_150_0 (d + 1)]
    have o : ∀ (w : Nat) (G : Nat → Nat → Int32), w < 5 → cI (d + 1) 139 [.ref 99, .int (nI k), .int (nI w)] (G, J, σ) = some (G 100 (4 + 5 * k + w), (G, J, σ)) := fun w G hw => m_of h (by omega) hw
    have o1 : ∀ (G : Nat → Nat → Int32), cI (d + 1) 139 [.ref 99, .int (nI k), .int 1] (G, J, σ) = some (G 100 (4 + 5 * k + 1), (G, J, σ)) := fun G => o 1 G (by decide)
    have o2 : ∀ (G : Nat → Nat → Int32), cI (d + 1) 139 [.ref 99, .int (nI k), .int 2] (G, J, σ) = some (G 100 (4 + 5 * k + 2), (G, J, σ)) := fun G => o 2 G (by decide)
    have o4 : ∀ (G : Nat → Nat → Int32), cI (d + 1) 139 [.ref 99, .int (nI k), .int 4] (G, J, σ) = some (G 100 (4 + 5 * k + 4), (G, J, σ)) := fun G => o 4 G (by decide)
    have on : cI (d + 1) 144 [.int (F 100 (4 + 5 * k + 4))] (F, J, σ) = some (onI (F 100 (4 + 5 * k + 4)), (F, J, σ)) := by rw [ew, m_ones (by omega), onI_n hw]
    have tA : True ∧ inb 110 128 := ⟨trivial, by decide⟩
    have tB' : True ∧ inb 103 128 := ⟨trivial, by decide⟩
    have tC' : True ∧ inb 116 128 := ⟨trivial, by decide⟩
    simp only [mS, mR, Y_99 h, if_pos t9, cc, Option.bind_some, if_true, o4, on, o1, o2, Z_99_31 h, Y_118 h, if_pos tA, if_pos tB', if_pos tC', setF_up, up1_s, up1_up1, up1_n _ _ (show 100 ≠ 118 by decide), show ix 110 = 110 from rfl, show ix 103 = 103 from rfl, show ix 116 = 116 from rfl]
    rw [if_pos (Int32.not_lt.mp h1), ← eG, c, e1]
    simp only [Option.bind_some, m_wi]
    unfold waS
    rw [if_neg h1, ei, vaT_K W]
theorem m_says (h : Lay L σ) {n m t k : Nat} (R : RK (F 100) n m t) (hk : k < n) : ∃ F', cI (d + 2) 149 [.ref 99, .int (nI k)] (F, J, σ) = some (saS (F 100) m t k, (F', J, σ)) ∧ ∀ b, b ≠ 118 → b ≠ 119 → F' b = F b := by
  have n10 := R.1.1
  have t14 := R.2.2.1
  have t9 : True ∧ 99 < 999999 := ⟨trivial, by decide⟩
  have cc := m_counts (d := d) (F := F) (J := J) h R.2.2.2.1 R.2.2.1 0
  have o : ∀ (w : Nat) (G : Nat → Nat → Int32), w < 5 → cI (d + 1) 139 [.ref 99, .int (nI k), .int (nI w)] (G, J, σ) = some (G 100 (4 + 5 * k + w), (G, J, σ)) := fun w G hw => m_of h (by omega) hw
  have o0 : ∀ (G : Nat → Nat → Int32), cI (d + 1) 139 [.ref 99, .int (nI k), .int 0] (G, J, σ) = some (G 100 (4 + 5 * k), (G, J, σ)) := fun G => o 0 G (by decide)
  have o1 : ∀ (G : Nat → Nat → Int32), cI (d + 1) 139 [.ref 99, .int (nI k), .int 1] (G, J, σ) = some (G 100 (4 + 5 * k + 1), (G, J, σ)) := fun G => o 1 G (by decide)
  have o2 : ∀ (G : Nat → Nat → Int32), cI (d + 1) 139 [.ref 99, .int (nI k), .int 2] (G, J, σ) = some (G 100 (4 + 5 * k + 2), (G, J, σ)) := fun G => o 2 G (by decide)
  have o3 : ∀ (G : Nat → Nat → Int32), cI (d + 1) 139 [.ref 99, .int (nI k), .int 3] (G, J, σ) = some (G 100 (4 + 5 * k + 3), (G, J, σ)) := fun G => o 3 G (by decide)
  have fc : ∀ (G : Nat → Nat → Int32) x, G 100 = F 100 → cI (d + 1) 147 [.ref 99, .int x] (G, J, σ) = some (facS (F 100) m x, (G, J, σ)) := fun G x hG => by
    rw [m_fac h R.2.1.1 (by rw [hG]; exact R.2.1.2.1), hG]
  rcases cnt_in (s := F 100) (key := 0) t t14 with c | ⟨i, hi, c, ck⟩
  · have h1 : cntS (F 100) t 0 < 0 := by rw [c]; decide
    refine ⟨F, ?_, fun b _ _ => rfl⟩
    refine i_149 (d := d + 1) ?_
    rw [q_149_0 (d + 1)]
    simp only [mS, Y_99 h, if_pos t9, cc, Option.bind_some, o0, o1, o2, o3, if_pos h1, m_wi, fc F _ rfl, m_card]
    unfold saS saK thS
    rw [if_pos h1]
    split
    · rfl
    · split
      · rfl
      · split
        · rfl
        · split
          · rfl
          · split <;> rfl
  · have h1 : ¬ cntS (F 100) t 0 < 0 := by rw [c]; exact nlt (b := 0) (by omega) (by omega)
    have ei : (cntS (F 100) t 0).toInt.toNat = i := by rw [c, nI_toInt (by omega), Int.toNat_natCast]
    obtain ⟨K, W⟩ := R.2.2.2.2 i hi
    obtain ⟨G1, eG1⟩ : ∃ G1, G1 = up1 F 118 (up1 (up1 (F 118) 103 (F 100 (4 + 5 * k + 1))) 116 (F 100 (4 + 5 * k + 2))) := ⟨_, rfl⟩
    obtain ⟨G, eG⟩ : ∃ G, G = up1 F 118 (up1 (up1 (up1 (F 118) 103 (F 100 (4 + 5 * k + 1))) 116 (F 100 (4 + 5 * k + 2))) 102 (facS (F 100) m (-1))) := ⟨_, rfl⟩
    have g100 : G 100 = F 100 := by rw [eG, up1_ne _ _ (by decide)]
    have g118 : G 118 = up1 (up1 (up1 (F 118) 103 (F 100 (4 + 5 * k + 1))) 116 (F 100 (4 + 5 * k + 2))) 102 (facS (F 100) m (-1)) := by rw [eG, up1_s]
    obtain ⟨F', e1, e2⟩ := m_worked (d := d) (F := G) (J := J) h (show i < 14 by omega) (F 100 (4 + 5 * k + 1)) (F 100 (4 + 5 * k + 2)) (facS (F 100) m (-1)) (by rw [g100]; exact W) (by rw [g100, ck, g118]; exact nm0 rfl rfl rfl)
    rw [g100] at e1
    have f100 : F' 100 = F 100 := by rw [e2 100 (by decide), g100]
    refine ⟨F', ?_, fun b h1 h2 => by rw [e2 b h2, eG, up1_ne _ _ h1]⟩
    refine i_149 (d := d + 1) ?_
    rw [q_149_0 (d + 1)]
    have tA : True ∧ inb 102 128 := ⟨trivial, by decide⟩
    have tB' : True ∧ inb 103 128 := ⟨trivial, by decide⟩
    have tC' : True ∧ inb 116 128 := ⟨trivial, by decide⟩
    have f1 := fc (up1 F 118 (up1 (up1 (F 118) 103 (F 100 (4 + 5 * k + 1))) 116 (F 100 (4 + 5 * k + 2)))) (-1) (up1_ne _ _ (by decide))
    simp only [mS, mR, Y_99 h, if_pos t9, cc, Option.bind_some, if_true, o1, o2, if_neg h1, Z_99_31 h, Y_118 h, if_pos tA, if_pos tB', if_pos tC', setF_up, up1_s, up1_up1, up1_n _ _ (show 100 ≠ 118 by decide), show ix 102 = 102 from rfl, show ix 103 = 103 from rfl, show ix 116 = 116 from rfl, f1]
    rw [← eG, c, e1]
    simp only [Option.bind_some, m_wi, mS, Y_99 h, if_pos t9, o0, o2, o3, fc F' _ f100, f100, m_card]
    unfold saS saK thS
    rw [if_neg h1, ei, vaT_K W]
    split
    · rfl
    · split
      · rfl
      · split
        · rfl
        · split
          · rfl
          · split <;> rfl
end WAITS
