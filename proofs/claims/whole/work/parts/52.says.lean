/-! WHAT IS SAID OF ONE PART. -/
section SAYS
variable {L d : Nat} {F F' : Nat → Nat → Int32} {J : Nat → Nat → Int64} {σ : aSg} {μ : aMem} {s s' xs : Nat → Int32}
/-- a row as it may be -/
def RK (s : Nat → Int32) (n m t : Nat) : Prop := (n ≤ 10 ∧ s 0 = nI n ∧ ∀ k, k < n → PK s k) ∧ (m ≤ 20 ∧ s 1 = nI m ∧ ∀ i, i < m → LnK (s (54 + 3 * i)) (s (54 + 3 * i + 1)) (s (54 + 3 * i + 2))) ∧ (t ≤ 14 ∧ s 2 = nI t ∧ ∀ i, i < t → ∃ K, TW s (114 + 200 * i) K)
theorem RK_of {p n m t : Nat} (P : PR F p s n) (B : BR F p s m) (T : TR F σ p s t) : RK s n m t := ⟨⟨P.1, P.2.1, P.2.2.2.2⟩, ⟨B.1, B.2.1, fun i hi => (B.2.2.2 i hi).2.2.2⟩, T.1, T.2.1, fun i hi => by obtain ⟨K, W, _⟩ := T.2.2.2.1 i hi; exact ⟨K, W⟩⟩
def wiM (v M : Int32) : Int32 := if v < 0 then 0 else if M < v then M else v
theorem m_wi (v M : Int32) : cI d 134 [.int v, .int M] μ = some (wiM v M, μ) := m_within v M
theorem hold0 {M : Int32} (hM : 0 < M) (v : Int32) : (if (0 : Int32) < (if v < M then v else M) then (if v < M then v else M) else 0) = wiM v M := by
  unfold wiM
  by_cases h1 : v < M
  · rw [if_pos h1]
    by_cases h2 : (0 : Int32) < v
    · rw [if_pos h2, if_neg (Int32.not_lt.mpr (Int32.le_of_lt h2)), if_neg (Int32.not_lt.mpr (Int32.le_of_lt h1))]
    · rw [if_neg h2]
      by_cases h3 : v < 0
      · rw [if_pos h3]
      · rw [if_neg h3, if_neg (Int32.not_lt.mpr (Int32.le_of_lt h1))]
        exact Int32.le_antisymm (Int32.not_lt.mp h3) (Int32.not_lt.mp h2)
  · rw [if_neg h1, if_pos hM, if_neg (Int32.not_lt.mpr (Int32.le_trans (Int32.le_of_lt hM) (Int32.not_lt.mp h1)))]
    by_cases h2 : M < v
    · rw [if_pos h2]
    · rw [if_neg h2]
      exact Int32.le_antisymm (Int32.not_lt.mp h1) (Int32.not_lt.mp h2)
theorem min_wi {v M : Int32} (h : 0 ≤ v) : (if v < M then v else M) = wiM v M := by
  unfold wiM
  rw [if_neg (Int32.not_lt.mpr h)]
  by_cases h1 : v < M
  · rw [if_pos h1, if_neg (Int32.not_lt.mpr (Int32.le_of_lt h1))]
  · rw [if_neg h1]
    by_cases h2 : M < v
    · rw [if_pos h2]
    · rw [if_neg h2]
      exact Int32.le_antisymm (Int32.not_lt.mp h1) (Int32.not_lt.mp h2)
theorem wiM_n {M : Nat} (hM : M < 2 ^ 31) (v : Int32) : ∃ a, a ≤ M ∧ wiM v (nI M) = nI a := by
  unfold wiM
  by_cases h1 : v < 0
  · rw [if_pos h1]; exact ⟨0, by omega, rfl⟩
  · rw [if_neg h1]
    by_cases h2 : nI M < v
    · rw [if_pos h2]; exact ⟨M, Nat.le_refl _, rfl⟩
    · rw [if_neg h2]
      have e := nI_fo (Int32.not_lt.mp h1)
      refine ⟨_, ?_, e⟩
      have := Int32.le_iff_toInt_le.mp (Int32.not_lt.mp h2)
      rw [nI_toInt hM] at this
      omega
theorem facS_n (m : Nat) (x : Int32) : ∃ b, 1 ≤ b ∧ b ≤ 999 ∧ facS s m x = nI b := by
  unfold facS
  split
  · exact ⟨100, by decide, by decide, rfl⟩
  · generalize 100 * (iter (facF s x) 0 m (0, 0)).2 / (iter (facF s x) 0 m (0, 0)).1 = v
    unfold hol
    by_cases h1 : 1 ≤ v
    · rw [if_pos h1]
      by_cases h2 : v ≤ 999
      · rw [if_pos h2]
        have e := nI_fo (Int32.le_trans (by decide) h1)
        refine ⟨v.toInt.toNat, ?_, ?_, e⟩
        · have : (1 : Int) ≤ v.toInt := Int32.le_iff_toInt_le.mp h1
          omega
        · have : v.toInt ≤ 999 := Int32.le_iff_toInt_le.mp h2
          omega
      · rw [if_neg h2]; exact ⟨999, by decide, by decide, rfl⟩
    · rw [if_neg h1]; exact ⟨1, by decide, by decide, rfl⟩
def vaT (s : Nat → Int32) (i : Nat) (x y z : Int32) : Int32 := vaS s (114 + 200 * i) (s (114 + 200 * i + 2)).toInt.toNat x y z
theorem vaT_K {i K : Nat} (W : TW s (114 + 200 * i) K) (x y z : Int32) : vaS s (114 + 200 * i) K x y z = vaT s i x y z := by
  unfold vaT
  have hK := W.2.2.1
  rw [W.2.1, nI_toInt (by omega), Int.toNat_natCast]
theorem cnt_in {key : Int32} : ∀ t, t ≤ 14 → cntS s t key = -1 ∨ ∃ i, i < t ∧ cntS s t key = nI i ∧ s (114 + 200 * i) = key
  | 0, _ => Or.inl rfl
  | t + 1, h => by
    show (if s (114 + 200 * t) = key then nI t else cntS s t key) = -1 ∨ ∃ i, i < t + 1 ∧ (if s (114 + 200 * t) = key then nI t else cntS s t key) = nI i ∧ _
    by_cases c : s (114 + 200 * t) = key
    · rw [if_pos c]; exact Or.inr ⟨t, by omega, rfl, c⟩
    · rw [if_neg c]
      rcases cnt_in t (by omega) with q | ⟨i, q1, q2⟩
      · exact Or.inl q
      · exact Or.inr ⟨i, by omega, q2⟩
def thS (s : Nat → Int32) (m t k : Nat) : Int32 := if cntS s t 0 < 0 then s (4 + 5 * k + 1) else wiM (vaT s (cntS s t 0).toInt.toNat (s (4 + 5 * k + 1)) (s (4 + 5 * k + 2)) (facS s m (-1))) 999
def saK (s : Nat → Int32) (m k : Nat) (th : Int32) : Int32 := if s (4 + 5 * k) = 1 then wiM (th + s (4 + 5 * k + 2)) 999 else if s (4 + 5 * k) = 2 then wiM (th * facS s m (-1) / 100) 999 else if s (4 + 5 * k) = 3 then 2 * wiM (th + s (4 + 5 * k + 2)) 999 / 3 else if s (4 + 5 * k) = 4 then wiM (th * facS s m (s (4 + 5 * k + 3)) / 100) 999 else if s (4 + 5 * k) = 5 then cdS th else th
def saS (s : Nat → Int32) (m t k : Nat) : Int32 := saK s m k (thS s m t k)
theorem thS_n {n m t k : Nat} (R : RK s n m t) (hk : k < n) : ∃ a, a ≤ 999 ∧ thS s m t k = nI a := by
  unfold thS
  split
  · have g := (R.1.2.2 k hk).2.1
    refine ⟨_, ?_, nI_fo g.1⟩
    have : (s (4 + 5 * k + 1)).toInt ≤ 99 := Int32.le_iff_toInt_le.mp g.2
    omega
  · exact wiM_n (M := 999) (by decide) _
theorem mul_n {a b : Nat} (ha : a ≤ 999) (hb : b ≤ 999) : nI a * nI b / 100 = nI (a * b / 100) ∧ (0 : Int32) ≤ nI (a * b / 100) := by
  have h : a * b ≤ 999 * 999 := Nat.mul_le_mul ha hb
  rw [pk_mul, show (100 : Int32) = nI 100 from rfl, pk_div (by omega) (by decide) (by decide)]
  exact ⟨rfl, yle (a := 0) (by omega) (by omega)⟩
theorem c_textFor {p n m t : Nat} (hp : PL σ p) (ta : TA σ p) (T : TR F σ p s t) {k : Nat} (hk : k < 3) : cR (d + 1) 16 [.ref p, .int (nI k)] (F, J, σ) = some (if cntS s t (nI k) < 0 then 999999 else σ.1 (p + 6) (cntS s t (nI k)).toInt.toNat, (F, J, σ)) := by
  obtain ⟨t1, t2, t3, t4, t5⟩ := T
  have hlt := hp.lt
  refine i_16 ?_
  rw [q_16_0, if_neg (show ¬ nI k < (0 : Int32) from nlt (b := 0) (by omega) (by omega)), if_neg (show ¬ (3 : Int32) ≤ nI k from nle (a := 3) hk (by decide))]
  simp only [mS, mR, hp.y0, hp.z5, if_true]
  rw [rd_k hp.y7 hk (by decide), t5 k hk, Option.bind_some, if_pos ⟨trivial, by omega⟩, c_textAt hp t3 t1 ta, Option.bind_some]
  rcases cnt_in (s := s) (key := nI k) t t1 with c | ⟨i, hi, c, -⟩
  · have h1 : cntS s t (nI k) < 0 := by rw [c]; decide
    have h2 : ¬ (0 ≤ cntS s t (nI k) ∧ cntS s t (nI k) < nI t) := fun q => (Int32.not_le.mpr h1) q.1
    simp only [if_neg h2, if_pos h1]
    rfl
  · have h1 : ¬ cntS s t (nI k) < 0 := by rw [c]; exact nlt (b := 0) (by omega) (by omega)
    have h2 : 0 ≤ cntS s t (nI k) ∧ cntS s t (nI k) < nI t := by rw [c]; exact ⟨yle (a := 0) (by omega) (by omega), ylt hi (by omega)⟩
    have := ta i (by omega)
    simp only [if_pos h2, if_neg h1]
    rw [c, nI_toInt (by omega), Int.toNat_natCast, if_pos (by omega)]
theorem c_cardFor (hP : mS μ 1000000 = (99, 0)) (v : Int32) : cI d 43 [.int v] μ = some (cdS v, μ) := by
  refine i_43 ?_
  rw [q_43_0]
  have st : ∀ (k : Nat) (a : Int32) (X : Int32), k < 10 → sCards.getD k 0 = a → Rn d 43 (2, [.int v, .int (nI (k + 1))], [], μ) = some (some (.int X), μ) → Rn d 43 (2, [.int v, .int (nI k)], [], μ) = some (some (.int (if v ≤ a then a else X)), μ) := fun k a X hk ha hX => by
    rw [q_43_2, cd_len hP, Option.bind_some, if_neg (show ¬ (10 : Int32) ≤ nI k from nle (a := 10) hk (by decide)), cd_at hP hk, Option.bind_some, Option.bind_some, nI_s, ha]
    by_cases c : v ≤ a
    · rw [if_neg (Int32.not_lt.mpr c), if_pos c]
    · rw [if_pos (Int32.not_le.mp c), if_neg c, hX]
  have en : Rn d 43 (2, [.int v, .int (nI 10)], [], μ) = some (some (.int 89), μ) := by
    rw [q_43_2, cd_len hP, Option.bind_some, if_pos (by decide), Option.bind_some, show (10 : Int32) - 1 = nI 9 from rfl, cd_at hP (by decide)]
    rfl
  unfold cdS
  have e9 : Rn d 43 (2, [.int v, .int (nI 9)], [], μ) = some (some (.int 89), μ) := (st 9 89 89 (by decide) rfl en).trans (by rw [ite_self])
  exact st 0 1 _ (by decide) rfl (st 1 2 _ (by decide) rfl (st 2 3 _ (by decide) rfl (st 3 5 _ (by decide) rfl (st 4 8 _ (by decide) rfl (st 5 13 _ (by decide) rfl (st 6 21 _ (by decide) rfl (st 7 34 _ (by decide) rfl (st 8 55 _ (by decide) rfl e9))))))))
theorem c_thought (h : Lay L σ) {p n m t k : Nat} (hp : PL σ p) (ta : TA σ p) (P : PR F p s n) (B : BR F p s m) (T : TR F σ p s t) (hk : k < n) : ∃ F', cI (d + 2) 41 [.ref 55, .ref p, .ref (p + 8 + k)] (F, J, σ) = some (thS s m t k, (F', J, σ)) ∧ ∀ b, b ≠ 62 → F' b = F b := by
  have hlt := hp.lt
  have n10 := P.1
  have f1 : F (p + 8 + k) 1 = s (4 + 5 * k + 1) := P.2.2.2.1 k hk 1 (by decide)
  have f2 : F (p + 8 + k) 2 = s (4 + 5 * k + 2) := P.2.2.2.1 k hk 2 (by decide)
  have tp : True ∧ p < 999999 := ⟨trivial, by omega⟩
  have tb : True ∧ p + 2 < 999999 := ⟨trivial, by omega⟩
  have t5 : True ∧ 55 < 999999 := ⟨trivial, by decide⟩
  have ct := c_textFor (n := n) (m := m) (d := d) (F := F) (J := J) hp ta T (show 0 < 3 by decide)
  rcases cnt_in (s := s) (key := 0) t T.1 with c | ⟨i, hi, c, ck⟩
  · have h1 : cntS s t 0 < 0 := by rw [c]; decide
    refine ⟨F, ?_, fun b _ => rfl⟩
    refine i_41 (d := d + 1) ?_
    rw [q_41_0 (d + 1)]
    simp only [mS, hp.y0, if_pos tp]
    rw [show cR (d + 1) 16 [.ref p, .int 0] (F, J, σ) = _ from ct]
    have h1' : cntS s t (nI 0) < 0 := h1
    simp only [Option.bind_some, if_pos h1', mS, mF, hp.yk (show k < 10 by omega), if_true, f1]
    unfold thS
    rw [if_pos h1]
    rfl
  · have t14 := T.1
    have h1 : ¬ cntS s t 0 < 0 := by rw [c]; exact nlt (b := 0) (by omega) (by omega)
    have ei : (cntS s t 0).toInt.toNat = i := by rw [c, nI_toInt (by omega), Int.toNat_natCast]
    obtain ⟨K, F', W, e1, e2⟩ := c_value (d := d) (J := J) h (T.2.2.2.1 i hi) (s (4 + 5 * k + 1)) (s (4 + 5 * k + 2)) (facS s m (-1))
    have hc := ta i (by omega)
    obtain ⟨_, _, ⟨x1, x2, x3⟩, _⟩ := T.2.2.2.1 i hi
    refine ⟨F', ?_, e2⟩
    refine i_41 (d := d + 1) ?_
    rw [q_41_0 (d + 1)]
    simp only [mS, hp.y0, if_pos tp]
    rw [show cR (d + 1) 16 [.ref p, .int 0] (F, J, σ) = _ from ct]
    have h1' : ¬ cntS s t (nI 0) < 0 := h1
    have ei' : (cntS s t (nI 0)).toInt.toNat = i := ei
    simp only [Option.bind_some, if_neg h1', ei', mS, mR, mF, hp.yk (show k < 10 by omega), if_true, f1, f2, hp.y0, hp.z2, hp.y2, if_pos tb, c_fac (d := d) hp B (Or.inl rfl), Y_55 h, if_pos t5, e1, c_held (show (0 : Int32) ≤ 999 by decide), hold0 (show (0 : Int32) < 999 by decide)]
    rw [if_pos (by omega), if_neg (by omega)]
    unfold thS
    rw [if_neg h1, ei, vaT_K W]
theorem c_says (h : Lay L σ) {p n m t k : Nat} (hp : PL σ p) (ta : TA σ p) (P : PR F p s n) (B : BR F p s m) (T : TR F σ p s t) (hk : k < n) (hp2 : p + 17 < 55) : ∃ F', cI (d + 3) 42 [.ref 55, .ref p, .ref (p + 8 + k)] (F, J, σ) = some (saS s m t k, (F', J, σ)) ∧ ∀ b, b ≠ 62 → F' b = F b := by
  obtain ⟨F', e1, e2⟩ := c_thought (d := d) (J := J) h hp ta P B T hk
  have n10 := P.1
  have hlt := hp.lt
  have tb : True ∧ p + 2 < 999999 := ⟨trivial, by omega⟩
  have t5 : True ∧ 55 < 999999 := ⟨trivial, by decide⟩
  have g : ∀ j, j < 5 → F' (p + 8 + k) j = s (4 + 5 * k + j) := fun j hj => by rw [e2 _ (by omega)]; exact P.2.2.2.1 k hk j hj
  have g0 : F' (p + 8 + k) 0 = s (4 + 5 * k) := g 0 (by decide)
  have g2 : F' (p + 8 + k) 2 = s (4 + 5 * k + 2) := g 2 (by decide)
  have g3 : F' (p + 8 + k) 3 = s (4 + 5 * k + 3) := g 3 (by decide)
  have B' : BR F' p s m := BR_cg (fun a h1 h2 => e2 a (by omega)) (fun j _ => rfl) B
  have R := RK_of P B T
  obtain ⟨a, ha, ea⟩ := thS_n R hk
  have pk := R.1.2.2 k hk
  have tl := pk.2.2.1
  have et : ∃ b, b ≤ 10 ∧ s (4 + 5 * k + 2) = nI b := by
    refine ⟨_, ?_, nI_fo tl.1⟩
    have : (s (4 + 5 * k + 2)).toInt ≤ 10 := Int32.le_iff_toInt_le.mp tl.2
    omega
  obtain ⟨b, hb, eb⟩ := et
  have sm : (if thS s m t k + s (4 + 5 * k + 2) < 999 then thS s m t k + s (4 + 5 * k + 2) else 999) = wiM (thS s m t k + s (4 + 5 * k + 2)) 999 := min_wi (by rw [ea, eb, nI_add]; exact yle (a := 0) (by omega) (by omega))
  have mf : ∀ x, (if thS s m t k * facS s m x / 100 < 999 then thS s m t k * facS s m x / 100 else 999) = wiM (thS s m t k * facS s m x / 100) 999 := fun x => by
    obtain ⟨c, -, hc, ec⟩ := facS_n (s := s) m x
    refine min_wi ?_
    rw [ea, ec, (mul_n ha hc).1]
    exact (mul_n ha hc).2
  refine ⟨F', ?_, e2⟩
  refine i_42 (d := d + 2) ?_
  rw [q_42_0 (d + 2)]
  simp only [mS, mR, mF, Y_55 h, if_pos t5, e1, Option.bind_some, hp.yk (show k < 10 by omega), if_true, g0, g2, g3, hp.y0, hp.z2, hp.y2, if_pos tb, sm]
  unfold saS saK
  by_cases k1 : s (4 + 5 * k) = 1
  · rw [if_pos k1, if_pos k1]
  · rw [if_neg k1, if_neg k1]
    by_cases k2 : s (4 + 5 * k) = 2
    · rw [if_pos k2, if_pos k2, c_fac (d := d + 1) hp B' (Or.inl rfl), Option.bind_some]
      dsimp only
      rw [mf]
    · rw [if_neg k2, if_neg k2]
      by_cases k3 : s (4 + 5 * k) = 3
      · rw [if_pos k3, if_pos k3]
      · rw [if_neg k3, if_neg k3]
        by_cases k4 : s (4 + 5 * k) = 4
        · rw [if_pos k4, if_pos k4, c_fac (d := d + 1) hp B' (Or.inr pk.2.2.2.1.1), Option.bind_some]
          dsimp only
          rw [mf]
        · rw [if_neg k4, if_neg k4]
          by_cases k5 : s (4 + 5 * k) = 5
          · rw [if_pos k5, if_pos k5, c_cardFor (μ := (F', J, σ)) h.2.2.2.2.1]
            rfl
          · rw [if_neg k5, if_neg k5]
end SAYS
