/-! STAFFED: the model's pieces. -/
section STH
variable {L d : Nat} {F F' : Nat → Nat → Int32} {J J' : Nat → Nat → Int64} {σ : aSg} {μ : aMem} {s xs : Nat → Int32} {A ln ov : Nat → Nat} {b D : Nat → Bool}
theorem dnK_hi {wk : Nat} {j : Nat} : ∀ k, k ≤ j → dnK A ln ov wk b D k j = D j
  | 0, _ => rfl
  | k + 1, h => by
    have ih : dnK A ln ov wk b D k j = D j := dnK_hi k (by omega)
    rw [dnK_s]
    split
    · rw [up1_n _ _ (by omega)]; exact ih
    · exact ih
theorem dnK_lo {wk k j : Nat} (h : j < k) : ∀ i, dnK A ln ov wk b D (k + i) j = dnK A ln ov wk b D k j
  | 0 => rfl
  | i + 1 => by
    have ih : dnK A ln ov wk b D (k + i) j = dnK A ln ov wk b D k j := dnK_lo h i
    show dnK A ln ov wk b D (k + i + 1) j = _
    rw [dnK_s]
    split
    · rw [up1_n _ _ (by omega)]; exact ih
    · exact ih
theorem bF_lt {a k j : Nat} (h : a < 2 ^ k) (hj : k ≤ j) : bF a j = false := by
  unfold bF
  have : a / 2 ^ j = 0 := Nat.div_eq_of_lt (Nat.lt_of_lt_of_le h (Nat.pow_le_pow_right (by decide) hj))
  rw [this]
  rfl
theorem sbs_lo {a k : Nat} {D E : Nat → Bool} (h : a < 2 ^ k) (he : ∀ j, j < k → D j = E j) : sbs a D ↔ sbs a E := by
  constructor
  · intro q j hj ha
    by_cases c : j < k
    · rw [← he j c]; exact q j hj ha
    · rw [bF_lt h (by omega)] at ha; exact absurd ha (by decide)
  · intro q j hj ha
    by_cases c : j < k
    · rw [he j c]; exact q j hj ha
    · rw [bF_lt h (by omega)] at ha; exact absurd ha (by decide)
theorem up1_id {f : Nat → Bool} {k : Nat} (h : f k = true) : up1 f k true = f := by rw [← h]; exact up1_self f k
/-- a second pass finds nothing more -/
theorem dnK_fix {n wk : Nat} (hA : ∀ k, k < n → A k < 2 ^ k) : ∀ k, k ≤ n → dnK A ln ov wk b (dnK A ln ov wk b D n) k = dnK A ln ov wk b D n
  | 0, _ => rfl
  | k + 1, h => by
    have ih : dnK A ln ov wk b (dnK A ln ov wk b D n) k = dnK A ln ov wk b D n := dnK_fix hA k (by omega)
    rw [dnK_s, ih]
    split
    · rename_i c
      refine up1_id ?_
      have e1 := dnK_lo (A := A) (ln := ln) (ov := ov) (wk := wk) (b := b) (D := D) (show k < k + 1 by omega) (n - (k + 1))
      rw [show k + 1 + (n - (k + 1)) = n by omega] at e1
      rw [e1, dnK_s]
      have c' : (b k = true ∧ ov k ≤ wk) ∨ (ln k = 0 ∧ sbs (A k) (dnK A ln ov wk b D k)) := by
        rcases c with c | c
        · exact Or.inl c
        · refine Or.inr ⟨c.1, (sbs_lo (hA k (by omega)) (fun j hj => ?_)).mp c.2⟩
          have e2 := dnK_lo (A := A) (ln := ln) (ov := ov) (wk := wk) (b := b) (D := D) hj (n - k)
          rw [show k + (n - k) = n by omega] at e2
          exact e2
      rw [if_pos c', up1_s]
    · rfl
theorem m_pass (h : Lay L σ) {n m t wk : Nat} (R : RK (F 100) n m t) (hln : ∀ q, q < n → F 111 q = nI (ln q) ∧ ln q ≤ 999) (hov : ∀ q, q < n → b q = true → F 115 q = nI (ov q) ∧ ov q < 2 ^ 30) (hwk : wk < 2 ^ 30) (hb : ∀ q, q < n → b q = true → 0 < ln q) (x3 x5 : Int32) : ∀ (r k : Nat) (w7 w8 : Value), k + r = n → ∃ w6' w7' w8', Rn (d + 1) 174 (20, [.ref 99, .int (nI wk), .int (MK b), .int x3, .int (MK (dnK (aN (F 100)) ln ov wk b D k)), .int x5, .int (nI k), w7, w8], [], (F, J, σ)) = Rn (d + 1) 174 (6, [.ref 99, .int (nI wk), .int (MK b), .int x3, .int (MK (dnK (aN (F 100)) ln ov wk b D n)), .int x5, w6', w7', w8'], [], (F, J, σ)) := by
  have n10 := R.1.1
  have t9 : True ∧ 99 < 999999 := ⟨trivial, by decide⟩
  have h10 : ¬ (1 : Int32) = 0 := by decide
  have h01 : ¬ (0 : Int32) = 1 := by decide
  intro r
  induction r with
  | zero =>
    intro k w7 w8 e
    refine ⟨.int (nI k), w7, w8, ?_⟩
    rw [q_174_20]
    simp only [mS, mR, Y_99 h, Z_99_0 h, if_true, show rdI (F, J, σ) 100 0 = some (F 100 0) from rd_100 (i := 0) h (by decide), R.1.2.1, Option.bind_some]
    rw [if_pos (yle (by omega) (by omega)), show k = n by omega]
  | succ r ih =>
    intro k w7 w8 e
    have hk : k < n := by omega
    obtain ⟨a1, a2, a3⟩ := aN_eq R hk
    obtain ⟨l1, l2⟩ := hln k hk
    have i1 := ih (k + 1)
    rw [dnK_s] at i1
    have l0 : (nI (ln k) = (0 : Int32)) ↔ ln k = 0 := nI_eq (b := 0) (by omega) (by decide)
    have o4 : cI d 139 [.ref 99, .int (nI k), .int 4] (F, J, σ) = some (nI (aN (F 100) k), (F, J, σ)) := by rw [← a1]; exact m_of (w := 4) h (by omega) (by decide)
    -- the end of a step
    have e112 : ∀ (x7 x8 : Int32), Rn (d + 1) 174 (112, [.ref 99, .int (nI wk), .int (MK b), .int x3, .int (MK (dnK (aN (F 100)) ln ov wk b D k)), .int x5, .int (nI k), .int x7, .int x8], [.int (MK (dnK (aN (F 100)) ln ov wk b D k))], (F, J, σ)) = Rn (d + 1) 174 (20, [.ref 99, .int (nI wk), .int (MK b), .int x3, .int (MK (up1 (dnK (aN (F 100)) ln ov wk b D k) k true)), .int x5, .int (nI (k + 1)), .int x7, .int x8], [], (F, J, σ)) := fun x7 x8 => by
      rw [q_174_112, q_174_120, MK_or1 _ (by omega), nI_s]
    have e57 : ∀ xs0 : Int32, Rn (d + 1) 174 (57, [.ref 99, .int (nI wk), .int (MK b), .int x3, .int (MK (dnK (aN (F 100)) ln ov wk b D k)), .int x5, .int (nI k), w7, w8], [.int xs0], (F, J, σ)) = if b k = false ∧ ln k = 0 ∧ sbs (aN (F 100) k) (dnK (aN (F 100)) ln ov wk b D k) then Rn (d + 1) 174 (98, [.ref 99, .int (nI wk), .int (MK b), .int x3, .int (MK (dnK (aN (F 100)) ln ov wk b D k)), .int x5, .int (nI k), .int xs0, w8], [.int 1], (F, J, σ)) else Rn (d + 1) 174 (98, [.ref 99, .int (nI wk), .int (MK b), .int x3, .int (MK (dnK (aN (F 100)) ln ov wk b D k)), .int x5, .int (nI k), .int xs0, w8], [.int 0], (F, J, σ)) := fun xs0 => by
      rw [q_174_57]
      simp only [mS, mR, Y_99 h, Z_99_12 h, if_true, if_pos t9, MK_bit b (show k < 10 by omega), rd_k (Y_111 h) (show k < 10 by omega) (by decide), l1, l0, Option.bind_some, o4, sbs_z a3, q_174_97]
      by_cases cb : b k = true
      · rw [if_pos cb, if_neg h10, if_neg (fun q => by rw [cb] at q; exact absurd q.1 (by decide))]
      · rw [if_neg cb, if_pos rfl]
        by_cases c1 : ln k = 0
        · rw [if_pos c1]
          by_cases c2 : sbs (aN (F 100) k) (dnK (aN (F 100)) ln ov wk b D k)
          · rw [if_pos c2, if_pos ⟨Bool.eq_false_iff.mpr cb, c1, c2⟩]
          · rw [if_neg c2, if_neg (fun q => c2 q.2.2)]
        · rw [if_neg c1, if_neg (fun q => c1 q.2.1)]
    rw [q_174_20]
    simp only [mS, mR, Y_99 h, Z_99_0 h, Z_99_16 h, if_true, show rdI (F, J, σ) 100 0 = some (F 100 0) from rd_100 (i := 0) h (by decide), R.1.2.1, Option.bind_some, MK_bit b (show k < 10 by omega), rd_k (Y_115 h) (show k < 10 by omega) (by decide), q_174_56]
    rw [if_neg (nle hk (by omega))]
    by_cases cb : b k = true
    · obtain ⟨o1, o2⟩ := hov k hk cb
      have lp := hb k hk cb
      have cn : ¬ (b k = false ∧ ln k = 0 ∧ sbs (aN (F 100) k) (dnK (aN (F 100)) ln ov wk b D k)) := fun q => by omega
      rw [if_pos cb, if_pos rfl, o1, e57, e57, if_neg cn, if_neg cn]
      by_cases co : ov k ≤ wk
      · rw [if_pos (Or.inl ⟨cb, co⟩)] at i1
        rw [if_neg (nlt co (by omega)), q_174_98, if_neg h10, e112]
        exact i1 _ _ (by omega)
      · rw [if_neg (fun q => by rcases q with q | q; exact co q.2; omega)] at i1
        rw [if_pos (ylt (by omega) (by omega)), q_174_98, if_pos rfl, if_pos rfl, q_174_120, Int32.or_zero, nI_s]
        exact i1 _ _ (by omega)
    · rw [if_neg cb, if_neg h01, e57]
      by_cases cz : ln k = 0 ∧ sbs (aN (F 100) k) (dnK (aN (F 100)) ln ov wk b D k)
      · rw [if_pos (Or.inr cz)] at i1
        rw [if_pos ⟨Bool.eq_false_iff.mpr cb, cz⟩, q_174_98, if_pos rfl, if_neg h10, e112]
        exact i1 _ _ (by omega)
      · rw [if_neg (fun q => by rcases q with q | q; exact cb q.1; exact cz q)] at i1
        rw [if_neg (fun q => cz q.2), q_174_98, if_pos rfl, if_pos rfl, q_174_120, Int32.or_zero, nI_s]
        exact i1 _ _ (by omega)
theorem m_doneBy (h : Lay L σ) {n m t wk : Nat} (R : RK (F 100) n m t) (hln : ∀ q, q < n → F 111 q = nI (ln q) ∧ ln q ≤ 999) (hov : ∀ q, q < n → b q = true → F 115 q = nI (ov q) ∧ ov q < 2 ^ 30) (hwk : wk < 2 ^ 30) (hb : ∀ q, q < n → b q = true → 0 < ln q) : cI (d + 1) 174 [.ref 99, .int (nI wk), .int (MK b), .int (MK D)] (F, J, σ) = some (MK (dnK (aN (F 100)) ln ov wk b D n), (F, J, σ)) := by
  refine i_174 (d := d) ?_
  rw [q_174_0, q_174_6, if_neg (fun q => MK_nn D q.symm)]
  obtain ⟨w6, w7, w8, e1⟩ := m_pass (d := d) (J := J) (D := D) h R hln hov hwk hb (MK D) (MK D) n 0 un un (by omega)
  have e1' : Rn (d + 1) 174 (20, [.ref 99, .int (nI wk), .int (MK b), .int (MK D), .int (MK D), .int (MK D), .int 0, un, un], [], (F, J, σ)) = _ := e1
  rw [e1', q_174_6]
  by_cases c : MK D = MK (dnK (aN (F 100)) ln ov wk b D n)
  · rw [if_pos c]
  · rw [if_neg c]
    obtain ⟨v6, v7, v8, e2⟩ := m_pass (d := d) (J := J) (D := dnK (aN (F 100)) ln ov wk b D n) h R hln hov hwk hb (MK D) (MK (dnK (aN (F 100)) ln ov wk b D n)) n 0 w7 w8 (by omega)
    rw [dnK_fix (fun k hk => (aN_eq R hk).2.1) n (Nat.le_refl _)] at e2
    have e2' : Rn (d + 1) 174 (20, [.ref 99, .int (nI wk), .int (MK b), .int (MK D), .int (MK (dnK (aN (F 100)) ln ov wk b D n)), .int (MK (dnK (aN (F 100)) ln ov wk b D n)), .int 0, w7, w8], [], (F, J, σ)) = _ := e2
    rw [e2', q_174_6, if_pos rfl]
theorem m_rest (h : Lay L σ) {n : Nat} (n10 : n ≤ 10) (hn : F 100 0 = nI n) (x1 x2 x3 x4 x5 x6 x7 x9 : Int32) : ∀ (r k : Nat) (w : Value), k + r = n → ∃ w', Rn (d + 1) 175 (107, [.ref 99, .int x1, .int x2, .int x3, .int x4, .int x5, .int x6, .int x7, .int 1, .int x9, .int (nI k), w], [], (F, J, σ)) = Rn (d + 1) 175 (25, [.ref 99, .int x1, .int x2, .int x3, .int x4, .int x5, .int x6, .int (x7 + 1), .int 1, .int x9, .int (nI n), w'], [], (F, J, σ)) := by
  have h10 : ¬ (1 : Int32) = 0 := by decide
  intro r
  induction r with
  | zero =>
    intro k w e
    refine ⟨w, ?_⟩
    rw [q_175_107]
    simp only [mS, mR, Y_99 h, Z_99_0 h, if_true, show rdI (F, J, σ) 100 0 = some (F 100 0) from rd_100 (i := 0) h (by decide), hn, Option.bind_some]
    rw [if_pos (yle (by omega) (by omega)), show k = n by omega]
  | succ r ih =>
    intro k w e
    obtain ⟨w', g⟩ := ih (k + 1) (.int 0) (by omega)
    refine ⟨w', ?_⟩
    rw [q_175_107]
    simp only [mS, mR, Y_99 h, Z_99_0 h, if_true, show rdI (F, J, σ) 100 0 = some (F 100 0) from rd_100 (i := 0) h (by decide), hn, Option.bind_some, if_neg h10, nI_s]
    rw [if_neg (nle (by omega) (by omega))]
    exact g
theorem m_begin (h : Lay L σ) {n m t wk : Nat} (R : RK s n m t) (hwk : wk < 2 ^ 29) (hln : ∀ q, q < n → ln q ≤ 999) (x1 x2 x3 x4 : Int32) (i : bSt) : ∀ (r k : Nat) (F : Nat → Nat → Int32) (w : Value), F 100 = s → (∀ q, q < n → F 111 q = nI (ln q)) → (∀ q, q < n → (bgK (aN s) ln wk D i k).1 q = true → F 115 q = nI ((bgK (aN s) ln wk D i k).2.1 q)) → k + r = n → ∃ F' w', Rn (d + 1) 175 (107, [.ref 99, .int x1, .int x2, .int x3, .int x4, .int (MK (bgK (aN s) ln wk D i k).1), .int (MK D), .int (nI wk), .int 0, .int (bgK (aN s) ln wk D i k).2.2, .int (nI k), w], [], (F, J, σ)) = Rn (d + 1) 175 (25, [.ref 99, .int x1, .int x2, .int x3, .int x4, .int (MK (bgK (aN s) ln wk D i n).1), .int (MK D), .int (nI (wk + 1)), .int 0, .int (bgK (aN s) ln wk D i n).2.2, .int (nI n), w'], [], (F', J, σ)) ∧ (∀ c, c ≠ 115 → F' c = F c) ∧ ∀ q, q < n → (bgK (aN s) ln wk D i n).1 q = true → F' 115 q = nI ((bgK (aN s) ln wk D i n).2.1 q) := by
  have n10 := R.1.1
  have t9 : True ∧ 99 < 999999 := ⟨trivial, by decide⟩
  have h10 : ¬ (1 : Int32) = 0 := by decide
  intro r
  induction r with
  | zero =>
    intro k F w hF h1 h2 e
    have ek : k = n := by omega
    subst ek
    refine ⟨F, w, ?_, fun _ _ => rfl, h2⟩
    rw [q_175_107]
    simp only [mS, mR, Y_99 h, Z_99_0 h, if_true, show rdI (F, J, σ) 100 0 = some (F 100 0) from rd_100 (i := 0) h (by decide), hF, R.1.2.1, Option.bind_some, nI_s]
    rw [if_pos (Int32.le_refl _)]
  | succ r ih =>
    intro k F w hF h1 h2 e
    have hk : k < n := by omega
    obtain ⟨a1, a2, a3⟩ := aN_eq R hk
    have o4 : cI d 139 [.ref 99, .int (nI k), .int 4] (F, J, σ) = some (nI (aN s k), (F, J, σ)) := by
      have := m_of (d := d) (F := F) (J := J) (w := 4) h (show k < 10 by omega) (by decide)
      rw [hF, a1] at this
      exact this
    have tB' : True ∧ inb (nI k) 10 := ⟨trivial, inb_nI (by omega) (by decide)⟩
    have i1 := ih (k + 1)
    rw [q_175_107]
    simp only [mS, mR, Y_99 h, Z_99_0 h, Z_99_12 h, Z_99_16 h, Y_115 h, if_true, if_pos t9, show rdI (F, J, σ) 100 0 = some (F 100 0) from rd_100 (i := 0) h (by decide), hF, R.1.2.1, Option.bind_some, o4, sbs_z a3, if_neg h10, MK_or, MK_bit _ (show k < 10 by omega), MK_or1 _ (show k < 10 by omega), rd_k (Y_111 h) (show k < 10 by omega) (by decide), h1 k hk, nI_add, nI_s, if_pos tB', setF_up, ix_nI (show k < 2 ^ 31 by omega)]
    rw [if_neg (nle hk (by omega))]
    by_cases cf : (bgK (aN s) ln wk D i k).2.2 ≤ 0
    · have es : bgK (aN s) ln wk D i (k + 1) = bgK (aN s) ln wk D i k := by rw [bgK_s, if_neg (fun q => q.1 cf)]
      rw [if_pos cf]
      have := i1 F (.int 0) hF h1 (by rw [es]; exact h2) (by omega)
      rw [es] at this
      exact this
    · rw [if_neg cf]
      by_cases co : (bgK (aN s) ln wk D i k).1 k = false ∧ D k = false
      · have c1 : ¬ (((fun k_1 => (bgK (aN s) ln wk D i k).1 k_1 || D k_1) k) = true) := fun q => (orF _ _ k).mp q co
        rw [if_neg c1, if_pos rfl]
        by_cases cs : sbs (aN s k) D
        · have es : bgK (aN s) ln wk D i (k + 1) = (up1 (bgK (aN s) ln wk D i k).1 k true, up1 (bgK (aN s) ln wk D i k).2.1 k (wk + ln k), (bgK (aN s) ln wk D i k).2.2 + (-1)) := by rw [bgK_s, if_pos ⟨cf, co.1, co.2, cs⟩]
          rw [if_pos cs]
          obtain ⟨F', w', g1, g2, g3⟩ := i1 (up1 F 115 (up1 (F 115) k (nI (wk + ln k)))) (.int 1) (by rw [up1_ne _ _ (by decide)]; exact hF) (fun q hq => by rw [up1_ne _ _ (by decide)]; exact h1 q hq) (fun q hq hb => by
            rw [es] at hb ⊢
            rw [up1_s]
            show up1 (F 115) k _ q = nI (up1 (bgK (aN s) ln wk D i k).2.1 k (wk + ln k) q)
            by_cases eq : q = k
            · rw [eq, up1_s, up1_s]
            · rw [up1_n _ _ eq, up1_n _ _ eq]
              have hb' : up1 (bgK (aN s) ln wk D i k).1 k true q = true := hb
              rw [up1_n _ _ eq] at hb'
              exact h2 q hq hb') (by omega)
          rw [es] at g1
          exact ⟨F', w', g1, fun c hc => by rw [g2 c hc, up1_ne _ _ hc], g3⟩
        · have es : bgK (aN s) ln wk D i (k + 1) = bgK (aN s) ln wk D i k := by rw [bgK_s, if_neg (fun q => cs q.2.2.2)]
          rw [if_neg cs]
          have := i1 F (.int 0) hF h1 (by rw [es]; exact h2) (by omega)
          rw [es] at this
          exact this
      · have c1 : ((fun k_1 => (bgK (aN s) ln wk D i k).1 k_1 || D k_1) k) = true := (orF _ _ k).mpr co
        have es : bgK (aN s) ln wk D i (k + 1) = bgK (aN s) ln wk D i k := by rw [bgK_s, if_neg (fun q => co ⟨q.2.1, q.2.2.1⟩)]
        rw [if_pos c1, if_neg h10]
        have := i1 F (.int 0) hF h1 (by rw [es]; exact h2) (by omega)
        rw [es] at this
        exact this
end STH
