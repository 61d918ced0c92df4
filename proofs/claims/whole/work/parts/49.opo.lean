/-! TABLE: the model. -/
section OPO
variable {L d : Nat} {F F' : Nat → Nat → Int32} {J : Nat → Nat → Int64} {σ : aSg} {μ : aMem} {s s' xs f A : Nat → Int32}
def cdS (v : Int32) : Int32 := if v ≤ 1 then 1 else if v ≤ 2 then 2 else if v ≤ 3 then 3 else if v ≤ 5 then 5 else if v ≤ 8 then 8 else if v ≤ 13 then 13 else if v ≤ 21 then 21 else if v ≤ 34 then 34 else if v ≤ 55 then 55 else 89
theorem m_card (v : Int32) : cI d 148 [.int v] μ = some (cdS v, μ) := by
  refine i_148 ?_
  rw [q_148_0]
  have st : ∀ (a b c : Int32) (w : Value) (X : Int32), ¬ (89 : Int32) ≤ a → a + b = c → (∀ w', Rn d 148 (4, [.int v, .int b, .int c, w'], [], μ) = some (some (.int X), μ)) → Rn d 148 (4, [.int v, .int a, .int b, w], [], μ) = some (some (.int (if v ≤ a then a else X)), μ) := by
    intro a b c w X h1 h2 h3
    rw [q_148_4]
    by_cases c1 : v ≤ a
    · rw [if_pos c1, if_pos c1]
    · rw [if_neg c1, if_neg h1, h2, h3, if_neg c1]
  have en : ∀ w', Rn d 148 (4, [.int v, .int 89, .int 144, w'], [], μ) = some (some (.int 89), μ) := by
    intro w'
    rw [q_148_4]
    by_cases c1 : v ≤ 89
    · rw [if_pos c1]
    · rw [if_neg c1, if_pos (by decide)]
  unfold cdS
  exact st 1 2 3 _ _ (by decide) (by decide) fun _ => st 2 3 5 _ _ (by decide) (by decide) fun _ => st 3 5 8 _ _ (by decide) (by decide) fun _ => st 5 8 13 _ _ (by decide) (by decide) fun _ => st 8 13 21 _ _ (by decide) (by decide) fun _ => st 13 21 34 _ _ (by decide) (by decide) fun _ => st 21 34 55 _ _ (by decide) (by decide) fun _ => st 34 55 89 _ _ (by decide) (by decide) fun _ => st 55 89 144 _ _ (by decide) (by decide) en
theorem cdS_in (v : Int32) : isCd (cdS v) := by
  unfold cdS
  repeat' split
  all_goals decide
theorem cdS_is (v : Int32) : (¬ v ≤ 0 ∧ cdS v = v) ↔ isCd v := by
  constructor
  · intro h
    have := cdS_in v
    rw [h.2] at this
    exact this
  · intro h
    rcases h with c | c | c | c | c | c | c | c | c | c <;> subst c <;> decide
/-- how many of the first k of A are less than v -/
def cA (A : Nat → Int32) (v : Int32) : Nat → Nat
  | 0 => 0
  | k + 1 => if v ≤ A k then cA A v k else cA A v k + 1
abbrev rg (v : Int32) : Prop := -99999 ≤ v ∧ v ≤ 99999
def SA (A f : Nat → Int32) (k : Nat) : Prop := (∀ i j, i ≤ j → j < tN f k → A i ≤ A j) ∧ (∀ v, cA A v (tN f k) = tB f v k) ∧ ∀ i, i < tN f k → rg (A i)
theorem cA_cg {A B : Nat → Int32} {v : Int32} : ∀ k, (∀ j, j < k → A j = B j) → cA A v k = cA B v k
  | 0, _ => rfl
  | k + 1, h => by
    unfold cA
    rw [cA_cg k (fun j hj => h j (by omega)), h k (by omega)]
theorem ins_ct {A0 A1 : Nat → Int32} {x v : Int32} {n i : Nat} (hi : i ≤ n) (h1 : ∀ j, j < i → A1 j = A0 j) (h2 : A1 i = x) (h3 : ∀ j, i < j → j ≤ n → A1 j = A0 (j - 1)) : cA A1 v (n + 1) = if v ≤ x then cA A0 v n else cA A0 v n + 1 := by
  have base : cA A1 v (i + 1) = if v ≤ x then cA A0 v i else cA A0 v i + 1 := by
    show (if v ≤ A1 i then cA A1 v i else cA A1 v i + 1) = _
    rw [h2, cA_cg i h1]
  have go : ∀ m, i + m ≤ n → cA A1 v (i + m + 1) = if v ≤ x then cA A0 v (i + m) else cA A0 v (i + m) + 1 := by
    intro m
    induction m with
    | zero => intro _; exact base
    | succ m ih =>
      intro hm
      have e := ih (by omega)
      show (if v ≤ A1 (i + m + 1) then cA A1 v (i + m + 1) else cA A1 v (i + m + 1) + 1) = if v ≤ x then (if v ≤ A0 (i + m) then cA A0 v (i + m) else cA A0 v (i + m) + 1) else (if v ≤ A0 (i + m) then cA A0 v (i + m) else cA A0 v (i + m) + 1) + 1
      rw [e, h3 (i + m + 1) (by omega) (by omega), show i + m + 1 - 1 = i + m by omega]
      by_cases c1 : v ≤ A0 (i + m)
      · rw [if_pos c1, if_pos c1]
      · rw [if_neg c1, if_neg c1]
        by_cases c2 : v ≤ x
        · rw [if_pos c2, if_pos c2]
        · rw [if_neg c2, if_neg c2]
  have g := go (n - i) (by omega)
  rw [show i + (n - i) = n by omega] at g
  exact g
theorem SA_ins {A0 A1 : Nat → Int32} {k i : Nat} (S : SA A0 f k) (hx : ¬ NO5 (f k)) (hr : rg (f k)) (hi : i ≤ tN f k) (h1 : ∀ j, j < i → A1 j = A0 j) (h2 : A1 i = f k) (h3 : ∀ j, i < j → j ≤ tN f k → A1 j = A0 (j - 1)) (h4 : ∀ j, i ≤ j → j < tN f k → f k < A0 j) (h5 : i = 0 ∨ A0 (i - 1) ≤ f k) : SA A1 f (k + 1) := by
  obtain ⟨s1, s2, s3⟩ := S
  have en : tN f (k + 1) = tN f k + 1 := if_neg hx
  unfold SA
  rw [en]
  have lo : ∀ j, j < i → A0 j ≤ f k := fun j hj => by
    rcases h5 with e | e
    · omega
    · exact Int32.le_trans (s1 j (i - 1) (by omega) (by omega)) e
  refine ⟨fun a b hab hb => ?_, fun v => ?_, fun j hj => ?_⟩
  · rcases Nat.lt_trichotomy a i with ha | ha | ha
    · rw [h1 a ha]
      rcases Nat.lt_trichotomy b i with hb2 | hb2 | hb2
      · rw [h1 b hb2]; exact s1 a b hab (by omega)
      · rw [hb2, h2]; exact lo a ha
      · rw [h3 b hb2 (by omega)]; exact s1 a (b - 1) (by omega) (by omega)
    · rw [ha, h2]
      rcases Nat.lt_trichotomy b i with hb2 | hb2 | hb2
      · omega
      · rw [hb2, h2]; exact Int32.le_refl _
      · rw [h3 b hb2 (by omega)]; exact Int32.le_of_lt (h4 (b - 1) (by omega) (by omega))
    · rw [h3 a ha (by omega), h3 b (by omega) (by omega)]; exact s1 (a - 1) (b - 1) (by omega) (by omega)
  · rw [ins_ct hi h1 h2 h3, s2 v]
    show _ = if NO5 (f k) then _ else if v ≤ f k then _ else _
    rw [if_neg hx]
  · rcases Nat.lt_trichotomy j i with ha | ha | ha
    · rw [h1 j ha]; exact s3 j (by omega)
    · rw [ha, h2]; exact hr
    · rw [h3 j ha (by omega)]; exact s3 (j - 1) (by omega)
theorem rg_s {a : Int32} (h : rg a) : (a + 1).toInt = a.toInt + 1 := by
  have h1 : (-99999 : Int) ≤ a.toInt := Int32.le_iff_toInt_le.mp h.1
  have h2 : a.toInt ≤ 99999 := Int32.le_iff_toInt_le.mp h.2
  rw [Int32.toInt_add, show (1 : Int32).toInt = 1 from rfl, Int.bmod_eq_of_le (by omega) (by omega)]
theorem tB_mono {u v : Int32} (huv : u ≤ v) : ∀ k, tB f u k ≤ tB f v k
  | 0 => Nat.le_refl _
  | k + 1 => by
    have ih := tB_mono huv k
    unfold tB
    split
    · exact ih
    · by_cases c1 : v ≤ f k
      · rw [if_pos c1, if_pos (Int32.le_trans huv c1)]; exact ih
      · rw [if_neg c1]
        split <;> omega
theorem tB_ex {a : Int32} (ha : rg a) : ∀ k, tB f a k < tB f (a + 1) k → ∃ j, j < k ∧ ¬ NO5 (f j) ∧ f j = a
  | 0, h => absurd h (by unfold tB; omega)
  | k + 1, h => by
    have step : tB f a k < tB f (a + 1) k → ∃ j, j < k + 1 ∧ ¬ NO5 (f j) ∧ f j = a := fun q => by
      obtain ⟨j, h1, h2⟩ := tB_ex ha k q
      exact ⟨j, by omega, h2⟩
    unfold tB at h
    by_cases c1 : NO5 (f k)
    · rw [if_pos c1, if_pos c1] at h; exact step h
    · rw [if_neg c1, if_neg c1] at h
      by_cases c2 : a ≤ f k
      · rw [if_pos c2] at h
        by_cases c3 : a + 1 ≤ f k
        · rw [if_pos c3] at h; exact step h
        · refine ⟨k, by omega, c1, ?_⟩
          have e1 := Int32.lt_iff_toInt_lt.mp (Int32.not_le.mp c3)
          have e2 := Int32.le_iff_toInt_le.mp c2
          rw [rg_s ha] at e1
          exact Int32.toInt_inj.mp (by omega)
      · rw [if_neg c2] at h
        have c3 : ¬ a + 1 ≤ f k := fun q => c2 (by
          have e1 := Int32.le_iff_toInt_le.mp q
          rw [rg_s ha] at e1
          rw [Int32.le_iff_toInt_le]
          omega)
        rw [if_neg c3] at h
        exact step (by omega)
theorem SA_mid {z w : Nat} (S : SA A f z) (hr : ∀ k, k < z → ¬ NO5 (f k) → rg (f k)) (hw : w < tN f z) : (∀ k, k < z → ¬ NO5 (f k) → tB f (f k) z ≤ w → w < tB f (f k + 1) z → f k = A w) ∧ ∃ k, k < z ∧ ¬ NO5 (f k) ∧ tB f (f k) z ≤ w ∧ w < tB f (f k + 1) z := by
  obtain ⟨s1, s2, s3⟩ := S
  have ra := s3 w hw
  have lo : tB f (A w) z ≤ w := by
    rw [← s2]
    have b : ∀ k, cA A (A w) k ≤ k := by
      intro k
      induction k with
      | zero => exact Nat.le_refl _
      | succ k ih => unfold cA; split <;> omega
    have go : ∀ m, w + m ≤ tN f z → cA A (A w) (w + m) ≤ w := by
      intro m
      induction m with
      | zero => intro _; exact b w
      | succ m ih =>
        intro hm
        show (if A w ≤ A (w + m) then cA A (A w) (w + m) else cA A (A w) (w + m) + 1) ≤ w
        rw [if_pos (s1 w (w + m) (by omega) (by omega))]
        exact ih (by omega)
    have g := go (tN f z - w) (by omega)
    rw [show w + (tN f z - w) = tN f z by omega] at g
    exact g
  have hi : w < tB f (A w + 1) z := by
    rw [← s2]
    have b : ∀ k, k ≤ w + 1 → cA A (A w + 1) k = k := by
      intro k
      induction k with
      | zero => intro _; rfl
      | succ k ih =>
        intro hk
        show (if A w + 1 ≤ A k then cA A (A w + 1) k else cA A (A w + 1) k + 1) = k + 1
        have e := s1 k w (by omega) hw
        rw [if_neg (fun q => ?_), ih (by omega)]
        have e1 := Int32.le_iff_toInt_le.mp q
        have e2 := Int32.le_iff_toInt_le.mp e
        rw [rg_s ra] at e1
        omega
    have go : ∀ m, w + 1 + m ≤ tN f z → w < cA A (A w + 1) (w + 1 + m) := by
      intro m
      induction m with
      | zero => intro _; show w < cA A (A w + 1) (w + 1); rw [b (w + 1) (Nat.le_refl _)]; omega
      | succ m ih =>
        intro hm
        have := ih (by omega)
        show w < if A w + 1 ≤ A (w + 1 + m) then cA A (A w + 1) (w + 1 + m) else cA A (A w + 1) (w + 1 + m) + 1
        split <;> omega
    have g := go (tN f z - (w + 1)) (by omega)
    rw [show w + 1 + (tN f z - (w + 1)) = tN f z by omega] at g
    exact g
  refine ⟨fun k hk hno h1 h2 => ?_, ?_⟩
  · have rk := hr k hk hno
    have ek := rg_s rk
    have ea := rg_s ra
    rcases Int.lt_trichotomy (f k).toInt (A w).toInt with c | c | c
    · have := tB_mono (f := f) (u := f k + 1) (v := A w) (by rw [Int32.le_iff_toInt_le, ek]; omega) z
      omega
    · exact Int32.toInt_inj.mp c
    · have := tB_mono (f := f) (u := A w + 1) (v := f k) (by rw [Int32.le_iff_toInt_le, ea]; omega) z
      omega
  · obtain ⟨k, h1, h2, h3⟩ := tB_ex (f := f) ra z (by omega)
    exact ⟨k, h1, h2, by rw [h3]; exact lo, by rw [h3]; exact hi⟩
theorem m_ins (h : Lay L σ) {A0 : Nat → Int32} {x x1 x2 x4 x5 x6 x7 x8 : Int32} {n : Nat} (hn : n < 24) : ∀ (i : Nat) (F : Nat → Nat → Int32), i ≤ n → (∀ j, j < i → F 120 j = A0 j) → (∀ j, i < j → j ≤ n → F 120 j = A0 (j - 1)) → (∀ j, i ≤ j → j < n → x < A0 j) → ∃ F' i', Rn 100 217 (171, [.ref 99, .int x1, .int x2, .int (nI n), .int x4, .int x5, .int x6, .int x7, .int x8, .int x, .int (nI i)], [], (F, J, σ)) = Rn 100 217 (224, [.ref 99, .int x1, .int x2, .int (nI (n + 1)), .int x4, .int x5, .int x6, .int x7, .int x8, .int x, .int (nI i')], [], (F', J, σ)) ∧ (∀ a, a ≠ 120 → F' a = F a) ∧ i' ≤ n ∧ (∀ j, j < i' → F' 120 j = A0 j) ∧ F' 120 i' = x ∧ (∀ j, i' < j → j ≤ n → F' 120 j = A0 (j - 1)) ∧ (∀ j, i' ≤ j → j < n → x < A0 j) ∧ (i' = 0 ∨ A0 (i' - 1) ≤ x) := by
  have fin : ∀ (i : Nat) (F : Nat → Nat → Int32), i ≤ n → (∀ j, j < i → F 120 j = A0 j) → (∀ j, i < j → j ≤ n → F 120 j = A0 (j - 1)) → (∀ j, i ≤ j → j < n → x < A0 j) → (i = 0 ∨ A0 (i - 1) ≤ x) → ∃ F' i', Rn 100 217 (212, [.ref 99, .int x1, .int x2, .int (nI n), .int x4, .int x5, .int x6, .int x7, .int x8, .int x, .int (nI i)], [], (F, J, σ)) = Rn 100 217 (224, [.ref 99, .int x1, .int x2, .int (nI (n + 1)), .int x4, .int x5, .int x6, .int x7, .int x8, .int x, .int (nI i')], [], (F', J, σ)) ∧ (∀ a, a ≠ 120 → F' a = F a) ∧ i' ≤ n ∧ (∀ j, j < i' → F' 120 j = A0 j) ∧ F' 120 i' = x ∧ (∀ j, i' < j → j ≤ n → F' 120 j = A0 (j - 1)) ∧ (∀ j, i' ≤ j → j < n → x < A0 j) ∧ (i' = 0 ∨ A0 (i' - 1) ≤ x) := by
    intro i F hi h1 h2 h3 h4
    refine ⟨up1 F 120 (up1 (F 120) i x), i, ?_, fun a ha => up1_ne _ _ ha, hi, fun j hj => by rw [up1_s, up1_n _ _ (by omega)]; exact h1 j hj, by rw [up1_s, up1_s], fun j a b => by rw [up1_s, up1_n _ _ (by omega)]; exact h2 j a b, h3, h4⟩
    rw [q_217_212 99]
    simp only [mS, mR, Y_99 h, Z_99_33 h, Y_120 h, setF_up, ix_nI (show i < 2 ^ 31 by omega), if_true, nI_s]
    rw [if_pos ⟨trivial, inb_nI (by omega) (by decide)⟩]
  intro i
  induction i with
  | zero =>
    intro F hi h1 h2 h3
    rw [q_217_171 99, if_pos (show nI 0 ≤ (0 : Int32) by decide)]
    exact fin 0 F hi h1 h2 h3 (Or.inl rfl)
  | succ i ih =>
    intro F hi h1 h2 h3
    have e1 : nI (i + 1) - 1 = nI i := pk_sub (a := i + 1) (b := 1) (by omega)
    rw [q_217_171 99, if_neg (show ¬ nI (i + 1) ≤ (0 : Int32) from nle (b := 0) (by omega) (by omega))]
    simp only [mS, mR, Y_99 h, Z_99_33 h, Y_120 h, setF_up, ix_nI (show i + 1 < 2 ^ 31 by omega), if_true, e1, rd_k (Y_120 h) (show i < 24 by omega) (by decide), h1 i (by omega), Option.bind_some, pk_m1]
    by_cases c1 : A0 i ≤ x
    · rw [if_pos c1]
      exact fin (i + 1) F hi h1 h2 h3 (Or.inr c1)
    · rw [if_neg c1, if_pos ⟨trivial, inb_nI (by omega) (by decide)⟩]
      obtain ⟨F', i', g1, g2, g3⟩ := ih (up1 F 120 (up1 (F 120) (i + 1) (A0 i))) (by omega) (fun j hj => by rw [up1_s, up1_n _ _ (by omega)]; exact h1 j (by omega)) (fun j a b => by
        rw [up1_s]
        by_cases ej : j = i + 1
        · rw [ej, up1_s]; rfl
        · rw [up1_n _ _ ej]; exact h2 j (by omega) b) (fun j a b => by
        by_cases ej : j = i
        · rw [ej]; exact Int32.not_le.mp c1
        · exact h3 j (by omega) b)
      exact ⟨F', i', g1, fun a ha => by rw [g2 a ha, up1_ne _ _ ha], g3⟩
end OPO
