/-! TEXTS WORKED OUT. -/
section TXW
variable {L d : Nat} {F F' : Nat → Nat → Int32} {J : Nat → Nat → Int64} {σ : aSg} {μ : aMem} {s s' xs : Nat → Int32}
def joI (c a b : Int32) : Int32 := if c = 38 then (if a = 0 then 0 else if b = 0 then 0 else 1) else if c = 42 then a * b else if c = 43 then a + b else if c = 45 then a - b else if c = 60 then (if b ≤ a then 0 else 1) else if c = 61 then (if a = b then 1 else 0) else if c = 62 then (if a ≤ b then 0 else 1) else if c = 124 then (if a = 0 then (if b = 0 then 0 else 1) else 1) else (if b = 0 then 0 else a / b)
theorem c_joined (c a b : Int32) : cI d 40 [.int c, .int a, .int b] μ = some (joI c a b, μ) := by
  refine i_40 ?_
  rw [q_40_0]
  unfold joI
  by_cases h1 : c = 38
  · rw [if_pos h1, if_pos h1]
    split
    · rfl
    · split <;> rfl
  · rw [if_neg h1, if_neg h1]
    by_cases h2 : c = 42
    · rw [if_pos h2, if_pos h2]
    · rw [if_neg h2, if_neg h2]
      by_cases h3 : c = 43
      · rw [if_pos h3, if_pos h3]
      · rw [if_neg h3, if_neg h3]
        by_cases h4 : c = 45
        · rw [if_pos h4, if_pos h4]
        · rw [if_neg h4, if_neg h4]
          by_cases h5 : c = 60
          · rw [if_pos h5, if_pos h5]
            split <;> rfl
          · rw [if_neg h5, if_neg h5]
            by_cases h6 : c = 61
            · rw [if_pos h6, if_pos h6]
              split <;> rfl
            · rw [if_neg h6, if_neg h6]
              by_cases h7 : c = 62
              · rw [if_pos h7, if_pos h7]
                split <;> rfl
              · rw [if_neg h7, if_neg h7]
                by_cases h8 : c = 124
                · rw [if_pos h8, if_pos h8]
                  split
                  · split <;> rfl
                  · rfl
                · rw [if_neg h8, if_neg h8]
                  by_cases h9 : b = 0
                  · rw [if_pos h9, if_pos h9]
                  · rw [if_neg h9, if_neg h9, if_pos h9]
theorem div_m1 (a : Int32) : a / (-1) = -a := by
  apply Int32.toInt_inj.mp
  rw [Int32.toInt_div, show (-1 : Int32).toInt = -1 from rfl, Int32.toInt_neg, Int.tdiv_neg, Int.tdiv_one]
theorem m_joined {c : Int32} (hc : sgn c) (a b : Int32) : cI d 211 [.int c, .int a, .int b] μ = some (joI c a b, μ) := by
  refine i_211 ?_
  rw [q_211_0]
  unfold joI
  rcases hc with c | c | c | c | c | c | c | c | c <;> subst c
  · simp only [if_neg (show ¬ (124 : Int32) = 38 by decide), if_neg (show ¬ (124 : Int32) = 39 by decide), if_neg (show ¬ (124 : Int32) = 40 by decide), if_neg (show ¬ (124 : Int32) = 41 by decide), if_neg (show ¬ (124 : Int32) = 42 by decide), if_neg (show ¬ (124 : Int32) = 43 by decide), if_neg (show ¬ (124 : Int32) = 44 by decide), if_neg (show ¬ (124 : Int32) = 45 by decide), if_neg (show ¬ (124 : Int32) = 46 by decide), if_neg (show ¬ (124 : Int32) = 47 by decide), if_neg (show ¬ (124 : Int32) = 48 by decide), if_neg (show ¬ (124 : Int32) = 49 by decide), if_neg (show ¬ (124 : Int32) = 50 by decide), if_neg (show ¬ (124 : Int32) = 51 by decide), if_neg (show ¬ (124 : Int32) = 52 by decide), if_neg (show ¬ (124 : Int32) = 53 by decide), if_neg (show ¬ (124 : Int32) = 54 by decide), if_neg (show ¬ (124 : Int32) = 55 by decide), if_neg (show ¬ (124 : Int32) = 56 by decide), if_neg (show ¬ (124 : Int32) = 57 by decide), if_neg (show ¬ (124 : Int32) = 58 by decide), if_neg (show ¬ (124 : Int32) = 59 by decide), if_neg (show ¬ (124 : Int32) = 60 by decide), if_neg (show ¬ (124 : Int32) = 61 by decide), if_neg (show ¬ (124 : Int32) = 62 by decide), if_true, q_211_197, q_211_205, q_211_210]
    split
    · split <;> rfl
    · rfl
  · simp only [if_neg (show ¬ (38 : Int32) = 42 by decide), if_neg (show ¬ (38 : Int32) = 43 by decide), if_neg (show ¬ (38 : Int32) = 45 by decide), if_neg (show ¬ (38 : Int32) = 60 by decide), if_neg (show ¬ (38 : Int32) = 61 by decide), if_neg (show ¬ (38 : Int32) = 62 by decide), if_neg (show ¬ (38 : Int32) = 124 by decide), if_true, q_211_195, q_211_196]
    split
    · rfl
    · split <;> rfl
  · simp only [if_neg (show ¬ (60 : Int32) = 38 by decide), if_neg (show ¬ (60 : Int32) = 39 by decide), if_neg (show ¬ (60 : Int32) = 40 by decide), if_neg (show ¬ (60 : Int32) = 41 by decide), if_neg (show ¬ (60 : Int32) = 42 by decide), if_neg (show ¬ (60 : Int32) = 43 by decide), if_neg (show ¬ (60 : Int32) = 44 by decide), if_neg (show ¬ (60 : Int32) = 45 by decide), if_neg (show ¬ (60 : Int32) = 46 by decide), if_neg (show ¬ (60 : Int32) = 47 by decide), if_neg (show ¬ (60 : Int32) = 48 by decide), if_neg (show ¬ (60 : Int32) = 49 by decide), if_neg (show ¬ (60 : Int32) = 50 by decide), if_neg (show ¬ (60 : Int32) = 51 by decide), if_neg (show ¬ (60 : Int32) = 52 by decide), if_neg (show ¬ (60 : Int32) = 53 by decide), if_neg (show ¬ (60 : Int32) = 54 by decide), if_neg (show ¬ (60 : Int32) = 55 by decide), if_neg (show ¬ (60 : Int32) = 56 by decide), if_neg (show ¬ (60 : Int32) = 57 by decide), if_neg (show ¬ (60 : Int32) = 58 by decide), if_neg (show ¬ (60 : Int32) = 59 by decide), if_neg (show ¬ (60 : Int32) = 61 by decide), if_neg (show ¬ (60 : Int32) = 62 by decide), if_neg (show ¬ (60 : Int32) = 124 by decide), if_true, q_211_160]
    split <;> rfl
  · simp only [if_neg (show ¬ (61 : Int32) = 38 by decide), if_neg (show ¬ (61 : Int32) = 39 by decide), if_neg (show ¬ (61 : Int32) = 40 by decide), if_neg (show ¬ (61 : Int32) = 41 by decide), if_neg (show ¬ (61 : Int32) = 42 by decide), if_neg (show ¬ (61 : Int32) = 43 by decide), if_neg (show ¬ (61 : Int32) = 44 by decide), if_neg (show ¬ (61 : Int32) = 45 by decide), if_neg (show ¬ (61 : Int32) = 46 by decide), if_neg (show ¬ (61 : Int32) = 47 by decide), if_neg (show ¬ (61 : Int32) = 48 by decide), if_neg (show ¬ (61 : Int32) = 49 by decide), if_neg (show ¬ (61 : Int32) = 50 by decide), if_neg (show ¬ (61 : Int32) = 51 by decide), if_neg (show ¬ (61 : Int32) = 52 by decide), if_neg (show ¬ (61 : Int32) = 53 by decide), if_neg (show ¬ (61 : Int32) = 54 by decide), if_neg (show ¬ (61 : Int32) = 55 by decide), if_neg (show ¬ (61 : Int32) = 56 by decide), if_neg (show ¬ (61 : Int32) = 57 by decide), if_neg (show ¬ (61 : Int32) = 58 by decide), if_neg (show ¬ (61 : Int32) = 59 by decide), if_neg (show ¬ (61 : Int32) = 60 by decide), if_neg (show ¬ (61 : Int32) = 62 by decide), if_neg (show ¬ (61 : Int32) = 124 by decide), if_true, q_211_182]
    split <;> rfl
  · simp only [if_neg (show ¬ (62 : Int32) = 38 by decide), if_neg (show ¬ (62 : Int32) = 39 by decide), if_neg (show ¬ (62 : Int32) = 40 by decide), if_neg (show ¬ (62 : Int32) = 41 by decide), if_neg (show ¬ (62 : Int32) = 42 by decide), if_neg (show ¬ (62 : Int32) = 43 by decide), if_neg (show ¬ (62 : Int32) = 44 by decide), if_neg (show ¬ (62 : Int32) = 45 by decide), if_neg (show ¬ (62 : Int32) = 46 by decide), if_neg (show ¬ (62 : Int32) = 47 by decide), if_neg (show ¬ (62 : Int32) = 48 by decide), if_neg (show ¬ (62 : Int32) = 49 by decide), if_neg (show ¬ (62 : Int32) = 50 by decide), if_neg (show ¬ (62 : Int32) = 51 by decide), if_neg (show ¬ (62 : Int32) = 52 by decide), if_neg (show ¬ (62 : Int32) = 53 by decide), if_neg (show ¬ (62 : Int32) = 54 by decide), if_neg (show ¬ (62 : Int32) = 55 by decide), if_neg (show ¬ (62 : Int32) = 56 by decide), if_neg (show ¬ (62 : Int32) = 57 by decide), if_neg (show ¬ (62 : Int32) = 58 by decide), if_neg (show ¬ (62 : Int32) = 59 by decide), if_neg (show ¬ (62 : Int32) = 60 by decide), if_neg (show ¬ (62 : Int32) = 61 by decide), if_neg (show ¬ (62 : Int32) = 124 by decide), if_true, q_211_171]
    split <;> rfl
  · simp only [if_neg (show ¬ (43 : Int32) = 38 by decide), if_neg (show ¬ (43 : Int32) = 39 by decide), if_neg (show ¬ (43 : Int32) = 40 by decide), if_neg (show ¬ (43 : Int32) = 41 by decide), if_neg (show ¬ (43 : Int32) = 42 by decide), if_neg (show ¬ (43 : Int32) = 45 by decide), if_neg (show ¬ (43 : Int32) = 60 by decide), if_neg (show ¬ (43 : Int32) = 61 by decide), if_neg (show ¬ (43 : Int32) = 62 by decide), if_neg (show ¬ (43 : Int32) = 124 by decide), if_true]
  · simp only [if_neg (show ¬ (45 : Int32) = 38 by decide), if_neg (show ¬ (45 : Int32) = 39 by decide), if_neg (show ¬ (45 : Int32) = 40 by decide), if_neg (show ¬ (45 : Int32) = 41 by decide), if_neg (show ¬ (45 : Int32) = 42 by decide), if_neg (show ¬ (45 : Int32) = 43 by decide), if_neg (show ¬ (45 : Int32) = 44 by decide), if_neg (show ¬ (45 : Int32) = 60 by decide), if_neg (show ¬ (45 : Int32) = 61 by decide), if_neg (show ¬ (45 : Int32) = 62 by decide), if_neg (show ¬ (45 : Int32) = 124 by decide), if_true]
  · simp only [if_neg (show ¬ (42 : Int32) = 38 by decide), if_neg (show ¬ (42 : Int32) = 39 by decide), if_neg (show ¬ (42 : Int32) = 40 by decide), if_neg (show ¬ (42 : Int32) = 41 by decide), if_neg (show ¬ (42 : Int32) = 43 by decide), if_neg (show ¬ (42 : Int32) = 45 by decide), if_neg (show ¬ (42 : Int32) = 60 by decide), if_neg (show ¬ (42 : Int32) = 61 by decide), if_neg (show ¬ (42 : Int32) = 62 by decide), if_neg (show ¬ (42 : Int32) = 124 by decide), if_true]
  · simp only [if_neg (show ¬ (47 : Int32) = 38 by decide), if_neg (show ¬ (47 : Int32) = 39 by decide), if_neg (show ¬ (47 : Int32) = 40 by decide), if_neg (show ¬ (47 : Int32) = 41 by decide), if_neg (show ¬ (47 : Int32) = 42 by decide), if_neg (show ¬ (47 : Int32) = 43 by decide), if_neg (show ¬ (47 : Int32) = 44 by decide), if_neg (show ¬ (47 : Int32) = 45 by decide), if_neg (show ¬ (47 : Int32) = 46 by decide), if_neg (show ¬ (47 : Int32) = 60 by decide), if_neg (show ¬ (47 : Int32) = 61 by decide), if_neg (show ¬ (47 : Int32) = 62 by decide), if_neg (show ¬ (47 : Int32) = 124 by decide), if_true, q_211_149]
    by_cases h1 : b = 0
    · rw [if_pos h1, if_pos h1]
    · rw [if_neg h1, if_neg h1]
      by_cases h2 : b = -1
      · rw [if_pos h2, h2, div_m1]
      · rw [if_neg h2, if_pos h1]
/-- the pile behind k steps -/
def evF (s : Nat → Int32) (a : Nat) (e : Int32 → Int32) : Nat → Nat → Int32
  | 0 => fun _ => 0
  | k + 1 => if s (a + 4 + 2 * k) = 2 then (if s (a + 4 + 2 * k + 1) = 33 then up1 (evF s a e k) (hgt s a k - 1) (if evF s a e k (hgt s a k - 1) = 0 then 1 else 0) else up1 (evF s a e k) (hgt s a k - 2) (joI (s (a + 4 + 2 * k + 1)) (evF s a e k (hgt s a k - 2)) (evF s a e k (hgt s a k - 1)))) else up1 (evF s a e k) (hgt s a k) (if s (a + 4 + 2 * k) = 0 then s (a + 4 + 2 * k + 1) else e (s (a + 4 + 2 * k + 1)))
def e3 (key x y z v : Int32) : Int32 := if nmI key v = -1 then x else if nmI key v = -2 then y else z
def vaS (s : Nat → Int32) (a k : Nat) (x y z : Int32) : Int32 := evF s a (e3 (s a) x y z) k 0
theorem hgt_le {a : Nat} : ∀ k, hgt s a k ≤ k
  | 0 => Nat.le_refl _
  | k + 1 => by
    have := hgt_le (a := a) k
    unfold hgt
    split
    · split <;> omega
    · omega
theorem sg_c {v : Int32} (h : sgn v) : (-v < -3) ∧ ¬ (-v = -33) ∧ (- -v = v) ∧ ¬ v = 33 := by
  rcases h with c | c | c | c | c | c | c | c | c <;> subst c <;> decide
theorem nm_c {key v : Int32} (h : isNm key v) : (nmI key v = -1 ∨ nmI key v = -2 ∨ nmI key v = -3) ∧ ∃ i, i < 128 ∧ v = nI i := by
  rcases h with ⟨c, h⟩ | ⟨c, h⟩ | ⟨c, h⟩
  · subst c
    rcases h with h | h | h <;> subst h
    · exact ⟨by decide, 103, by decide, rfl⟩
    · exact ⟨by decide, 116, by decide, rfl⟩
    · exact ⟨by decide, 102, by decide, rfl⟩
  · subst c
    rcases h with h | h | h <;> subst h
    · exact ⟨by decide, 110, by decide, rfl⟩
    · exact ⟨by decide, 103, by decide, rfl⟩
    · exact ⟨by decide, 116, by decide, rfl⟩
  · subst c
    rcases h with h | h <;> subst h
    · exact ⟨by decide, 101, by decide, rfl⟩
    · exact ⟨by decide, 100, by decide, rfl⟩
/-- what one step asks and does, for both -/
theorem step_c {a k K : Nat} (W : TW s a K) (hk : k < K) : (s (a + 4 + 2 * k) = 0 ∧ (0 ≤ s (a + 4 + 2 * k + 1) ∧ s (a + 4 + 2 * k + 1) ≤ 9999) ∧ hgt s a (k + 1) = hgt s a k + 1) ∨ (s (a + 4 + 2 * k) = 1 ∧ isNm (s a) (s (a + 4 + 2 * k + 1)) ∧ hgt s a (k + 1) = hgt s a k + 1) ∨ (s (a + 4 + 2 * k) = 2 ∧ s (a + 4 + 2 * k + 1) = 33 ∧ 1 ≤ hgt s a k ∧ hgt s a (k + 1) = hgt s a k) ∨ (s (a + 4 + 2 * k) = 2 ∧ sgn (s (a + 4 + 2 * k + 1)) ∧ 2 ≤ hgt s a k ∧ hgt s a (k + 1) = hgt s a k - 1) := by
  obtain ⟨-, -, -, w4, -⟩ := W
  obtain ⟨o, hh⟩ := w4 k hk
  rcases o with ⟨c1, c2⟩ | ⟨c1, c2⟩ | ⟨c1, c2⟩
  · refine Or.inl ⟨c1, c2, ?_⟩
    show (if s (a + 4 + 2 * k) = 2 then _ else _) = _
    rw [if_neg (by rw [c1]; decide)]
  · refine Or.inr (Or.inl ⟨c1, c2, ?_⟩)
    show (if s (a + 4 + 2 * k) = 2 then _ else _) = _
    rw [if_neg (by rw [c1]; decide)]
  · have h2 := hh c1
    rcases c2 with c2 | c2
    · rw [if_pos c2] at h2
      refine Or.inr (Or.inr (Or.inl ⟨c1, c2, h2, ?_⟩))
      show (if s (a + 4 + 2 * k) = 2 then (if s (a + 4 + 2 * k + 1) = 33 then _ else _) else _) = _
      rw [if_pos c1, if_pos c2]
    · have c3 := (sg_c c2).2.2.2
      rw [if_neg c3] at h2
      refine Or.inr (Or.inr (Or.inr ⟨c1, c2, h2, ?_⟩))
      show (if s (a + 4 + 2 * k) = 2 then (if s (a + 4 + 2 * k + 1) = 33 then _ else _) else _) = _
      rw [if_pos c1, if_neg c3]
theorem c_valueL (h : Lay L σ) {c a K : Nat} (W : TW s a K) (hc : σ.2.1 c = (7, 3)) (hz : σ.1 c 2 = c + 1) (hy : σ.2.1 (c + 1) = (10, K)) (h124 : 124 ≤ c) (x y z : Int32) : ∀ (n k : Nat) (F : Nat → Nat → Int32) (w : Value), (∀ j, j < K → F (c + 1) j = encI (s a) (s (a + 4 + 2 * j)) (s (a + 4 + 2 * j + 1))) → (∀ j, j < hgt s a k → F 62 j = evF s a (e3 (s a) x y z) k j) → k + n = K → ∃ F', Rn (d + 1) 39 (6, [.ref 55, .ref c, .int x, .int y, .int z, .int (nI (hgt s a k)), .int (nI k), w], [], (F, J, σ)) = some (some (.int (vaS s a K x y z)), (F', J, σ)) ∧ ∀ b, b ≠ 62 → F' b = F b
  | 0, k, F, w, hf, hs, e => by
    have ek : k = K := by omega
    subst ek
    have hl : rdL (F, J, σ) (c + 1) = some (nI k) := by
      unfold rdL
      simp only [mS, hy]
      rw [if_pos (Or.inl ⟨by decide, by decide⟩)]
      rfl
    have h1 : hgt s a k = 1 := W.2.2.2.2
    refine ⟨F, ?_, fun b _ => rfl⟩
    rw [q_39_6]
    simp only [mS, mR, hc, hz, hl, Option.bind_some, Y_55 h, Z_55_6 h, if_true]
    rw [if_pos (Int32.le_refl _), h1, if_neg (by decide), show rdI (F, J, σ) 62 0 = some (F 62 0) from rd_k (i := 0) (Y_62 h) (by decide) (by decide), hs 0 (by omega)]
    rfl
  | n + 1, k, F, w, hf, hs, e => by
    have hK := W.2.2.1
    have hk : k < K := by omega
    have hle := hgt_le (s := s) (a := a) k
    have hl : rdL (F, J, σ) (c + 1) = some (nI K) := by
      unfold rdL
      simp only [mS, hy]
      rw [if_pos (Or.inl ⟨by decide, by decide⟩)]
      rfl
    have rdc : rdI (F, J, σ) (c + 1) (nI k) = some (encI (s a) (s (a + 4 + 2 * k)) (s (a + 4 + 2 * k + 1))) := by rw [rd_k hy hk (by omega), hf k hk]
    -- what is left once the step is seen
    have fin : ∀ (G : Nat → Int32) (w' : Value), (∀ j, j < hgt s a (k + 1) → G j = evF s a (e3 (s a) x y z) (k + 1) j) → ∃ F', Rn (d + 1) 39 (6, [.ref 55, .ref c, .int x, .int y, .int z, .int (nI (hgt s a (k + 1))), .int (nI (k + 1)), w'], [], (up1 F 62 G, J, σ)) = some (some (.int (vaS s a K x y z)), (F', J, σ)) ∧ ∀ b, b ≠ 62 → F' b = F b := fun G w' hG => by
      obtain ⟨F', g1, g2⟩ := c_valueL h W hc hz hy h124 x y z n (k + 1) (up1 F 62 G) w' (fun j hj => by rw [up1_ne _ _ (by omega)]; exact hf j hj) (by rw [up1_s]; exact hG) (by omega)
      exact ⟨F', g1, fun b hb => by rw [g2 b hb, up1_ne _ _ hb]⟩
    rw [q_39_6]
    simp only [mS, mR, hc, hz, hl, Option.bind_some, Y_55 h, Z_55_6 h, Y_62 h, if_true, rdc, nI_s]
    rw [if_neg (nle hk (by omega))]
    rcases step_c W hk with ⟨c1, c2, c3⟩ | ⟨c1, c2, c3⟩ | ⟨c1, c2, c3, c4⟩ | ⟨c1, c2, c3, c4⟩
    · have ee : encI (s a) (s (a + 4 + 2 * k)) (s (a + 4 + 2 * k + 1)) = s (a + 4 + 2 * k + 1) := if_pos c1
      have ev : evF s a (e3 (s a) x y z) (k + 1) = up1 (evF s a (e3 (s a) x y z) k) (hgt s a k) (s (a + 4 + 2 * k + 1)) := by
        show (if s (a + 4 + 2 * k) = 2 then _ else up1 _ _ (if s (a + 4 + 2 * k) = 0 then _ else _)) = _
        rw [if_neg (by rw [c1]; decide), if_pos c1]
      rw [ee, if_neg (fun q => absurd (Int32.lt_of_lt_of_le q (by decide)) (Int32.not_lt.mpr c2.1)), if_neg (show ¬ (96 : Int32) ≤ nI (hgt s a k) from nle (a := 96) (by omega) (by decide)), if_neg (Int32.not_lt.mpr c2.1), if_pos ⟨trivial, inb_nI (by omega) (by decide)⟩, ix_nI (by omega), setF_up, ← c3]
      refine fin _ _ (fun j hj => ?_)
      rw [ev]
      by_cases ej : j = hgt s a k
      · rw [ej, up1_s, up1_s]
      · rw [up1_n _ _ ej, up1_n _ _ ej]; exact hs j (by omega)
    · have ee : encI (s a) (s (a + 4 + 2 * k)) (s (a + 4 + 2 * k + 1)) = nmI (s a) (s (a + 4 + 2 * k + 1)) := by unfold encI; rw [if_neg (by rw [c1]; decide), if_pos c1]
      have ev : evF s a (e3 (s a) x y z) (k + 1) = up1 (evF s a (e3 (s a) x y z) k) (hgt s a k) (e3 (s a) x y z (s (a + 4 + 2 * k + 1))) := by
        show (if s (a + 4 + 2 * k) = 2 then _ else up1 _ _ (if s (a + 4 + 2 * k) = 0 then _ else _)) = _
        rw [if_neg (by rw [c1]; decide), if_neg (by rw [c1]; decide)]
      have fin2 : ∀ (v : Int32) (w' : Value), e3 (s a) x y z (s (a + 4 + 2 * k + 1)) = v → ∃ F', Rn (d + 1) 39 (6, [.ref 55, .ref c, .int x, .int y, .int z, .int (nI (hgt s a k + 1)), .int (nI (k + 1)), w'], [], (up1 F 62 (up1 (F 62) (hgt s a k) v), J, σ)) = some (some (.int (vaS s a K x y z)), (F', J, σ)) ∧ ∀ b, b ≠ 62 → F' b = F b := fun v w' hv => by
        rw [← c3]
        refine fin _ _ (fun j hj => ?_)
        rw [ev, hv]
        by_cases ej : j = hgt s a k
        · rw [ej, up1_s, up1_s]
        · rw [up1_n _ _ ej, up1_n _ _ ej]; exact hs j (by omega)
      rw [ee, ix_nI (by omega)]
      have ib : True ∧ inb (nI (hgt s a k)) 96 := ⟨trivial, inb_nI (by omega) (by decide)⟩
      have n96 : ¬ (96 : Int32) ≤ nI (hgt s a k) := nle (a := 96) (by omega) (by decide)
      rcases (nm_c c2).1 with c | c | c
      · have hv : e3 (s a) x y z (s (a + 4 + 2 * k + 1)) = x := if_pos c
        rw [c, if_neg (by decide), if_neg n96, if_pos (by decide), if_pos rfl, if_pos ib, setF_up]
        exact fin2 x _ hv
      · have hv : e3 (s a) x y z (s (a + 4 + 2 * k + 1)) = y := by unfold e3; rw [if_neg (by rw [c]; decide), if_pos c]
        rw [c, if_neg (by decide), if_neg n96, if_pos (by decide), if_neg (by decide), if_pos rfl, if_pos ib, setF_up]
        exact fin2 y _ hv
      · have hv : e3 (s a) x y z (s (a + 4 + 2 * k + 1)) = z := by unfold e3; rw [if_neg (by rw [c]; decide), if_neg (by rw [c]; decide)]
        rw [c, if_neg (by decide), if_neg n96, if_pos (by decide), if_neg (by decide), if_neg (by decide), if_pos ib, setF_up]
        exact fin2 z _ hv
    · have ee : encI (s a) (s (a + 4 + 2 * k)) (s (a + 4 + 2 * k + 1)) = -33 := by unfold encI; rw [if_neg (by rw [c1]; decide), if_neg (by rw [c1]; decide), c2]
      have ev : evF s a (e3 (s a) x y z) (k + 1) = up1 (evF s a (e3 (s a) x y z) k) (hgt s a k - 1) (if evF s a (e3 (s a) x y z) k (hgt s a k - 1) = 0 then 1 else 0) := by
        show (if s (a + 4 + 2 * k) = 2 then (if s (a + 4 + 2 * k + 1) = 33 then _ else _) else _) = _
        rw [if_pos c1, if_pos c2]
      have e1 : nI (hgt s a k) - 1 = nI (hgt s a k - 1) := pk_sub (b := 1) c3
      have fin2 : ∀ (v : Int32) (w' : Value), (if evF s a (e3 (s a) x y z) k (hgt s a k - 1) = 0 then (1 : Int32) else 0) = v → ∃ F', Rn (d + 1) 39 (6, [.ref 55, .ref c, .int x, .int y, .int z, .int (nI (hgt s a k)), .int (nI (k + 1)), w'], [], (up1 F 62 (up1 (F 62) (hgt s a k - 1) v), J, σ)) = some (some (.int (vaS s a K x y z)), (F', J, σ)) ∧ ∀ b, b ≠ 62 → F' b = F b := fun v w' hv => by
        have := fin (up1 (F 62) (hgt s a k - 1) v) w' (fun j hj => by
          rw [ev, hv]
          by_cases ej : j = hgt s a k - 1
          · rw [ej, up1_s, up1_s]
          · rw [up1_n _ _ ej, up1_n _ _ ej]; exact hs j (by omega))
        rw [c4] at this
        exact this
      have ib : True ∧ inb (nI (hgt s a k - 1)) 96 := ⟨trivial, inb_nI (by omega) (by decide)⟩
      rw [ee, if_pos (by decide), if_pos rfl, if_neg (show ¬ nI (hgt s a k) < (1 : Int32) from nlt (b := 1) c3 (by omega)), e1, rd_k (Y_62 h) (by omega) (by decide), Option.bind_some, hs _ (by omega), if_pos ib, ix_nI (by omega), setF_up, setF_up]
      by_cases cv : evF s a (e3 (s a) x y z) k (hgt s a k - 1) = 0
      · rw [if_pos cv]
        exact fin2 1 _ (if_pos cv)
      · rw [if_neg cv, if_pos ib]
        exact fin2 0 _ (if_neg cv)
    · obtain ⟨g1, g2, g3, g4⟩ := sg_c c2
      have ee : encI (s a) (s (a + 4 + 2 * k)) (s (a + 4 + 2 * k + 1)) = -s (a + 4 + 2 * k + 1) := by unfold encI; rw [if_neg (by rw [c1]; decide), if_neg (by rw [c1]; decide)]
      have ev : evF s a (e3 (s a) x y z) (k + 1) = up1 (evF s a (e3 (s a) x y z) k) (hgt s a k - 2) (joI (s (a + 4 + 2 * k + 1)) (evF s a (e3 (s a) x y z) k (hgt s a k - 2)) (evF s a (e3 (s a) x y z) k (hgt s a k - 1))) := by
        show (if s (a + 4 + 2 * k) = 2 then (if s (a + 4 + 2 * k + 1) = 33 then _ else _) else _) = _
        rw [if_pos c1, if_neg g4]
      have e1 : nI (hgt s a k) + (-1) = nI (hgt s a k - 1) := by
        have := pk_m1 (hgt s a k - 1)
        rw [show hgt s a k - 1 + 1 = hgt s a k by omega] at this
        exact this
      have e2 : nI (hgt s a k - 1) - 1 = nI (hgt s a k - 2) := by rw [show nI (hgt s a k - 1) - 1 = nI (hgt s a k - 1 - 1) from pk_sub (b := 1) (by omega), show hgt s a k - 1 - 1 = hgt s a k - 2 by omega]
      have ib : True ∧ inb (nI (hgt s a k - 2)) 96 := ⟨trivial, inb_nI (by omega) (by decide)⟩
      rw [ee, if_pos g1, if_neg g2, if_neg (show ¬ nI (hgt s a k) < (2 : Int32) from nlt (b := 2) c3 (by omega)), e1, e2, rd_k (Y_62 h) (by omega) (by decide), Option.bind_some, rd_k (Y_62 h) (by omega) (by decide), Option.bind_some, g3, c_joined, Option.bind_some]
      simp only [Y_62 h]
      rw [if_pos ib, ix_nI (by omega), setF_up, hs _ (by omega), hs _ (by omega), ← c4]
      refine fin _ _ (fun j hj => ?_)
      rw [ev]
      by_cases ej : j = hgt s a k - 2
      · rw [ej, up1_s, up1_s, c4]
      · rw [up1_n _ _ ej, up1_n _ _ ej]; exact hs j (by omega)
theorem c_value (h : Lay L σ) {c a : Nat} (X : TX F σ c s a) (x y z : Int32) : ∃ K F', TW s a K ∧ cI (d + 1) 39 [.ref 55, .ref c, .int x, .int y, .int z] (F, J, σ) = some (vaS s a K x y z, (F', J, σ)) ∧ ∀ b, b ≠ 62 → F' b = F b := by
  obtain ⟨K, W, ⟨c1, c2, c3⟩, y1, y2, y3, f1, f2, f3⟩ := X
  obtain ⟨F', g1, g2⟩ := c_valueL (d := d) (J := J) h W y1 y2 y3 c1 x y z K 0 F un f3 (fun j hj => absurd hj (by unfold hgt; omega)) (by omega)
  refine ⟨K, F', W, ?_, g2⟩
  refine i_39 ?_
  rw [q_39_0]
  exact g1
theorem m_workedL (h : Lay L σ) {t K : Nat} (ht : t < 14) (x y z : Int32) : ∀ (n k : Nat) (F : Nat → Nat → Int32) (w4 w5 : Value), F 100 = s → TW s (114 + 200 * t) K → (∀ i, i < 128 → isNm (s (114 + 200 * t)) (nI i) → F 118 i = e3 (s (114 + 200 * t)) x y z (nI i)) → (∀ j, j < hgt s (114 + 200 * t) k → F 119 j = evF s (114 + 200 * t) (e3 (s (114 + 200 * t)) x y z) k j) → k + n = K → ∃ F', Rn (d + 1) 212 (4, [.ref 99, .int (nI t), .int (nI (hgt s (114 + 200 * t) k)), .int (nI k), w4, w5], [], (F, J, σ)) = some (some (.int (vaS s (114 + 200 * t) K x y z)), (F', J, σ)) ∧ ∀ b, b ≠ 119 → F' b = F b
  | 0, k, F, w4, w5, hF, W, hn, hs, e => by
    have ek : k = K := by omega
    subst ek
    obtain ⟨a, ea⟩ : ∃ a, a = 114 + 200 * t := ⟨_, rfl⟩
    have h1 : hgt s (114 + 200 * t) k = 1 := W.2.2.2.2
    have t9 : True ∧ 99 < 999999 := ⟨trivial, by decide⟩
    refine ⟨F, ?_, fun b _ => rfl⟩
    rw [q_212_4]
    simp only [mS, mR, Y_99 h, Z_99_0 h, Z_99_32 h, if_true, if_pos t9, m_textAt, Option.bind_some, nI_2]
    rw [rd_100 h (by omega), hF, W.2.1, Option.bind_some, if_pos (Int32.le_refl _), show rdI (F, J, σ) 119 0 = some (F 119 0) from rd_k (i := 0) (Y_119 h) (by decide) (by decide), hs 0 (by omega)]
    rfl
  | n + 1, k, F, w4, w5, hF, W, hn, hs, e => by
    obtain ⟨a, ea⟩ : ∃ a, a = 114 + 200 * t := ⟨_, rfl⟩
    have ih := fun (F : Nat → Nat → Int32) w4 w5 => m_workedL (K := K) h ht x y z n (k + 1) F w4 w5
    rw [← ea] at W hn hs ih ⊢
    have hK := W.2.2.1
    have hk : k < K := by omega
    have hle := hgt_le (s := s) (a := a) k
    have t9 : True ∧ 99 < 999999 := ⟨trivial, by decide⟩
    have fin : ∀ (G : Nat → Int32) (w' w'' : Value), (∀ j, j < hgt s a (k + 1) → G j = evF s a (e3 (s a) x y z) (k + 1) j) → ∃ F', Rn (d + 1) 212 (4, [.ref 99, .int (nI t), .int (nI (hgt s a (k + 1))), .int (nI (k + 1)), w', w''], [], (up1 F 119 G, J, σ)) = some (some (.int (vaS s a K x y z)), (F', J, σ)) ∧ ∀ b, b ≠ 119 → F' b = F b := fun G w' w'' hG => by
      obtain ⟨F', g1, g2⟩ := ih (up1 F 119 G) w' w'' (by rw [up1_ne _ _ (by decide)]; exact hF) W (fun i hi hm => by rw [up1_ne _ _ (by decide)]; exact hn i hi hm) (by rw [up1_s]; exact hG) (by omega)
      exact ⟨F', g1, fun b hb => by rw [g2 b hb, up1_ne _ _ hb]⟩
    have r0 : rdI (F, J, σ) 100 (nI (a + 2)) = some (nI K) := by rw [rd_100 h (by omega), hF, W.2.1]
    have r1 : rdI (F, J, σ) 100 (nI (a + 4 + 2 * k)) = some (s (a + 4 + 2 * k)) := by rw [rd_100 h (by omega), hF]
    have r2 : rdI (F, J, σ) 100 (nI (a + 4 + 2 * k + 1)) = some (s (a + 4 + 2 * k + 1)) := by rw [rd_100 h (by omega), hF]
    have m2 : (2 : Int32) * nI k = nI (2 * k) := pk_mul 2 k
    rw [q_212_4]
    simp only [mS, mR, Y_99 h, Z_99_0 h, Z_99_32 h, Z_99_31 h, Y_119 h, if_true, if_pos t9, m_textAt, ← ea, Option.bind_some, nI_2, nI_4, m2, nI_add, nI_s, r0, r1, r2]
    rw [if_neg (nle hk (by omega))]
    rcases step_c W hk with ⟨c1, c2, c3⟩ | ⟨c1, c2, c3⟩ | ⟨c1, c2, c3, c4⟩ | ⟨c1, c2, c3, c4⟩
    · have ev : evF s a (e3 (s a) x y z) (k + 1) = up1 (evF s a (e3 (s a) x y z) k) (hgt s a k) (s (a + 4 + 2 * k + 1)) := by
        show (if s (a + 4 + 2 * k) = 2 then _ else up1 _ _ (if s (a + 4 + 2 * k) = 0 then _ else _)) = _
        rw [if_neg (by rw [c1]; decide), if_pos c1]
      rw [if_neg (by rw [c1]; decide), if_pos c1, if_pos ⟨trivial, inb_nI (by omega) (by decide)⟩, ix_nI (by omega), setF_up, ← c3]
      refine fin _ _ _ (fun j hj => ?_)
      rw [ev]
      by_cases ej : j = hgt s a k
      · rw [ej, up1_s, up1_s]
      · rw [up1_n _ _ ej, up1_n _ _ ej]; exact hs j (by omega)
    · have ev : evF s a (e3 (s a) x y z) (k + 1) = up1 (evF s a (e3 (s a) x y z) k) (hgt s a k) (e3 (s a) x y z (s (a + 4 + 2 * k + 1))) := by
        show (if s (a + 4 + 2 * k) = 2 then _ else up1 _ _ (if s (a + 4 + 2 * k) = 0 then _ else _)) = _
        rw [if_neg (by rw [c1]; decide), if_neg (by rw [c1]; decide)]
      obtain ⟨i, hi, ei⟩ := (nm_c c2).2
      have r3 : rdI (F, J, σ) 118 (s (a + 4 + 2 * k + 1)) = some (e3 (s a) x y z (s (a + 4 + 2 * k + 1))) := by rw [ei, rd_k (Y_118 h) hi (by decide), hn i hi (by rw [← ei]; exact c2)]
      rw [if_neg (by rw [c1]; decide), if_neg (by rw [c1]; decide), r3, Option.bind_some, if_pos ⟨trivial, inb_nI (by omega) (by decide)⟩, ix_nI (by omega), setF_up, ← c3]
      refine fin _ _ _ (fun j hj => ?_)
      rw [ev]
      by_cases ej : j = hgt s a k
      · rw [ej, up1_s, up1_s]
      · rw [up1_n _ _ ej, up1_n _ _ ej]; exact hs j (by omega)
    · have ev : evF s a (e3 (s a) x y z) (k + 1) = up1 (evF s a (e3 (s a) x y z) k) (hgt s a k - 1) (if evF s a (e3 (s a) x y z) k (hgt s a k - 1) = 0 then 1 else 0) := by
        show (if s (a + 4 + 2 * k) = 2 then (if s (a + 4 + 2 * k + 1) = 33 then _ else _) else _) = _
        rw [if_pos c1, if_pos c2]
      have e1 : nI (hgt s a k) - 1 = nI (hgt s a k - 1) := pk_sub (b := 1) c3
      have fin2 : ∀ (v : Int32) (w' w'' : Value), (if evF s a (e3 (s a) x y z) k (hgt s a k - 1) = 0 then (1 : Int32) else 0) = v → ∃ F', Rn (d + 1) 212 (4, [.ref 99, .int (nI t), .int (nI (hgt s a k)), .int (nI (k + 1)), w', w''], [], (up1 F 119 (up1 (F 119) (hgt s a k - 1) v), J, σ)) = some (some (.int (vaS s a K x y z)), (F', J, σ)) ∧ ∀ b, b ≠ 119 → F' b = F b := fun v w' w'' hv => by
        have := fin (up1 (F 119) (hgt s a k - 1) v) w' w'' (fun j hj => by
          rw [ev, hv]
          by_cases ej : j = hgt s a k - 1
          · rw [ej, up1_s, up1_s]
          · rw [up1_n _ _ ej, up1_n _ _ ej]; exact hs j (by omega))
        rw [c4] at this
        exact this
      have ib : True ∧ inb (nI (hgt s a k - 1)) 100 := ⟨trivial, inb_nI (by omega) (by decide)⟩
      rw [if_pos c1, if_pos c2, e1, rd_k (Y_119 h) (by omega) (by decide), Option.bind_some, hs _ (by omega), if_pos ib, ix_nI (by omega), setF_up, setF_up]
      by_cases cv : evF s a (e3 (s a) x y z) k (hgt s a k - 1) = 0
      · rw [if_pos cv]
        exact fin2 1 _ _ (if_pos cv)
      · rw [if_neg cv, if_pos ib]
        exact fin2 0 _ _ (if_neg cv)
    · obtain ⟨g1, g2, g3, g4⟩ := sg_c c2
      have ev : evF s a (e3 (s a) x y z) (k + 1) = up1 (evF s a (e3 (s a) x y z) k) (hgt s a k - 2) (joI (s (a + 4 + 2 * k + 1)) (evF s a (e3 (s a) x y z) k (hgt s a k - 2)) (evF s a (e3 (s a) x y z) k (hgt s a k - 1))) := by
        show (if s (a + 4 + 2 * k) = 2 then (if s (a + 4 + 2 * k + 1) = 33 then _ else _) else _) = _
        rw [if_pos c1, if_neg g4]
      have e1 : nI (hgt s a k) + (-1) = nI (hgt s a k - 1) := by
        have := pk_m1 (hgt s a k - 1)
        rw [show hgt s a k - 1 + 1 = hgt s a k by omega] at this
        exact this
      have e2 : nI (hgt s a k - 1) - 1 = nI (hgt s a k - 2) := by rw [show nI (hgt s a k - 1) - 1 = nI (hgt s a k - 1 - 1) from pk_sub (b := 1) (by omega), show hgt s a k - 1 - 1 = hgt s a k - 2 by omega]
      have ib : True ∧ inb (nI (hgt s a k - 2)) 100 := ⟨trivial, inb_nI (by omega) (by decide)⟩
      rw [if_pos c1, if_neg g4, e1, e2, rd_k (Y_119 h) (by omega) (by decide), Option.bind_some, rd_k (Y_119 h) (by omega) (by decide), Option.bind_some, m_joined c2, Option.bind_some]
      simp only [Y_119 h]
      rw [if_pos ib, ix_nI (by omega), setF_up, hs _ (by omega), hs _ (by omega), ← c4]
      refine fin _ _ _ (fun j hj => ?_)
      rw [ev]
      by_cases ej : j = hgt s a k - 2
      · rw [ej, up1_s, up1_s, c4]
      · rw [up1_n _ _ ej, up1_n _ _ ej]; exact hs j (by omega)
theorem m_worked (h : Lay L σ) {t K : Nat} (ht : t < 14) (x y z : Int32) (W : TW (F 100) (114 + 200 * t) K) (hn : ∀ i, i < 128 → isNm (F 100 (114 + 200 * t)) (nI i) → F 118 i = e3 (F 100 (114 + 200 * t)) x y z (nI i)) : ∃ F', cI (d + 1) 212 [.ref 99, .int (nI t)] (F, J, σ) = some (vaS (F 100) (114 + 200 * t) K x y z, (F', J, σ)) ∧ ∀ b, b ≠ 119 → F' b = F b := by
  obtain ⟨F', g1, g2⟩ := m_workedL (d := d) (J := J) h ht x y z K 0 F un un rfl W hn (fun j hj => absurd hj (by unfold hgt; omega)) (by omega)
  refine ⟨F', ?_, g2⟩
  refine i_212 ?_
  rw [q_212_0]
  exact g1
end TXW
