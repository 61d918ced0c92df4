/-! KINDS AND WORTH. -/
section KW
variable {L d : Nat} {F : Nat → Nat → Int32} {J : Nat → Nat → Int64} {σ : aSg} {μ : aMem}
def ofI (a x : Int32) : Int32 := if a = x then 1 else if x = 0 then 1 else if x = 1 ∧ a = 3 then 1 else if x = 2 ∧ a = 4 then 1 else 0
theorem m_isOf (a x : Int32) : cI d 159 [.int a, .int x] μ = some (ofI a x, μ) := by
  refine i_159 ?_
  rw [q_159_0]
  unfold ofI
  by_cases h1 : a = x
  · rw [if_pos h1, if_pos h1]
  · rw [if_neg h1, if_neg h1]
    by_cases h2 : x = 0
    · rw [if_pos h2, if_pos h2]
    · rw [if_neg h2, if_neg h2]
      by_cases h3 : x = 1 <;> by_cases h4 : a = 3 <;> by_cases h5 : x = 2 <;> by_cases h6 : a = 4 <;> simp [h3, h4, h5, h6]
theorem ab_len (hP : mS μ 1000001 = (99, 0)) : rdL μ 1000001 = some 6 := by
  unfold rdL
  rw [hP, if_neg (by decide), if_pos (Or.inr rfl)]
  rfl
theorem ab_at (hP : mS μ 1000001 = (99, 0)) {k : Nat} (hk : k < 6) : rdI μ 1000001 (nI k) = some ([-1, 0, 0, 1, 2, 0].getD k 0) := by
  unfold rdI
  rw [hP, if_neg (by decide), if_pos (Or.inr rfl)]
  refine (if_pos (inb_nI (n := 6) hk (by decide))).trans ?_
  rw [ix_nI (by omega)]
  rfl
theorem up7 (hP : mS μ 1000001 = (99, 0)) {c : Nat} {x i b : Int32} {k : Nat} (h1 : ¬ (6 : Int32) ≤ i) (hk : k < 6) (hb : [-1, 0, 0, 1, 2, 0].getD k 0 = b) : Rn d 7 (7, [.ref c, .int x, .int (nI k), .int i], [], μ) = if nI k = x then some (some (.int 1), μ) else Rn d 7 (7, [.ref c, .int x, .int b, .int (i + 1)], [], μ) := by
  rw [q_7_7, ab_len hP, Option.bind_some, if_neg h1, if_neg (fun h : nI k < (0 : Int32) => absurd ((nI_ltI (b := 0) (by omega) (by omega)).mp h) (by omega)), Option.bind_some, if_neg (fun h : (6 : Int32) ≤ nI k => absurd ((nI_leI (a := 6) (by omega) (by omega)).mp h) (by omega)), ab_at hP hk, Option.bind_some, hb]
theorem end7 (hP : mS μ 1000001 = (99, 0)) {c : Nat} {x i : Int32} (h1 : ¬ (6 : Int32) ≤ i) : Rn d 7 (7, [.ref c, .int x, .int (-1), .int i], [], μ) = some (some (.int 0), μ) := by
  rw [q_7_7, ab_len hP, Option.bind_some, if_neg h1, if_pos (by decide)]
theorem c_isOf (hP : mS μ 1000001 = (99, 0)) {c : Nat} (hc : (mS μ c).1 = 1) (h0 : 0 ≤ mF μ c 0) (h5 : mF μ c 0 < 6) (x : Int32) : cI d 7 [.ref c, .int x] μ = some (ofI (mF μ c 0) x, μ) := by
  refine i_7 ?_
  rw [q_7_0, if_pos hc]
  obtain ⟨k, hk, e⟩ := (nI_ex (n := 6) (by decide)).mp ⟨h0, h5⟩
  rw [e]
  have z0 : ∀ i : Int32, ¬ (6 : Int32) ≤ i → ¬ (6 : Int32) ≤ i + 1 → Rn d 7 (7, [.ref c, .int x, .int 0, .int i], [], μ) = if (0 : Int32) = x then some (some (.int 1), μ) else some (some (.int 0), μ) := fun i h1 h2 => (up7 (b := -1) (k := 0) hP h1 (by decide) rfl).trans (by rw [end7 hP h2]; rfl)
  rw [up7 hP (by decide) hk rfl]
  unfold ofI
  by_cases h1 : nI k = x
  · rw [if_pos h1, if_pos h1]
  · rw [if_neg h1, if_neg h1]
    have hx0 : ∀ {α : Type} (u w : α), (if (0 : Int32) = x then u else w) = if x = 0 then u else w := fun u w => by
      by_cases h : x = 0
      · rw [if_pos h, if_pos h.symm]
      · rw [if_neg h, if_neg (fun h' => h h'.symm)]
    match k, hk, h1 with
    | 0, _, h1 =>
      have h1' : ¬ x = 0 := fun h => h1 h.symm
      refine (end7 hP (by decide)).trans ?_
      rw [if_neg h1', if_neg (fun h => absurd h.2 (by decide)), if_neg (fun h => absurd h.2 (by decide))]
    | 1, _, h1 =>
      refine (z0 _ (by decide) (by decide)).trans ?_
      rw [hx0, if_neg (fun h : x = 1 ∧ _ => absurd h.2 (by decide)), if_neg (fun h : x = 2 ∧ _ => absurd h.2 (by decide))]
      split <;> rfl
    | 2, _, h1 =>
      refine (z0 _ (by decide) (by decide)).trans ?_
      rw [hx0, if_neg (fun h : x = 1 ∧ _ => absurd h.2 (by decide)), if_neg (fun h : x = 2 ∧ _ => absurd h.2 (by decide))]
      split <;> rfl
    | 5, _, h1 =>
      refine (z0 _ (by decide) (by decide)).trans ?_
      rw [hx0, if_neg (fun h : x = 1 ∧ _ => absurd h.2 (by decide)), if_neg (fun h : x = 2 ∧ _ => absurd h.2 (by decide))]
      split <;> rfl
    | 3, _, h1 =>
      refine (up7 (b := 0) (k := 1) hP (by decide) (by decide) rfl).trans ?_
      refine (congrArg (fun z => if nI 1 = x then _ else z) (z0 _ (by decide) (by decide))).trans ?_
      rw [hx0, if_neg (fun h : x = 2 ∧ _ => absurd h.2 (by decide))]
      by_cases h2 : x = 1
      · subst h2; rfl
      · rw [if_neg (fun h : nI 1 = x => h2 h.symm), if_neg (fun h : x = 1 ∧ _ => h2 h.1)]
        split <;> rfl
    | 4, _, h1 =>
      refine (up7 (b := 0) (k := 2) hP (by decide) (by decide) rfl).trans ?_
      refine (congrArg (fun z => if nI 2 = x then _ else z) (z0 _ (by decide) (by decide))).trans ?_
      rw [hx0, if_neg (fun h : x = 1 ∧ _ => absurd h.2 (by decide))]
      by_cases h2 : x = 2
      · subst h2; rfl
      · rw [if_neg (fun h : nI 2 = x => h2 h.symm), if_neg (fun h : x = 2 ∧ _ => h2 h.1)]
        split <;> rfl
end KW
