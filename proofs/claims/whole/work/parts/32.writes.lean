/-! THE BOOK IS WRITTEN. -/
section WRITES
variable {L d : Nat} {F : Nat → Nat → Int32} {J : Nat → Nat → Int64} {σ : aSg} {μ : aMem}
def shS (s : Nat → Int32) (k : Nat) : Nat → Int32 := fun j => if 54 ≤ j ∧ j < 54 + k then s (j + 3) else s j
theorem shS_s (s : Nat → Int32) (k : Nat) : up1 (shS s k) (54 + k) (shS s k (57 + k)) = shS s (k + 1) := by
  funext j
  unfold up1 shS
  by_cases h1 : j = 54 + k
  · rw [if_pos h1, if_neg (by omega), if_pos (by omega), h1, show 57 + k = 54 + k + 3 by omega]
  · rw [if_neg h1]
    by_cases h2 : 54 ≤ j ∧ j < 54 + k
    · rw [if_pos h2, if_pos (by omega)]
    · rw [if_neg h2, if_neg (by omega)]
def ln3 (s : Nat → Int32) (m : Nat) (a b c : Int32) : Nat → Int32 := up1 (up1 (up1 (up1 s (54 + 3 * m) a) (54 + 3 * m + 1) b) (54 + 3 * m + 2) c) 1 (nI (m + 1))
/-- the row with a line more -/
def wrS (s : Nat → Int32) (m : Nat) (a b c : Int32) : Nat → Int32 := if m = 20 then ln3 (up1 (shS s 57) 1 (nI 19)) 19 a b c else ln3 s m a b c
theorem up1_up1 {α : Type} (f : Nat → α) (k : Nat) (v w : α) : up1 (up1 f k v) k w = up1 f k w := by
  funext j
  unfold up1
  by_cases h : j = k
  · rw [if_pos h, if_pos h]
  · rw [if_neg h, if_neg h, if_neg h]
theorem uF_uF (F : Nat → Nat → Int32) (a k j : Nat) (v w : Int32) : uF (uF F a k v) a j w = up1 F a (up1 (up1 (F a) k v) j w) := by
  unfold uF
  rw [up1_s, up1_up1]
theorem upF (F : Nat → Nat → Int32) (a k : Nat) (f : Nat → Int32) (v : Int32) : uF (up1 F a f) a k v = up1 F a (up1 f k v) := by
  unfold uF
  rw [up1_s, up1_up1]
theorem setF_up (F : Nat → Nat → Int32) (ρ : (Nat → Nat → Int64) × aSg) (a k : Nat) (v : Int32) : setF (F, ρ) a k v = (up1 F a (up1 (F a) k v), ρ) := rfl
theorem m_writes (h : Lay L σ) {m : Nat} (b1 : m ≤ 20) (b2 : F 100 1 = nI m) (a b c : Int32) : cV d 164 [.ref 99, .int a, .int b, .int c] (F, J, σ) = some (up1 F 100 (wrS (F 100) m a b c), J, σ) := by
  refine i_164 (v := none) ?_
  rw [q_164_0]
  have w : ∀ (k : Nat) (v : Int32) (G : Nat → Nat → Int32), k < 3114 → rdI (G, J, σ) 100 (nI k) = some (G 100 k) := fun k v G hk => rd_100 h hk
  have n1 : ∀ G : Nat → Nat → Int32, rdI (G, J, σ) 100 1 = some (G 100 1) := fun G => rd_100 (i := 1) h (by decide)
  simp only [mS, mR, Y_99 h, Z_99_0 h, Y_100 h, n1, b2, Option.bind_some]
  rw [if_pos trivial]
  unfold wrS
  by_cases h1 : m = 20
  · subst h1
    rw [if_pos (show nI 20 = (20 : Int32) from rfl), if_pos rfl]
    have st : ∀ (i : Nat) (f : Nat → Int32), i < 57 → Rn d 164 (14, [.ref 99, .int a, .int b, .int c, .int (nI i)], [], (up1 F 100 f, J, σ)) = Rn d 164 (14, [.ref 99, .int a, .int b, .int c, .int (nI (i + 1))], [], (up1 F 100 (up1 f (54 + i) (f (57 + i))), J, σ)) := by
      intro i f hi
      rw [q_164_14]
      simp only [mS, mR, Y_99 h, Z_99_0 h, Y_100 h, setF_up]
      rw [if_neg (show ¬ (57 : Int32) ≤ nI i from nle (a := 57) hi (by decide)), if_pos trivial, show (57 : Int32) + nI i = nI (57 + i) from nI_add 57 i, rd_100 h (by omega), Option.bind_some, show (54 : Int32) + nI i = nI (54 + i) from nI_add 54 i, if_pos ⟨trivial, inb_nI (by omega) (by decide)⟩, ix_nI (by omega), nI_s, up1_up1, up1_s]
    have e1 : ∀ n i, i + n = 57 → Rn d 164 (14, [.ref 99, .int a, .int b, .int c, .int (nI i)], [], (up1 F 100 (shS (F 100) i), J, σ)) = Rn d 164 (14, [.ref 99, .int a, .int b, .int c, .int (nI 57)], [], (up1 F 100 (shS (F 100) 57), J, σ)) := by
      intro n
      induction n with
      | zero => intro i e; rw [show i = 57 by omega]
      | succ n ih =>
        intro i e
        rw [st i _ (by omega), shS_s]
        exact ih (i + 1) (by omega)
    have e2 : up1 F 100 (shS (F 100) 0) = F := by
      funext x
      unfold up1
      by_cases hx : x = 100
      · rw [if_pos hx, hx]
        funext j
        unfold shS
        rw [if_neg (by omega)]
      · rw [if_neg hx]
    have e3 := e1 57 0 rfl
    rw [e2] at e3
    refine (show _ = _ from e3).trans ?_
    rw [q_164_14]
    have q1 : shS (F 100) 57 1 = nI 20 := by unfold shS; rw [if_neg (by omega)]; exact b2
    simp only [mS, mR, Y_99 h, Z_99_0 h, Y_100 h, setF_up, n1, Option.bind_some, up1_up1, up1_s, q1, ix_1, show nI 20 - 1 = 19 from rfl]
    rw [if_pos (by decide), if_pos trivial, if_pos ⟨trivial, by decide⟩, if_pos ⟨trivial, by decide⟩, if_pos ⟨trivial, by decide⟩, if_pos ⟨trivial, by decide⟩]
    rfl
  · rw [if_neg h1, if_neg (fun e : nI m = (20 : Int32) => h1 ((nI_eq (a := m) (b := 20) (by omega) (by decide)).mp e)), i3_, nI_s, nI_2, if_pos ⟨trivial, inb_nI (by omega) (by decide)⟩, if_pos ⟨trivial, inb_nI (by omega) (by decide)⟩, if_pos ⟨trivial, inb_nI (by omega) (by decide)⟩]
    rw [ix_nI (by omega), ix_nI (by omega), ix_nI (by omega)]
    simp only [setF_up, n1, Option.bind_some, up1_up1, up1_s, ix_1]
    rw [if_pos ⟨trivial, by decide⟩]
    unfold ln3
    rw [up1_n _ _ (show 1 ≠ 54 + 3 * m + 2 by omega), up1_n _ _ (show 1 ≠ 54 + 3 * m + 1 by omega), up1_n _ _ (show 1 ≠ 54 + 3 * m by omega), b2, nI_s]
theorem wrS_0 {s : Nat → Int32} {m : Nat} {a b c : Int32} {j : Nat} (hm : m ≤ 20) (h1 : j ≠ 1) (h2 : j < 54 ∨ 114 ≤ j) : wrS s m a b c j = s j := by
  unfold wrS
  by_cases h : m = 20
  · rw [if_pos h]
    unfold ln3 shS
    rw [up1_n _ _ h1, up1_n _ _ (by omega), up1_n _ _ (by omega), up1_n _ _ (by omega), up1_n _ _ h1, if_neg (by omega)]
  · rw [if_neg h]
    unfold ln3
    rw [up1_n _ _ h1, up1_n _ _ (by omega), up1_n _ _ (by omega), up1_n _ _ (by omega)]
theorem up1_pn {α : Type} (f : Nat → α) (p i j : Nat) (v : α) : up1 f (p + i) v (p + j) = if j = i then v else f (p + j) := by
  unfold up1
  by_cases h : j = i
  · rw [if_pos (by omega), if_pos h]
  · rw [if_neg (by omega), if_neg h]
abbrev LnK (a b c : Int32) : Prop := (0 ≤ a ∧ a ≤ 2) ∧ (0 ≤ b ∧ b ≤ 9999) ∧ (0 ≤ c ∧ c ≤ 9999)
theorem c_addLine {p m : Nat} {s : Nat → Int32} (hp : PL σ p) (B : BR F p s m) {a b c : Int32} (hl : LnK a b c) : ∃ F', cV d 1 [.ref (p + 2), .int a, .int b, .int c] (F, J, σ) = some (F', J, σ) ∧ BR F' p (wrS s m a b c) (if m = 20 then 20 else m + 1) ∧ ∀ x, x < p + 2 ∨ p + 5 < x → F' x = F x := by
  obtain ⟨b1, b2, b3, b4⟩ := B
  by_cases h1 : m = 20
  · subst h1
    refine ⟨up1 (up1 (up1 (up1 F (p + 3) (up1 (va_cpy (F (p + 3)) (F (p + 3)) 1 0 19) 19 a)) (p + 4) (up1 (va_cpy (F (p + 4)) (F (p + 4)) 1 0 19) 19 b)) (p + 5) (up1 (va_cpy (F (p + 5)) (F (p + 5)) 1 0 19) 19 c)) (p + 2) (up1 (F (p + 2)) 3 20), ?_, ?_, ?_⟩
    · refine i_1 (v := none) ?_
      rw [q_1_0]
      simp only [mS, mR, mF, hp.y2, hp.b0, hp.b1, hp.b2, hp.y3, hp.y4, hp.y5, setF_up, cpyF_mk, up1_s, up1_up1, b3, up1_pn, Nat.reduceEqDiff, if_false, if_true]
      rw [if_neg (by decide), if_pos ⟨trivial, trivial, by decide⟩, if_pos ⟨trivial, trivial, by decide⟩, if_pos ⟨trivial, trivial, by decide⟩, if_pos ⟨trivial, by decide⟩, if_pos ⟨trivial, by decide⟩, if_pos ⟨trivial, by decide⟩]
      refine congrArg (fun z => some (none, z, J, σ)) ?_
      funext x
      unfold up1
      by_cases e2 : x = p + 2
      · subst e2; simp
      · by_cases e3 : x = p + 3
        · subst e3; simp; rfl
        · by_cases e4 : x = p + 4
          · subst e4; simp; rfl
          · by_cases e5 : x = p + 5
            · subst e5; simp; rfl
            · simp [e2, e3, e4, e5]
    · rw [if_pos rfl]
      have hw : ∀ j, wrS s 20 a b c j = ln3 (up1 (shS s 57) 1 (nI 19)) 19 a b c j := fun j => by unfold wrS; rw [if_pos rfl]
      refine ⟨by decide, ?_, ?_, ?_⟩
      · rw [hw]; unfold ln3; rw [up1_s]
      · rw [up1_s, up1_s]; rfl
      · intro i hi
        simp only [up1_pn, Nat.reduceEqDiff, if_false, if_true]
        by_cases e : i = 19
        · subst e
          have g0 : wrS s 20 a b c (54 + 3 * 19) = a := by rw [hw]; rfl
          have g1 : wrS s 20 a b c (54 + 3 * 19 + 1) = b := by rw [hw]; rfl
          have g2 : wrS s 20 a b c (54 + 3 * 19 + 2) = c := by rw [hw]; rfl
          rw [g0, g1, g2, up1_s, up1_s, up1_s]
          exact ⟨rfl, rfl, rfl, hl⟩
        · have hg : ∀ j, j < 3 → wrS s 20 a b c (54 + 3 * i + j) = s (54 + 3 * (i + 1) + j) := fun j hj => by
            rw [hw]
            unfold ln3 shS
            rw [up1_n _ _ (by omega), up1_n _ _ (by omega), up1_n _ _ (by omega), up1_n _ _ (by omega), up1_n _ _ (by omega), if_pos (by omega), show 54 + 3 * i + j + 3 = 54 + 3 * (i + 1) + j by omega]
          have g0 := hg 0 (by decide)
          have g1 := hg 1 (by decide)
          have g2 := hg 2 (by decide)
          simp only [Nat.add_zero] at g0
          rw [g0, g1, g2, up1_n _ _ e, up1_n _ _ e, up1_n _ _ e]
          obtain ⟨f0, f1, f2, f3⟩ := b4 (i + 1) (by omega)
          have hc : ∀ f : Nat → Int32, va_cpy f f 1 0 19 i = f (i + 1) := fun f => by
            unfold va_cpy
            rw [if_pos (by omega), show 1 + (i - 0) = i + 1 by omega]
          rw [hc, hc, hc]
          exact ⟨f0, f1, f2, f3⟩
    · intro x hx
      rw [up1_n _ _ (by omega), up1_n _ _ (by omega), up1_n _ _ (by omega), up1_n _ _ (by omega)]
  · have hm : m < 20 := by omega
    refine ⟨up1 (up1 (up1 (up1 F (p + 3) (up1 (F (p + 3)) m a)) (p + 4) (up1 (F (p + 4)) m b)) (p + 5) (up1 (F (p + 5)) m c)) (p + 2) (up1 (F (p + 2)) 3 (nI (m + 1))), ?_, ?_, ?_⟩
    · refine i_1 (v := none) ?_
      rw [q_1_0]
      simp only [mS, mR, mF, hp.y2, hp.b0, hp.b1, hp.b2, hp.y3, hp.y4, hp.y5, setF_up, cpyF_mk, up1_s, up1_up1, b3, up1_pn, Nat.reduceEqDiff, if_false, if_true]
      rw [if_pos (show nI m < (20 : Int32) from ylt (b := 20) hm (by decide)), if_pos ⟨trivial, inb_nI hm (by decide)⟩, if_pos ⟨trivial, inb_nI hm (by decide)⟩, if_pos ⟨trivial, inb_nI hm (by decide)⟩, ix_nI (by omega), nI_s]
    · rw [if_neg h1]
      have hw : ∀ j, wrS s m a b c j = ln3 s m a b c j := fun j => by unfold wrS; rw [if_neg h1]
      refine ⟨by omega, ?_, ?_, ?_⟩
      · rw [hw]; unfold ln3; rw [up1_s]
      · rw [up1_s, up1_s]
      · intro i hi
        simp only [up1_pn, Nat.reduceEqDiff, if_false, if_true]
        by_cases e : i = m
        · subst e
          have g0 : wrS s i a b c (54 + 3 * i) = a := by rw [hw]; unfold ln3; rw [up1_n _ _ (by omega), up1_n _ _ (by omega), up1_n _ _ (by omega), up1_s]
          have g1 : wrS s i a b c (54 + 3 * i + 1) = b := by rw [hw]; unfold ln3; rw [up1_n _ _ (by omega), up1_n _ _ (by omega), up1_s]
          have g2 : wrS s i a b c (54 + 3 * i + 2) = c := by rw [hw]; unfold ln3; rw [up1_n _ _ (by omega), up1_s]
          rw [g0, g1, g2, up1_s, up1_s, up1_s]
          exact ⟨rfl, rfl, rfl, hl⟩
        · have hg : ∀ j, j < 3 → wrS s m a b c (54 + 3 * i + j) = s (54 + 3 * i + j) := fun j hj => by
            rw [hw]
            unfold ln3
            rw [up1_n _ _ (by omega), up1_n _ _ (by omega), up1_n _ _ (by omega), up1_n _ _ (by omega)]
          have g0 := hg 0 (by decide)
          have g1 := hg 1 (by decide)
          have g2 := hg 2 (by decide)
          simp only [Nat.add_zero] at g0
          rw [g0, g1, g2, up1_n _ _ e, up1_n _ _ e, up1_n _ _ e]
          exact b4 i (by omega)
    · intro x hx
      rw [up1_n _ _ (by omega), up1_n _ _ (by omega), up1_n _ _ (by omega), up1_n _ _ (by omega)]
end WRITES
