/-! TABLE: the class. -/
section OPN
variable {L d : Nat} {F F' : Nat → Nat → Int32} {J : Nat → Nat → Int64} {σ : aSg} {μ : aMem} {s s' xs f : Nat → Int32}
abbrev NO5 (v : Int32) : Prop := v = -1000000005
def tN (f : Nat → Int32) : Nat → Nat
  | 0 => 0
  | k + 1 => if NO5 (f k) then tN f k else tN f k + 1
def tL (f : Nat → Int32) : Nat → Int32
  | 0 => -1
  | k + 1 => if NO5 (f k) then tL f k else if tL f k < 0 then nI k else if f (tL f k).toInt.toNat ≤ f k then tL f k else nI k
def tG (f : Nat → Int32) : Nat → Int32
  | 0 => -1
  | k + 1 => if NO5 (f k) then tG f k else if tG f k < 0 then nI k else if f k ≤ f (tG f k).toInt.toNat then tG f k else nI k
abbrev isCd (v : Int32) : Prop := v = 1 ∨ v = 2 ∨ v = 3 ∨ v = 5 ∨ v = 8 ∨ v = 13 ∨ v = 21 ∨ v = 34 ∨ v = 55 ∨ v = 89
def tC (f : Nat → Int32) : Nat → Int32
  | 0 => 0
  | k + 1 => if NO5 (f k) then tC f k else if isCd (f k) then tC f k + 1 else tC f k
/-- how many numbers of the first k are less than v -/
def tB (f : Nat → Int32) (v : Int32) : Nat → Nat
  | 0 => 0
  | k + 1 => if NO5 (f k) then tB f v k else if v ≤ f k then tB f v k else tB f v k + 1
theorem tN_le : ∀ k, tN f k ≤ k
  | 0 => Nat.le_refl _
  | k + 1 => by
    have := tN_le k
    unfold tN
    split <;> omega
theorem tB_le {v : Int32} : ∀ k, tB f v k ≤ tN f k
  | 0 => Nat.le_refl _
  | k + 1 => by
    have := tB_le (v := v) k
    unfold tB tN
    split
    · exact this
    · split <;> omega
theorem tL_in : ∀ k, k ≤ 24 → tL f k = -1 ∨ ∃ j, j < k ∧ tL f k = nI j
  | 0, _ => Or.inl rfl
  | k + 1, h => by
    have ih := tL_in k (by omega)
    have up : (tL f k = -1 ∨ ∃ j, j < k ∧ tL f k = nI j) → (tL f k = -1 ∨ ∃ j, j < k + 1 ∧ tL f k = nI j) := fun q => by
      rcases q with q | ⟨j, h1, h2⟩
      · exact Or.inl q
      · exact Or.inr ⟨j, by omega, h2⟩
    unfold tL
    split
    · exact up ih
    · split
      · exact Or.inr ⟨k, by omega, rfl⟩
      · split
        · exact up ih
        · exact Or.inr ⟨k, by omega, rfl⟩
theorem tG_in : ∀ k, k ≤ 24 → tG f k = -1 ∨ ∃ j, j < k ∧ tG f k = nI j
  | 0, _ => Or.inl rfl
  | k + 1, h => by
    have ih := tG_in k (by omega)
    have up : (tG f k = -1 ∨ ∃ j, j < k ∧ tG f k = nI j) → (tG f k = -1 ∨ ∃ j, j < k + 1 ∧ tG f k = nI j) := fun q => by
      rcases q with q | ⟨j, h1, h2⟩
      · exact Or.inl q
      · exact Or.inr ⟨j, by omega, h2⟩
    unfold tG
    split
    · exact up ih
    · split
      · exact Or.inr ⟨k, by omega, rfl⟩
      · split
        · exact up ih
        · exact Or.inr ⟨k, by omega, rfl⟩
/-- a sheet's cells at c, their row at e -/
def SE (F : Nat → Nat → Int32) (σ : aSg) (c e z : Nat) (f : Nat → Int32) : Prop := σ.2.1 c = (5, 3) ∧ c < 999999 ∧ σ.1 c 0 = e ∧ σ.2.1 e = (10, 24) ∧ F c 2 = nI z ∧ z ≤ 24 ∧ ∀ j, j < 24 → F e j = f j
theorem c_isN {c e z k : Nat} (S : SE F σ c e z f) (hk : k < z) : cI (d + 1) 71 [.ref c, .int (nI k)] (F, J, σ) = some (b2i (¬ NO5 (f k)), (F, J, σ)) := by
  obtain ⟨s1, s2, s3, s4, s5, s6, s7⟩ := S
  rw [c_isNumber s1 s2 s3 s4 s5 s6]
  refine congrArg (fun q => some (q, (F, J, σ))) (b2i_congr ?_)
  have ck : 0 ≤ nI k ∧ nI k < nI z := ⟨yle (a := 0) (by omega) (by omega), ylt (by omega) (by omega)⟩
  rw [nI_toInt (by omega), Int.toNat_natCast, s7 k (by omega)]
  exact ⟨fun q => q.2, fun q => ⟨ck, q⟩⟩
theorem nn0 (c : Prop) [Decidable c] : b2i (¬ c) = 0 ↔ c := by rw [b2i_0]; exact Decidable.not_not
theorem c_numbers {c e z : Nat} (S : SE F σ c e z f) : cI (d + 2) 72 [.ref c] (F, J, σ) = some (nI (tN f z), (F, J, σ)) := by
  have S' := S
  obtain ⟨s1, s2, s3, s4, s5, s6, s7⟩ := S'
  refine i_72 (d := d + 1) ?_
  rw [q_72_0 (d + 1)]
  have t9 : True ∧ c < 999999 := ⟨trivial, s2⟩
  have go : ∀ n k, k + n = z → Rn (d + 2) 72 (4, [.ref c, .int (nI (tN f k)), .int (nI k)], [], (F, J, σ)) = some (some (.int (nI (tN f z))), (F, J, σ)) := by
    intro n
    induction n with
    | zero =>
      intro k hke
      rw [q_72_4 (d + 1)]
      simp only [mS, mF, s1, s5, if_true]
      rw [if_pos (yle (by omega) (by omega)), show k = z by omega]
    | succ n ih =>
      intro k hke
      rw [q_72_4 (d + 1)]
      simp only [mS, mF, s1, s5, if_true, if_pos t9, c_isN S (show k < z by omega), Option.bind_some, nn0]
      rw [if_neg (nle (by omega) (by omega)), nI_s, nI_s]
      have := ih (k + 1) (by omega)
      rw [show tN f (k + 1) = if NO5 (f k) then tN f k else tN f k + 1 from rfl] at this
      by_cases c1 : NO5 (f k)
      · rw [if_pos c1] at this ⊢; exact this
      · rw [if_neg c1] at this ⊢; exact this
  exact go z 0 (by omega)
theorem c_least {c e z : Nat} (S : SE F σ c e z f) : cI (d + 2) 73 [.ref c] (F, J, σ) = some (tL f z, (F, J, σ)) := by
  have S' := S
  obtain ⟨s1, s2, s3, s4, s5, s6, s7⟩ := S'
  refine i_73 (d := d + 1) ?_
  rw [q_73_0 (d + 1)]
  have t9 : True ∧ c < 999999 := ⟨trivial, s2⟩
  have go : ∀ n k, k + n = z → Rn (d + 2) 73 (4, [.ref c, .int (tL f k), .int (nI k)], [], (F, J, σ)) = some (some (.int (tL f z)), (F, J, σ)) := by
    intro n
    induction n with
    | zero =>
      intro k hke
      rw [q_73_4 (d + 1)]
      simp only [mS, mF, s1, s5, if_true]
      rw [if_pos (yle (by omega) (by omega)), show k = z by omega]
    | succ n ih =>
      intro k hke
      have hk24 : k < 24 := by omega
      have rdv : rdI (F, J, σ) e (nI k) = some (f k) := by rw [rd_k s4 hk24 (by decide), s7 k hk24]
      rw [q_73_4 (d + 1)]
      simp only [mS, mR, mF, s1, s3, s5, if_true, if_pos t9, c_isN S (show k < z by omega), Option.bind_some, nn0, rdv, nI_s]
      rw [if_neg (nle (by omega) (by omega))]
      have := ih (k + 1) (by omega)
      rw [show tL f (k + 1) = if NO5 (f k) then tL f k else if tL f k < 0 then nI k else if f (tL f k).toInt.toNat ≤ f k then tL f k else nI k from rfl] at this
      by_cases c1 : NO5 (f k)
      · rw [if_pos c1] at this ⊢; exact this
      · rw [if_neg c1] at this ⊢
        rcases tL_in (f := f) k (by omega) with c2 | ⟨j, hj, c2⟩
        · have c3 : tL f k < 0 := by rw [c2]; decide
          rw [if_pos c3] at this ⊢; exact this
        · have c3 : ¬ tL f k < 0 := by rw [c2]; exact nlt (b := 0) (by omega) (by omega)
          have rdj : rdI (F, J, σ) e (tL f k) = some (f (tL f k).toInt.toNat) := by rw [c2, rd_k s4 (by omega) (by decide), s7 j (by omega), nI_toInt (by omega), Int.toNat_natCast]
          rw [if_neg c3, rdj, Option.bind_some]
          rw [if_neg c3] at this
          by_cases c4 : f (tL f k).toInt.toNat ≤ f k
          · rw [if_pos c4] at this ⊢; exact this
          · rw [if_neg c4] at this ⊢; exact this
  exact go z 0 (by omega)
theorem c_greatest {c e z : Nat} (S : SE F σ c e z f) : cI (d + 2) 74 [.ref c] (F, J, σ) = some (tG f z, (F, J, σ)) := by
  have S' := S
  obtain ⟨s1, s2, s3, s4, s5, s6, s7⟩ := S'
  refine i_74 (d := d + 1) ?_
  rw [q_74_0 (d + 1)]
  have t9 : True ∧ c < 999999 := ⟨trivial, s2⟩
  have go : ∀ n k, k + n = z → Rn (d + 2) 74 (4, [.ref c, .int (tG f k), .int (nI k)], [], (F, J, σ)) = some (some (.int (tG f z)), (F, J, σ)) := by
    intro n
    induction n with
    | zero =>
      intro k hke
      rw [q_74_4 (d + 1)]
      simp only [mS, mF, s1, s5, if_true]
      rw [if_pos (yle (by omega) (by omega)), show k = z by omega]
    | succ n ih =>
      intro k hke
      have hk24 : k < 24 := by omega
      have rdv : rdI (F, J, σ) e (nI k) = some (f k) := by rw [rd_k s4 hk24 (by decide), s7 k hk24]
      rw [q_74_4 (d + 1)]
      simp only [mS, mR, mF, s1, s3, s5, if_true, if_pos t9, c_isN S (show k < z by omega), Option.bind_some, nn0, rdv, nI_s]
      rw [if_neg (nle (by omega) (by omega))]
      have := ih (k + 1) (by omega)
      rw [show tG f (k + 1) = if NO5 (f k) then tG f k else if tG f k < 0 then nI k else if f k ≤ f (tG f k).toInt.toNat then tG f k else nI k from rfl] at this
      by_cases c1 : NO5 (f k)
      · rw [if_pos c1] at this ⊢; exact this
      · rw [if_neg c1] at this ⊢
        rcases tG_in (f := f) k (by omega) with c2 | ⟨j, hj, c2⟩
        · have c3 : tG f k < 0 := by rw [c2]; decide
          rw [if_pos c3] at this ⊢; exact this
        · have c3 : ¬ tG f k < 0 := by rw [c2]; exact nlt (b := 0) (by omega) (by omega)
          have rdj : rdI (F, J, σ) e (tG f k) = some (f (tG f k).toInt.toNat) := by rw [c2, rd_k s4 (by omega) (by decide), s7 j (by omega), nI_toInt (by omega), Int.toNat_natCast]
          rw [if_neg c3, rdj, Option.bind_some]
          rw [if_neg c3] at this
          by_cases c4 : f k ≤ f (tG f k).toInt.toNat
          · rw [if_pos c4] at this ⊢; exact this
          · rw [if_neg c4] at this ⊢; exact this
  exact go z 0 (by omega)
theorem cd_len (hP : mS μ 1000000 = (99, 0)) : rdL μ 1000000 = some 10 := by
  unfold rdL
  rw [hP, if_neg (by decide), if_pos (Or.inl rfl)]
  rfl
theorem cd_at (hP : mS μ 1000000 = (99, 0)) {k : Nat} (hk : k < 10) : rdI μ 1000000 (nI k) = some (sCards.getD k 0) := by
  unfold rdI
  rw [hP, if_neg (by decide), if_pos (Or.inl rfl)]
  refine (if_pos (inb_nI (n := 10) hk (by decide))).trans ?_
  rw [ix_nI (by omega)]
  rfl
theorem c_isCard (hP : mS μ 1000000 = (99, 0)) (v : Int32) : cI d 76 [.int v] μ = some (b2i (isCd v), μ) := by
  refine i_76 ?_
  rw [q_76_0]
  have st : ∀ k, k < 10 → Rn d 76 (2, [.int v, .int (nI k)], [], μ) = if sCards.getD k 0 = v then some (some (.int 1), μ) else Rn d 76 (2, [.int v, .int (nI (k + 1))], [], μ) := fun k hk => by
    rw [q_76_2, cd_len hP, Option.bind_some, if_neg (show ¬ (10 : Int32) ≤ nI k from nle (a := 10) hk (by decide)), cd_at hP hk, Option.bind_some, nI_s]
  have en : Rn d 76 (2, [.int v, .int (nI 10)], [], μ) = some (some (.int 0), μ) := by
    rw [q_76_2, cd_len hP, Option.bind_some, if_pos (by decide)]
  have e0 : Rn d 76 (2, [.int v, .int 0], [], μ) = Rn d 76 (2, [.int v, .int (nI 0)], [], μ) := rfl
  rw [e0, st 0 (by decide), st 1 (by decide), st 2 (by decide), st 3 (by decide), st 4 (by decide), st 5 (by decide), st 6 (by decide), st 7 (by decide), st 8 (by decide), st 9 (by decide), en]
  show (if (1 : Int32) = v then _ else if (2 : Int32) = v then _ else if (3 : Int32) = v then _ else if (5 : Int32) = v then _ else if (8 : Int32) = v then _ else if (13 : Int32) = v then _ else if (21 : Int32) = v then _ else if (34 : Int32) = v then _ else if (55 : Int32) = v then _ else if (89 : Int32) = v then _ else _) = _
  unfold b2i
  by_cases c : isCd v
  · rw [if_pos c]
    rcases c with c | c | c | c | c | c | c | c | c | c <;> subst c <;> rfl
  · rw [if_neg c]
    rw [if_neg (fun e => c (Or.inl e.symm)), if_neg (fun e => c (Or.inr (Or.inl e.symm))), if_neg (fun e => c (Or.inr (Or.inr (Or.inl e.symm)))), if_neg (fun e => c (Or.inr (Or.inr (Or.inr (Or.inl e.symm))))), if_neg (fun e => c (Or.inr (Or.inr (Or.inr (Or.inr (Or.inl e.symm)))))), if_neg (fun e => c (Or.inr (Or.inr (Or.inr (Or.inr (Or.inr (Or.inl e.symm))))))), if_neg (fun e => c (Or.inr (Or.inr (Or.inr (Or.inr (Or.inr (Or.inr (Or.inl e.symm)))))))), if_neg (fun e => c (Or.inr (Or.inr (Or.inr (Or.inr (Or.inr (Or.inr (Or.inr (Or.inl e.symm))))))))), if_neg (fun e => c (Or.inr (Or.inr (Or.inr (Or.inr (Or.inr (Or.inr (Or.inr (Or.inr (Or.inl e.symm)))))))))), if_neg (fun e => c (Or.inr (Or.inr (Or.inr (Or.inr (Or.inr (Or.inr (Or.inr (Or.inr (Or.inr e.symm))))))))))]
theorem c_cards {c e z : Nat} (hP : σ.2.1 1000000 = (99, 0)) (S : SE F σ c e z f) : cI (d + 2) 75 [.ref c] (F, J, σ) = some (tC f z, (F, J, σ)) := by
  have S' := S
  obtain ⟨s1, s2, s3, s4, s5, s6, s7⟩ := S'
  refine i_75 (d := d + 1) ?_
  rw [q_75_0 (d + 1)]
  have t9 : True ∧ c < 999999 := ⟨trivial, s2⟩
  have go : ∀ n k, k + n = z → Rn (d + 2) 75 (4, [.ref c, .int (tC f k), .int (nI k)], [], (F, J, σ)) = some (some (.int (tC f z)), (F, J, σ)) := by
    intro n
    induction n with
    | zero =>
      intro k hke
      rw [q_75_4 (d + 1)]
      simp only [mS, mF, s1, s5, if_true]
      rw [if_pos (yle (by omega) (by omega)), show k = z by omega]
    | succ n ih =>
      intro k hke
      have hk24 : k < 24 := by omega
      have rdv : rdI (F, J, σ) e (nI k) = some (f k) := by rw [rd_k s4 hk24 (by decide), s7 k hk24]
      rw [q_75_4 (d + 1)]
      simp only [mS, mR, mF, s1, s3, s5, if_true, if_pos t9, c_isN S (show k < z by omega), Option.bind_some, nn0, rdv, nI_s, c_isCard (μ := (F, J, σ)) hP, b2i_0, Decidable.not_not]
      rw [if_neg (nle (by omega) (by omega))]
      have := ih (k + 1) (by omega)
      rw [show tC f (k + 1) = if NO5 (f k) then tC f k else if isCd (f k) then tC f k + 1 else tC f k from rfl] at this
      by_cases c1 : NO5 (f k)
      · rw [if_pos c1] at this ⊢; exact this
      · rw [if_neg c1] at this ⊢
        by_cases c2 : isCd (f k)
        · rw [if_pos c2] at this; rw [if_neg (not_not_intro c2)]; exact this
        · rw [if_neg c2] at this; rw [if_pos c2]; exact this
  exact go z 0 (by omega)
theorem c_below {c e z : Nat} (S : SE F σ c e z f) (v : Int32) : cI (d + 2) 78 [.ref c, .int v] (F, J, σ) = some (nI (tB f v z), (F, J, σ)) := by
  have S' := S
  obtain ⟨s1, s2, s3, s4, s5, s6, s7⟩ := S'
  refine i_78 (d := d + 1) ?_
  rw [q_78_0 (d + 1)]
  have t9 : True ∧ c < 999999 := ⟨trivial, s2⟩
  have go : ∀ n k, k + n = z → Rn (d + 2) 78 (4, [.ref c, .int v, .int (nI (tB f v k)), .int (nI k)], [], (F, J, σ)) = some (some (.int (nI (tB f v z))), (F, J, σ)) := by
    intro n
    induction n with
    | zero =>
      intro k hke
      rw [q_78_4 (d + 1)]
      simp only [mS, mF, s1, s5, if_true]
      rw [if_pos (yle (by omega) (by omega)), show k = z by omega]
    | succ n ih =>
      intro k hke
      have hk24 : k < 24 := by omega
      have rdv : rdI (F, J, σ) e (nI k) = some (f k) := by rw [rd_k s4 hk24 (by decide), s7 k hk24]
      rw [q_78_4 (d + 1)]
      simp only [mS, mR, mF, s1, s3, s5, if_true, if_pos t9, c_isN S (show k < z by omega), Option.bind_some, nn0, rdv, nI_s]
      rw [if_neg (nle (by omega) (by omega))]
      have := ih (k + 1) (by omega)
      rw [show tB f v (k + 1) = if NO5 (f k) then tB f v k else if v ≤ f k then tB f v k else tB f v k + 1 from rfl] at this
      by_cases c1 : NO5 (f k)
      · rw [if_pos c1] at this ⊢; exact this
      · rw [if_neg c1] at this ⊢
        by_cases c2 : v ≤ f k
        · rw [if_pos c2] at this ⊢; exact this
        · rw [if_neg c2] at this ⊢; exact this
  exact go z 0 (by omega)
/-- the class's middle: any v that every fit number is, if one is -/
theorem c_middle {c e z : Nat} (S : SE F σ c e z f) {a : Int32} {w : Nat} (hn : 0 < tN f z) (hw : w = (tN f z - 1) / 2) (hu : ∀ k, k < z → ¬ NO5 (f k) → tB f (f k) z ≤ w → w < tB f (f k + 1) z → f k = a) (hx : ∃ k, k < z ∧ ¬ NO5 (f k) ∧ tB f (f k) z ≤ w ∧ w < tB f (f k + 1) z) : cI (d + 3) 77 [.ref c] (F, J, σ) = some (a, (F, J, σ)) := by
  have S' := S
  obtain ⟨s1, s2, s3, s4, s5, s6, s7⟩ := S'
  have t9 : True ∧ c < 999999 := ⟨trivial, s2⟩
  have tz := tN_le (f := f) z
  refine i_77 (d := d + 2) ?_
  rw [q_77_0 (d + 2)]
  simp only [mS, s1, if_pos t9, c_numbers (d := d) S, Option.bind_some]
  have ew : (nI (tN f z) - 1) / 2 = nI w := by
    rw [show nI (tN f z) - 1 = nI (tN f z - 1) from pk_sub (b := 1) (by omega), show (2 : Int32) = nI 2 from rfl, pk_div (by omega) (by decide) (by decide), hw]
  rw [ew]
  obtain ⟨k0, h1, h2, h3, h4⟩ := hx
  have go : ∀ n k w3, k + n = k0 → Rn (d + 3) 77 (11, [.ref c, .int (nI w), .int (nI k), w3], [], (F, J, σ)) = some (some (.int a), (F, J, σ)) := by
    intro n
    induction n with
    | zero =>
      intro k w3 hke
      have ek : k = k0 := by omega
      subst ek
      have rdv : rdI (F, J, σ) e (nI k) = some (f k) := by rw [rd_k s4 (by omega) (by decide), s7 k (by omega)]
      have b1 := tB_le (f := f) (v := f k) z
      have b2 := tB_le (f := f) (v := f k + 1) z
      rw [q_77_11 (d + 2)]
      simp only [mS, mR, mF, s1, s3, s5, if_true, if_pos t9, c_isN S h1, Option.bind_some, nn0, rdv, nI_s, c_below (d := d) S]
      rw [if_neg (nle (by omega) (by omega)), if_neg h2, if_neg (nlt (by omega) (by omega)), if_neg (nle (by omega) (by omega)), hu k h1 h2 h3 h4]
    | succ n ih =>
      intro k w3 hke
      have rdv : rdI (F, J, σ) e (nI k) = some (f k) := by rw [rd_k s4 (by omega) (by decide), s7 k (by omega)]
      have b1 := tB_le (f := f) (v := f k) z
      have b2 := tB_le (f := f) (v := f k + 1) z
      rw [q_77_11 (d + 2)]
      simp only [mS, mR, mF, s1, s3, s5, if_true, if_pos t9, c_isN S (show k < z by omega), Option.bind_some, nn0, rdv, nI_s, c_below (d := d) S]
      rw [if_neg (nle (by omega) (by omega))]
      by_cases c1 : NO5 (f k)
      · rw [if_pos c1]; exact ih (k + 1) w3 (by omega)
      · rw [if_neg c1]
        by_cases c2 : w < tB f (f k) z
        · rw [if_pos (ylt c2 (by omega))]; exact ih (k + 1) _ (by omega)
        · rw [if_neg (nlt (by omega) (by omega))]
          by_cases c3 : tB f (f k + 1) z ≤ w
          · rw [if_pos (yle c3 (by omega))]; exact ih (k + 1) _ (by omega)
          · rw [if_neg (nle (by omega) (by omega)), hu k (by omega) c1 (by omega) (by omega)]
  exact go k0 0 un (by omega)
end OPN
