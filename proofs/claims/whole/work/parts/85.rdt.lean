/-! A TEXT READ WHOLE, by both. -/
section RDT
variable {L d l B : Nat} {F F' : Nat → Nat → Int32} {J : Nat → Nat → Int64} {σ : aSg} {μ : aMem} {T g : Nat → Int32} {S : PSt}
def txA (T : Nat → Int32) (l : Nat) : PSt := (nxT T l false 0, (0, 0), fun _ => (0, 0))
def txK (T : Nat → Int32) (l : Nat) : Int32 := kyS T (nxT T l false 0)
def txQ (T : Nat → Int32) (l : Nat) : Bool × PSt := rdP T l (txK T l) (nxS T l (txA T l))
def txR (T : Nat → Int32) (l : Nat) : Bool × PSt := if txK T l = -1 then (false, txA T l) else if (txQ T l).1 = true ∧ (txQ T l).2.1.1 = 0 then (true, (txQ T l).2) else (false, (txQ T l).2)
theorem ky_c {t : Nat × Nat × Nat} : kyS T t = -1 ∨ ((kyS T t = 0 ∨ kyS T t = 1 ∨ kyS T t = 2) ∧ t.2.1 + 3 ≤ t.2.2) := by
  unfold kyS
  by_cases c1 : w3P T t 115 97 121
  · rw [if_pos c1]
    exact Or.inr ⟨Or.inl rfl, by have := c1.2.1; omega⟩
  · rw [if_neg c1]
    by_cases c2 : w4P T t 119 97 105 116
    · rw [if_pos c2]
      exact Or.inr ⟨Or.inr (Or.inl rfl), by have := c2.2.1; omega⟩
    · rw [if_neg c2]
      by_cases c3 : w4P T t 102 105 110 101
      · rw [if_pos c3]
        exact Or.inr ⟨Or.inr (Or.inr rfl), by have := c3.2.1; omega⟩
      · rw [if_neg c3]
        exact Or.inl rfl
theorem tx_W : TKt T l (txA T l).1 := (nxT_w (Nat.zero_le _)).1
theorem tx_k (hk : ¬ txK T l = -1) : (txK T l = 0 ∨ txK T l = 1 ∨ txK T l = 2) ∧ (txA T l).1.2.1 + 3 ≤ (txA T l).1.2.2 := by
  rcases ky_c (T := T) (t := nxT T l false 0) with c | c
  · exact absurd c hk
  · exact c
theorem tx_G (hk : ¬ txK T l = -1) : GW T l (txK T l) (nxS T l (txA T l)) := by
  obtain ⟨w1, w2⟩ := nxS_w (tx_W (T := T) (l := l))
  have := (tx_k hk).2
  refine ⟨w1, ?_, fun j hj => absurd hj (Nat.not_lt_zero j)⟩
  show 0 + 3 ≤ (nxS T l (txA T l)).1.2.1
  omega
theorem tx_n (hk : txK T l = 0 ∨ txK T l = 1 ∨ txK T l = 2) : ¬ txK T l < 0 ∧ 0 ≤ txK T l := by
  rcases hk with e | e | e <;> rw [e] <;> decide
theorem c_readTape (h : Lay L σ) (hl : l ≤ 96) (hT : ∀ i, i < l → F 67 i = T i) {D : Nat} : ∃ v F', cI (D + 76) 21 [.ref 64, .ref 67, .int (nI l)] (F, J, σ) = some (v, (F', J, σ)) ∧ (∀ a, a ≠ 64 → a ≠ 65 → a ≠ 66 → F' a = F a) ∧ ((txR T l).1 = true → v = -1 ∧ RS T l (txK T l) F' (txR T l).2) ∧ (¬ (txR T l).1 = true → v = nI (txR T l).2.1.2.1) := by
  have e0 := q_21_0 (D + 75) 64 67 (nI l) (F, J, σ)
  have x1 : (if (96 : Int32) < nI l then 96 else nI l) = nI l := if_neg (show ¬ nI 96 < nI l from nlt hl (by decide))
  have x2 : (if (0 : Int32) < nI l then nI l else 0) = nI l := by
    by_cases c : l = 0
    · rw [c]; rfl
    · rw [if_pos (show (0 : Int32) < nI l from ylt (a := 0) (by omega) (by omega))]
  have hl67 : rdL (F, J, σ) 67 = some (nI 96) := by
    unfold rdL
    simp only [mS, Y_67 h]
    rw [if_pos (Or.inl ⟨by decide, by decide⟩)]
    rfl
  have x3 : (if nI 96 < nI l then nI 96 else nI l) = nI l := if_neg (nlt hl (by decide))
  have m1 : mF (setF (F, J, σ) 64 1 (nI l)) 64 1 = nI l := rfl
  rw [x1, x2, m1, hl67, Option.bind_some] at e0
  rw [x3] at e0
  have i0 : ix 0 = 0 := rfl
  have il : ix (nI l) = l := ix_nI (by omega)
  rw [i0, il] at e0
  generalize hX : setF (setF (setF (setF (setF (cpyF (setF (F, J, σ) 64 1 (nI l)) 67 (mR (F, J, σ) 64 0) 0 0 l) 64 3 0) 64 5 0) 64 6 (-1)) 64 7 0) 64 9 0 = μ1 at e0
  have hz : mR (F, J, σ) 64 0 = 65 := Z_64_0 h
  rw [hz] at hX
  have e2 : μ1 = (μ1.1, J, σ) := by rw [← hX]; rfl
  generalize eX : μ1.1 = X at e2
  have f : ∀ k, X 64 k = (setF (setF (setF (setF (setF (cpyF (setF (F, J, σ) 64 1 (nI l)) 67 65 0 0 l) 64 3 0) 64 5 0) 64 6 (-1)) 64 7 0) 64 9 0).1 64 k := fun k => by rw [← eX, ← hX]
  have f1 : X 64 1 = nI l := (f 1).trans rfl
  have f3 : X 64 3 = 0 := (f 3).trans rfl
  have f5 : X 64 5 = 0 := (f 5).trans rfl
  have f6 : X 64 6 = -1 := (f 6).trans rfl
  have f7 : X 64 7 = 0 := (f 7).trans rfl
  have f9 : X 64 9 = 0 := (f 9).trans rfl
  have fT : ∀ i, i < l → X 65 i = T i := fun i hi => by
    rw [← hT i hi, ← eX, ← hX]
    show (if 0 ≤ i ∧ i < 0 + l then F 67 (0 + (i - 0)) else _) = _
    rw [if_pos (by omega), show 0 + (i - 0) = i by omega]
  have fr : ∀ a, a ≠ 64 → a ≠ 65 → X a = F a := fun a h1 h2 => by
    rw [← eX, ← hX]
    simp only [setF_up, cpyF_mk, up1_n _ _ h1, up1_n _ _ h2]
  rw [e2] at e0
  clear f eX hX e2 m1 x1 x2 x3
  simp only [mS, mR, Y_64 h, Z_64_0 h, Y_65 h, Y_67 h, if_true] at e0
  rw [if_pos ⟨trivial, trivial, by decide, by decide, show ¬ nI l < 0 from nlt (b := 0) (by omega) (by omega), by omega, by omega⟩, if_pos t64] at e0
  obtain ⟨g', a1, ⟨a2, a3, a4⟩, a5⟩ := c_lookU (d := D + 74) (F := X) (J := J) (g := X 64) (k := 0) (sp := 0) h hl fT (by decide) (Nat.zero_le _) f1 f7 f9
  have wb0 : wbK 0 = false := rfl
  rw [wb0] at a2 a3 a4
  rw [up1_self] at a1
  rw [a1, Option.bind_some] at e0
  have W := tx_W (T := T) (l := l)
  have u65 : ∀ i, i < l → up1 X 64 g' 65 i = T i := fun i hi => by rw [up1_ne X g' (show 65 ≠ 64 by decide)]; exact fT i hi
  have u64 : ∀ k v, g' k = v → up1 X 64 g' 64 k = v := fun k v q => by rw [up1_s]; exact q
  have b1 : cI (D + 75) 28 [.ref 64] (up1 X 64 g', J, σ) = some (txK T l, (up1 X 64 g', J, σ)) := c_key (d := D + 70) h hl W u65 (u64 _ _ ((a5 1 (by decide)).trans f1)) (u64 _ _ a2) (u64 _ _ a3) (u64 _ _ a4)
  simp only [mS, Y_64 h] at e0
  rw [if_pos t64, b1, Option.bind_some] at e0
  simp only [mS, mF, Y_64 h, setF_up, up1_s, up1_up1, if_true] at e0
  by_cases ck : txK T l = -1
  · rw [ck, if_neg (by decide), up1_n _ _ (show 8 ≠ 4 by decide), a3] at e0
    have er : txR T l = (false, txA T l) := by unfold txR; rw [if_pos ck]
    rw [er]
    exact ⟨_, _, i_21 e0, fun a h1 h2 h3 => by rw [up1_ne _ _ h1]; exact fr a h1 h2, fun z => Bool.noConfusion z, fun _ => rfl⟩
  · obtain ⟨k3, -⟩ := tx_k ck
    obtain ⟨k1, k2⟩ := tx_n k3
    rw [if_pos k2, if_pos t64] at e0
    have R0 : RS T l (txK T l) (up1 X 64 (up1 g' 4 (txK T l))) (txA T l) := by
      refine ⟨⟨hl, W⟩, fun i hi => ?_, ?_, ?_, ?_, ?_, ?_, ⟨?_, ?_, ?_⟩, fun j hj => absurd hj (Nat.not_lt_zero j)⟩
      · rw [up1_ne _ _ (show 65 ≠ 64 by decide)]; exact fT i hi
      · rw [up1_s, up1_n _ _ (by decide), a5 1 (by decide)]; exact f1
      · rw [up1_s, up1_n _ _ (by decide), a5 3 (by decide)]; exact f3
      · rw [up1_s, up1_s]
      · rw [up1_s, up1_n _ _ (by decide), a5 5 (by decide)]; exact f5
      · rw [up1_s, up1_n _ _ (by decide), a5 6 (by decide)]; exact f6
      · rw [up1_s, up1_n _ _ (by decide)]; exact a2
      · rw [up1_s, up1_n _ _ (by decide)]; exact a3
      · rw [up1_s, up1_n _ _ (by decide)]; exact a4
    obtain ⟨F2, c1, c2, c3⟩ := c_look (d := D + 74) (J := J) h R0
    rw [c1, Option.bind_some] at e0
    simp only [mS, Y_64 h] at e0
    obtain ⟨F3, d1, d2, d3, d4⟩ := c_rd (J := J) (D := D + 75) h k3 (by omega) F2 _ c3 (tx_G ck)
    rw [if_pos t64, d1, Option.bind_some] at e0
    simp only [mS, mF, Y_64 h, if_true, setF_up, up1_s] at e0
    have frz : ∀ a, a ≠ 64 → a ≠ 65 → a ≠ 66 → F3 a = F a := fun a h1 h2 h3 => by rw [d2 a h1 h3, c2 a h1, up1_ne _ _ h1]; exact fr a h1 h2
    have eq : rdP T l (txK T l) (nxS T l (txA T l)) = txQ T l := rfl
    rw [eq] at d3 d4
    by_cases ok : (txQ T l).1 = true
    · have R3 := d3 ok
      rw [R3.r6, if_neg (by decide), R3.r7, R3.r8] at e0
      by_cases k0 : (txQ T l).2.1.1 = 0
      · rw [if_pos (show nI (txQ T l).2.1.1 = 0 by rw [k0]; rfl)] at e0
        have er : txR T l = (true, (txQ T l).2) := by unfold txR; rw [if_neg ck, if_pos ⟨ok, k0⟩]
        rw [er]
        exact ⟨_, _, i_21 e0, frz, fun _ => ⟨rfl, R3⟩, fun z => absurd rfl z⟩
      · rw [if_neg (show ¬ nI (txQ T l).2.1.1 = 0 from fun z => k0 ((k_eq 0 R3.tk.2.2.1 (by decide)).mp z))] at e0
        have er : txR T l = (false, (txQ T l).2) := by unfold txR; rw [if_neg ck, if_neg (fun z => k0 z.2)]
        rw [er]
        exact ⟨_, _, i_21 e0, fun a h1 h2 h3 => by rw [up1_ne _ _ h1]; exact frz a h1 h2 h3, fun z => Bool.noConfusion z, fun _ => rfl⟩
    · have R3 := d4 ok
      have p6 : 0 ≤ F3 64 6 := by rw [R3.1]; exact yle (a := 0) (by omega) (by have := R3.2.1; omega)
      rw [if_pos p6, R3.1] at e0
      have er : txR T l = (false, (txQ T l).2) := by unfold txR; rw [if_neg ck, if_neg (fun z => ok z.1)]
      rw [er]
      exact ⟨_, _, i_21 e0, frz, fun z => Bool.noConfusion z, fun _ => rfl⟩
/-! the model -/
theorem m_w3 (h : Lay L σ) {pa no : Nat} (R : MS T l B pa no F S) {a b c : Int32} : cI d 196 [.ref 99, .int a, .int b, .int c, .int 0] (F, J, σ) = some (b2i (w3P T S.1 a b c), (F, J, σ)) := by
  have W := R.tk
  have hl := R.hl
  refine i_196 ?_
  rw [q_196_0, if_pos rfl]
  have p2 : nI S.1.2.1 + 2 = nI (S.1.2.1 + 2) := by rw [show (2 : Int32) = nI 2 from rfl, nI_add]
  simp only [mS, mR, mF, Y_99 h, Z_99_19 h, R.r21, R.r22, R.r23, if_true, nI_s, p2]
  unfold b2i
  by_cases c1 : S.1.1 = 1
  · rw [if_pos (show nI S.1.1 = 1 by rw [c1]; rfl), pk_sub W.1]
    by_cases c2 : S.1.2.2 - S.1.2.1 = 3
    · have := W.2.1
      rw [if_pos (show nI (S.1.2.2 - S.1.2.1) = 3 by rw [c2]; rfl), rd_k (Y_117 h) (by omega) (by decide), rd_k (Y_117 h) (by omega) (by decide), rd_k (Y_117 h) (by omega) (by decide)]
      simp only [Option.bind_some, R.hT _ (show S.1.2.1 < l by omega), R.hT _ (show S.1.2.1 + 1 < l by omega), R.hT _ (show S.1.2.1 + 2 < l by omega)]
      by_cases y1 : T S.1.2.1 = a
      · rw [if_pos y1]
        by_cases y2 : T (S.1.2.1 + 1) = b
        · rw [if_pos y2]
          by_cases y3 : T (S.1.2.1 + 2) = c
          · rw [if_pos y3, if_pos ⟨c1, c2, y1, y2, y3⟩]
          · rw [if_neg y3, if_neg (fun z => y3 z.2.2.2.2)]
        · rw [if_neg y2, if_neg (fun z => y2 z.2.2.2.1)]
      · rw [if_neg y1, if_neg (fun z => y1 z.2.2.1)]
    · rw [if_neg (show ¬ nI (S.1.2.2 - S.1.2.1) = 3 from fun z => c2 ((nI_eq (b := 3) (by have := W.2.1; omega) (by decide)).mp z)), if_neg (fun z => c2 z.2.1)]
  · rw [if_neg (show ¬ nI S.1.1 = 1 from fun z => c1 ((k_eq 1 W.2.2.1 (by decide)).mp z)), if_neg (fun z => c1 z.1)]
theorem m_w4 (h : Lay L σ) {pa no : Nat} (R : MS T l B pa no F S) {a b c e : Int32} (he : ¬ e = 0) : cI d 196 [.ref 99, .int a, .int b, .int c, .int e] (F, J, σ) = some (b2i (w4P T S.1 a b c e), (F, J, σ)) := by
  have W := R.tk
  have hl := R.hl
  refine i_196 ?_
  rw [q_196_0, if_neg he]
  have p2 : nI S.1.2.1 + 2 = nI (S.1.2.1 + 2) := by rw [show (2 : Int32) = nI 2 from rfl, nI_add]
  have p3 : nI S.1.2.1 + 3 = nI (S.1.2.1 + 3) := by rw [show (3 : Int32) = nI 3 from rfl, nI_add]
  simp only [mS, mR, mF, Y_99 h, Z_99_19 h, R.r21, R.r22, R.r23, if_true, nI_s, p2, p3]
  unfold b2i
  by_cases c1 : S.1.1 = 1
  · rw [if_pos (show nI S.1.1 = 1 by rw [c1]; rfl), pk_sub W.1]
    by_cases c2 : S.1.2.2 - S.1.2.1 = 4
    · have := W.2.1
      rw [if_pos (show nI (S.1.2.2 - S.1.2.1) = 4 by rw [c2]; rfl), rd_k (Y_117 h) (by omega) (by decide), rd_k (Y_117 h) (by omega) (by decide), rd_k (Y_117 h) (by omega) (by decide), rd_k (Y_117 h) (by omega) (by decide)]
      simp only [Option.bind_some, R.hT _ (show S.1.2.1 < l by omega), R.hT _ (show S.1.2.1 + 1 < l by omega), R.hT _ (show S.1.2.1 + 2 < l by omega), R.hT _ (show S.1.2.1 + 3 < l by omega)]
      by_cases y1 : T S.1.2.1 = a
      · rw [if_pos y1]
        by_cases y2 : T (S.1.2.1 + 1) = b
        · rw [if_pos y2]
          by_cases y3 : T (S.1.2.1 + 2) = c
          · rw [if_pos y3]
            by_cases y4 : T (S.1.2.1 + 3) = e
            · rw [if_pos y4, if_pos ⟨c1, c2, y1, y2, y3, y4⟩]
            · rw [if_neg y4, if_neg (fun z => y4 z.2.2.2.2.2)]
          · rw [if_neg y3, if_neg (fun z => y3 z.2.2.2.2.1)]
        · rw [if_neg y2, if_neg (fun z => y2 z.2.2.2.1)]
      · rw [if_neg y1, if_neg (fun z => y1 z.2.2.1)]
    · rw [if_neg (show ¬ nI (S.1.2.2 - S.1.2.1) = 4 from fun z => c2 ((nI_eq (b := 4) (by have := W.2.1; omega) (by decide)).mp z)), if_neg (fun z => c2 z.2.1)]
  · rw [if_neg (show ¬ nI S.1.1 = 1 from fun z => c1 ((k_eq 1 W.2.2.1 (by decide)).mp z)), if_neg (fun z => c1 z.1)]
theorem m_key (h : Lay L σ) {pa no : Nat} (R : MS T l B pa no F S) : cI (d + 1) 197 [.ref 99] (F, J, σ) = some (kyS T S.1, (F, J, σ)) := by
  refine i_197 ?_
  rw [q_197_0]
  simp only [mS, Y_99 h]
  rw [if_pos t99, m_w3 h R, Option.bind_some]
  simp only [b2i_0, mS, Y_99 h]
  unfold kyS
  by_cases c1 : w3P T S.1 115 97 121
  · rw [if_neg (not_not_intro c1), if_pos c1]
  · rw [if_pos c1, if_neg c1, if_pos t99, m_w4 h R (by decide), Option.bind_some]
    simp only [b2i_0, mS, Y_99 h]
    by_cases c2 : w4P T S.1 119 97 105 116
    · rw [if_neg (not_not_intro c2), if_pos c2]
    · rw [if_pos c2, if_neg c2, if_pos t99, m_w4 h R (by decide), Option.bind_some]
      simp only [b2i_0]
      by_cases c3 : w4P T S.1 102 105 110 101
      · rw [if_neg (not_not_intro c3), if_pos c3]
      · rw [if_pos c3, if_neg c3]
noncomputable def paW (D : Nat) (μ : aMem) : Option (Option Value × aMem) := (cV D 194 [.ref 99] μ).bind fun p4 => if (mS p4 99).1 = 9 ∧ 99 < 999999 then ((cI D 197 [.ref 99] p4).bind fun p6 => if p6.1 < 0 then (if (0 : Int32) = 0 then (if (mS p6.2 99).1 = 9 then (some (some (.int (-1)), setF p6.2 99 20 0)) else none) else (if (mS p6.2 99).1 = 9 ∧ 99 < 999999 then ((cV D 194 [.ref 99] p6.2).bind fun p12 => if (mS p12 99).1 = 9 ∧ 99 < 999999 then ((cI D 200 [.ref 99, .int p6.1] p12).bind fun p14 => if p14.1 = 0 then (if (mS p14.2 99).1 = 9 then (some (some (.int p6.1), setF p14.2 99 20 0)) else none) else (if (mS p14.2 99).1 = 9 then (if (mF p14.2 99 23) = 0 then (if (1 : Int32) = 0 then (some (some (.int (-1)), setF p14.2 99 20 0)) else (some (some (.int p6.1), setF p14.2 99 20 0))) else (some (some (.int p6.1), setF p14.2 99 20 0))) else none)) else none) else none)) else (if (1 : Int32) = 0 then (if (mS p6.2 99).1 = 9 then (some (some (.int (-1)), setF p6.2 99 20 0)) else none) else (if (mS p6.2 99).1 = 9 ∧ 99 < 999999 then ((cV D 194 [.ref 99] p6.2).bind fun p26 => if (mS p26 99).1 = 9 ∧ 99 < 999999 then ((cI D 200 [.ref 99, .int p6.1] p26).bind fun p28 => if p28.1 = 0 then (if (mS p28.2 99).1 = 9 then (if (0 : Int32) = 0 then (some (some (.int (-1)), setF p28.2 99 20 0)) else (some (some (.int p6.1), setF p28.2 99 20 0))) else none) else (if (mS p28.2 99).1 = 9 then (if (mF p28.2 99 23) = 0 then (some (some (.int p6.1), setF p28.2 99 20 0)) else (if (0 : Int32) = 0 then (some (some (.int (-1)), setF p28.2 99 20 0)) else (some (some (.int p6.1), setF p28.2 99 20 0)))) else none)) else none) else none))) else none
/-- what the model holds behind a text -/
abbrev paR (T : Nat → Int32) (l B : Nat) (X F' : Nat → Nat → Int32) (v : Int32) : Prop := (∀ a, a ≠ 99 → a ≠ 100 → F' a = X a) ∧ (∀ j, j < 20 ∨ 30 < j → F' 99 j = X 99 j) ∧ F' 99 20 = 0 ∧ (∀ j, j < B → F' 100 j = X 100 j) ∧ ((txR T l).1 = true → v = txK T l ∧ F' 99 28 = nI (txR T l).2.2.1.2 ∧ F' 99 30 = nI (txR T l).2.2.1.1 ∧ ∀ j, j < (txR T l).2.2.1.2 → F' 100 (B + 2 * j) = ((txR T l).2.2.2 j).1 ∧ F' 100 (B + 2 * j + 1) = ((txR T l).2.2.2 j).2) ∧ (¬ (txR T l).1 = true → v = -1 ∧ F' 99 21 = nI (txR T l).2.1.2.1)
theorem paR_of {X F1 : Nat → Nat → Int32} {v : Int32} (fr : MFr B X F1) (ht : (txR T l).1 = true → v = txK T l ∧ MS T l B 0 0 F1 (txR T l).2) (hf : ¬ (txR T l).1 = true → v = -1 ∧ F1 99 21 = nI (txR T l).2.1.2.1) : paR T l B X (up1 F1 99 (up1 (F1 99) 20 0)) v := by
  have e99 : ∀ j, j ≠ 20 → up1 F1 99 (up1 (F1 99) 20 0) 99 j = F1 99 j := fun j hj => by rw [up1_s, up1_n _ _ hj]
  have e100 : ∀ j, up1 F1 99 (up1 (F1 99) 20 0) 100 j = F1 100 j := fun j => by rw [up1_ne _ _ (show 100 ≠ 99 by decide)]
  refine ⟨fun a h1 h2 => by rw [up1_ne _ _ h1]; exact fr.1 a h1 h2, fun j hj => by rw [e99 j (by omega)]; exact fr.2.1 j (by omega), by rw [up1_s, up1_s], fun j hj => by rw [e100]; exact fr.2.2 j hj, fun z => ?_, fun z => ?_⟩
  · obtain ⟨h1, R⟩ := ht z
    refine ⟨h1, by rw [e99 28 (by decide)]; exact R.r28, by rw [e99 30 (by decide)]; exact R.r30, fun j hj => ?_⟩
    rw [e100, e100]
    exact R.rc j hj
  · obtain ⟨h1, h2⟩ := hf z
    exact ⟨h1, by rw [e99 21 (by decide)]; exact h2⟩
theorem m_parW (h : Lay L σ) (hl : l ≤ 96) (hB : B ≤ 2914) {X : Nat → Nat → Int32} (hT : ∀ i, i < l → X 117 i = T i) (x20 : X 99 20 = nI l) (x22 : X 99 22 = 0) (x23 : X 99 23 = 3) (x26 : X 99 26 = 0) (x27 : X 99 27 = 0) (x28 : X 99 28 = 0) (x29 : X 99 29 = nI B) (x30 : X 99 30 = 0) {D : Nat} : ∃ v F', paW (D + 64) (X, J, σ) = some (some (.int v), (F', J, σ)) ∧ paR T l B X F' v := by
  obtain ⟨g', a1, ⟨a2, a3, a4⟩, a5, a6, a7, a8⟩ := m_nextU (d := D + 62) (F := X) (J := J) (g := X 99) (k := 3) (sp := 0) h hl hT (by decide) (fun z => by omega) (Nat.zero_le _) x20 x23 x22
  have wb0 : wbK 3 = false := rfl
  rw [wb0] at a2 a3 a4 a5 a6 a7
  rw [up1_self] at a1
  have W := tx_W (T := T) (l := l)
  have R0 : MS T l B 0 0 (up1 X 99 g') (txA T l) := by
    refine ⟨⟨hl, W, hB⟩, hT_u hT g', f_u ((a8 20 (by decide)).trans x20), ⟨f_u a3, f_u a4, f_u a2⟩, fun z => f_u (a5 z), fun z => f_u (a6 z), fun z => f_u (a7 z), ⟨f_u ((a8 26 (by decide)).trans x26), f_u ((a8 27 (by decide)).trans x27), f_u ((a8 28 (by decide)).trans x28), f_u ((a8 29 (by decide)).trans x29), f_u ((a8 30 (by decide)).trans x30)⟩, fun j hj => absurd hj (Nat.not_lt_zero j)⟩
  have fr0 : MFr B X (up1 X 99 g') := ⟨fun a x _ => up1_n _ _ x, fun j x => by rw [up1_s]; exact a8 j (by omega), fun j _ => by rw [up1_ne X g' (show 100 ≠ 99 by decide)]⟩
  have b1 : cI (D + 64) 197 [.ref 99] (up1 X 99 g', J, σ) = some (txK T l, (up1 X 99 g', J, σ)) := m_key (d := D + 63) h R0
  have e0 : paW (D + 64) (X, J, σ) = paW (D + 64) (X, J, σ) := rfl
  conv at e0 => rhs; unfold paW
  rw [a1, Option.bind_some] at e0
  simp only [mS, Y_99 h] at e0
  rw [if_pos t99, b1, Option.bind_some] at e0
  simp only [mS, mF, Y_99 h, setF_up, if_true] at e0
  by_cases ck : txK T l = -1
  · rw [ck, if_pos (by decide)] at e0
    have er : txR T l = (false, txA T l) := by unfold txR; rw [if_pos ck]
    exact ⟨_, _, e0, paR_of fr0 (fun z => by rw [er] at z; exact Bool.noConfusion z) (fun _ => ⟨rfl, by rw [er]; exact R0.r21⟩)⟩
  · obtain ⟨k3, -⟩ := tx_k ck
    obtain ⟨k1, k2⟩ := tx_n k3
    rw [if_neg k1, if_neg (by decide), if_pos t99] at e0
    obtain ⟨F2, c1, c2, c3⟩ := m_next (d := D + 62) (J := J) h R0
    rw [c1, Option.bind_some] at e0
    simp only [mS, Y_99 h] at e0
    obtain ⟨F3, d1, d2, d3, d4⟩ := m_rd (J := J) (B := B) (D := D + 64) h k3 (by omega) F2 _ c3 (tx_G ck)
    rw [if_pos t99, d1, Option.bind_some] at e0
    simp only [mS, mF, Y_99 h, if_true, setF_up] at e0
    have fr := (fr0.tr c2).tr d2
    have eq : rdP T l (txK T l) (nxS T l (txA T l)) = txQ T l := rfl
    rw [eq] at d3 d4 e0
    by_cases ok : (txQ T l).1 = true
    · have R3 := d3 ok
      rw [if_pos ok, if_neg (by decide)] at e0
      by_cases k0 : (txQ T l).2.1.1 = 0
      · rw [if_pos (show F3 99 23 = 0 from R3.r23.trans (by rw [k0]; rfl))] at e0
        have er : txR T l = (true, (txQ T l).2) := by unfold txR; rw [if_neg ck, if_pos ⟨ok, k0⟩]
        exact ⟨_, _, e0, paR_of fr (fun _ => ⟨rfl, by rw [er]; exact R3⟩) (fun z => absurd (by rw [er]) z)⟩
      · rw [if_neg (show ¬ F3 99 23 = 0 from fun z => k0 ((k_eq 0 R3.tk.2.2.1 (by decide)).mp (R3.r23.symm.trans z)))] at e0
        have er : txR T l = (false, (txQ T l).2) := by unfold txR; rw [if_neg ck, if_neg (fun z => k0 z.2)]
        exact ⟨_, _, e0, paR_of fr (fun z => by rw [er] at z; exact Bool.noConfusion z) (fun _ => ⟨rfl, by rw [er]; exact R3.r21⟩)⟩
    · rw [if_neg ok] at e0
      have er : txR T l = (false, (txQ T l).2) := by unfold txR; rw [if_neg ck, if_neg (fun z => ok z.1)]
      exact ⟨_, _, e0, paR_of fr (fun z => by rw [er] at z; exact Bool.noConfusion z) (fun _ => ⟨rfl, by rw [er]; exact d4 ok⟩)⟩
def baB (t : Nat) : Nat := if t = 14 then 2914 else 118 + 200 * t
theorem m_parse (h : Lay L σ) (hl : l ≤ 96) (hT : ∀ i, i < l → F 117 i = T i) (h20 : F 99 20 = nI l) {t : Nat} (t14 : t ≤ 14) (ht : F 100 2 = nI t) {D : Nat} : ∃ v F', cI (D + 65) 206 [.ref 99] (F, J, σ) = some (v, (F', J, σ)) ∧ paR T l (baB t) F F' v := by
  have e0 := q_206_0 (D + 64) 99 (F, J, σ)
  generalize hX : setF (setF (setF (setF (setF (setF (F, J, σ) 99 22 0) 99 23 3) 99 26 0) 99 27 0) 99 28 0) 99 30 0 = μ1 at e0
  have e2 : μ1 = (μ1.1, J, σ) := by rw [← hX]; rfl
  generalize eX : μ1.1 = X at e2
  have f : ∀ k, X 99 k = (setF (setF (setF (setF (setF (setF (F, J, σ) 99 22 0) 99 23 3) 99 26 0) 99 27 0) 99 28 0) 99 30 0).1 99 k := fun k => by rw [← eX, ← hX]
  have f20 : X 99 20 = nI l := (f 20).trans h20
  have f22 : X 99 22 = 0 := (f 22).trans rfl
  have f23 : X 99 23 = 3 := (f 23).trans rfl
  have f26 : X 99 26 = 0 := (f 26).trans rfl
  have f27 : X 99 27 = 0 := (f 27).trans rfl
  have f28 : X 99 28 = 0 := (f 28).trans rfl
  have f30 : X 99 30 = 0 := (f 30).trans rfl
  have fj : ∀ j, j < 20 ∨ 30 < j → X 99 j = F 99 j := fun j hj => by
    rw [f j]
    simp only [setF_up, up1_s, up1_up1]
    rw [up1_n _ _ (by omega), up1_n _ _ (by omega), up1_n _ _ (by omega), up1_n _ _ (by omega), up1_n _ _ (by omega), up1_n _ _ (by omega)]
  have fr : ∀ a, a ≠ 99 → X a = F a := fun a h1 => by
    rw [← eX, ← hX]
    simp only [setF_up, up1_n _ _ h1]
  rw [e2] at e0
  clear f eX hX e2
  simp only [mS, mR, Y_99 h, Z_99_0 h, if_true] at e0
  have r2 : rdI (X, J, σ) 100 2 = some (nI t) := by
    rw [show rdI (X, J, σ) 100 2 = some (X 100 2) from rd_k (i := 2) (Y_100 h) (by decide) (by decide), fr 100 (by decide), ht]
  rw [r2, Option.bind_some, Option.bind_some] at e0
  have go : ∀ B, B ≤ 2914 → B = baB t → (∀ r, paW (D + 64) (up1 X 99 (up1 (X 99) 29 (nI B)), J, σ) = r → Rn (D + 65) 206 (0, [.ref 99, un, un], [], (F, J, σ)) = r) → ∃ v F', cI (D + 65) 206 [.ref 99] (F, J, σ) = some (v, (F', J, σ)) ∧ paR T l (baB t) F F' v := fun B hB eB he => by
    obtain ⟨v, F', z1, z2, z3, z4, z5, z6⟩ := m_parW (J := J) (D := D) (X := up1 X 99 (up1 (X 99) 29 (nI B))) (T := T) h hl hB (fun i hi => by rw [up1_ne _ _ (show 117 ≠ 99 by decide), fr 117 (by decide)]; exact hT i hi) (by rw [up1_s, up1_n _ _ (by decide)]; exact f20) (by rw [up1_s, up1_n _ _ (by decide)]; exact f22) (by rw [up1_s, up1_n _ _ (by decide)]; exact f23) (by rw [up1_s, up1_n _ _ (by decide)]; exact f26) (by rw [up1_s, up1_n _ _ (by decide)]; exact f27) (by rw [up1_s, up1_n _ _ (by decide)]; exact f28) (by rw [up1_s, up1_s]) (by rw [up1_s, up1_n _ _ (by decide)]; exact f30)
    refine ⟨v, F', i_206 (he _ z1), ?_⟩
    rw [← eB]
    refine ⟨fun a h1 h2 => by rw [z2 a h1 h2, up1_ne _ _ h1, fr a h1], fun j hj => by rw [z3 j hj, up1_s, up1_n _ _ (by omega)]; exact fj j hj, z4, fun j hj => by rw [z5 j hj, up1_ne _ _ (show 100 ≠ 99 by decide), fr 100 (by decide)], z6⟩
  by_cases c : t = 14
  · refine go 2914 (by decide) (by unfold baB; rw [if_pos c]) (fun r hr => ?_)
    rw [e0, if_pos (show 14 ≤ nI t from yle (a := 14) (by omega) (by omega)), if_pos t99]
    exact hr
  · refine go (118 + 200 * t) (by omega) (by unfold baB; rw [if_neg c]) (fun r hr => ?_)
    have e138 : cI (D + 64) 138 [.ref 99, .int (nI t)] (X, J, σ) = some (nI (114 + 200 * t), (X, J, σ)) := by
      refine i_138 ?_
      rw [q_138_0, show (200 : Int32) = nI 200 from rfl, pk_mul, show (114 : Int32) = nI 114 from rfl, nI_add]
    rw [e0, if_neg (show ¬ 14 ≤ nI t from nle (a := 14) (by omega) (by decide)), if_pos t99, e138, Option.bind_some]
    simp only [mS, Y_99 h, if_true, setF_up]
    rw [if_pos t99, show nI (114 + 200 * t) + 4 = nI (118 + 200 * t) by rw [show (4 : Int32) = nI 4 from rfl, nI_add]; congr 1; omega]
    exact hr
end RDT
