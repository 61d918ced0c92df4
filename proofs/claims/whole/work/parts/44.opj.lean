/-! LAY. -/
section OPJ
variable {L d : Nat} {F F' : Nat → Nat → Int32} {J : Nat → Nat → Int64} {σ : aSg} {μ : aMem} {s s' xs : Nat → Int32}
theorem IV_sl {q i : Nat} (I : IV L xs q F σ) (hi : i < 5) (hF : ∀ a, a < 79 + 4 * i ∨ 82 + 4 * i < a → a < 106 ∨ 110 < a → F' a = F a) (h3 : ∀ k, k ≠ i → k < 5 → F' 106 k = F 106 k ∧ F' 107 k = F 107 k ∧ F' 108 k = F 108 k ∧ F' 109 k = F 109 k ∧ ∀ j, j < 24 → F' 110 (24 * k + j) = F 110 (24 * k + j)) (hS : SL F' i) : IV L xs (q + 1) F' σ := by
  have hG : ∀ a, a < 79 ∨ (99 ≤ a ∧ a ≤ 105) ∨ 111 ≤ a → F' a = F a := fun a ha => hF a (by omega) (by omega)
  refine IV_mk I (fun a ha => hG a (by omega)) ⟨by rw [hG 0 (by omega)], by rw [hG 99 (by omega)]⟩ (TPE_cg (by rw [hG 0 (by omega)]) (by rw [hG 99 (by omega)]) (hG _ (by omega)) (hG _ (by omega)) I.tp) (WTE_cg (by rw [hG 0 (by omega)]) (by rw [hG 99 (by omega)]) (hG _ (by omega)) (hG _ (by omega)) I.wt) (fun k hk => SH_cg (hG _ (by omega)) (hG _ (by omega)) (hG _ (by omega)) (hG _ (by omega)) (hG _ (by omega)) (I.sh k hk)) (fun k hk => ?_)
  by_cases e : k = i
  · rw [e]; exact hS
  · obtain ⟨g6, g7, g8, g9, g10⟩ := h3 k e hk
    have S := I.sl k hk
    unfold SL at S ⊢
    rw [hF (79 + 4 * k) (by omega) (by omega), hF (80 + 4 * k) (by omega) (by omega), hF (81 + 4 * k) (by omega) (by omega), hF (82 + 4 * k) (by omega) (by omega), g6, g7, g8, g9]
    obtain ⟨s1, s2, s3, s4, s5⟩ := S
    refine ⟨s1, s2, s3, fun e2 => ?_, s5⟩
    obtain ⟨z, z1, z2, z3, z4⟩ := s4 e2
    exact ⟨z, z1, z2, z3, fun j hj => by rw [g10 j hj]; exact z4 j hj⟩
abbrev laK (n : Nat) (x k : Int32) : Prop := x = 0 ∨ x = 3 ∨ (x = 1 ∧ 0 ≤ k ∧ k < nI n) ∨ (x = 2 ∧ 0 ≤ k ∧ k ≤ 3)
theorem m_lay0 (h : Lay L σ) {n : Nat} (hn : F 100 0 = nI n) (n10 : n ≤ 10) (y x k : Int32) : Rn 100 220 (0, [.ref 99, .int y, .int x, .int k, un, un, un], [], (F, J, σ)) = Rn 100 220 (39, [.ref 99, .int y, .int x, .int k, un, un, un], [.int (b2i (laK n x k))], (F, J, σ)) := by
  have t9 : True ∧ 99 < 999999 := ⟨trivial, by decide⟩
  have f1 : ∀ {c : Prop} [Decidable c], c → b2i c = 1 := fun hc => if_pos hc
  have f0 : ∀ {c : Prop} [Decidable c], ¬ c → b2i c = 0 := fun hc => if_neg hc
  rw [q_220_0 99]
  by_cases x0 : x = 0
  · rw [if_pos x0, q_220_34 99, f1 (Or.inl x0)]
  · rw [if_neg x0]
    by_cases x3 : x = 3
    · rw [if_pos x3, q_220_34 99, f1 (Or.inr (Or.inl x3))]
    · rw [if_neg x3]
      by_cases x1 : x = 1
      · simp only [mS, Y_99 h]
        have x2 : ¬ x = 2 := fun e => by rw [e] at x1; exact absurd x1 (by decide)
        rw [if_pos x1, if_pos t9, m_isPart (d := 98) h hn n10]
        simp only [Option.bind_some, b2i_0]
        by_cases k1 : 0 ≤ k ∧ k < nI n
        · rw [if_neg (not_not_intro k1), q_220_34 99, f1 (Or.inr (Or.inr (Or.inl ⟨x1, k1⟩)))]
        · rw [if_pos k1, q_220_22 99, if_neg x2, q_220_38 99, f0 (fun c => by
            rcases c with c | c | c | c
            · exact x0 c
            · exact x3 c
            · exact k1 c.2
            · exact x2 c.1)]
      · rw [if_neg x1, q_220_22 99]
        by_cases x2 : x = 2
        · rw [if_pos x2, m_isSheet (d := 98)]
          simp only [Option.bind_some, b2i_0]
          by_cases k1 : 0 ≤ k ∧ k ≤ 3
          · rw [if_neg (not_not_intro k1), q_220_34 99, f1 (Or.inr (Or.inr (Or.inr ⟨x2, k1⟩)))]
          · rw [if_pos k1, q_220_38 99, f0 (fun c => by
              rcases c with c | c | c | c
              · exact x0 c
              · exact x3 c
              · exact x1 c.1
              · exact k1 c.2)]
        · rw [if_neg x2, q_220_38 99, f0 (fun c => by
            rcases c with c | c | c | c
            · exact x0 c
            · exact x3 c
            · exact x1 c.1
            · exact x2 c.1)]
theorem m_layNo (h : Lay L σ) {n : Nat} (hn : F 100 0 = nI n) (n10 : n ≤ 10) {y x k : Int32} (hno : ¬ ((0 ≤ y ∧ y ≤ 4) ∧ laK n x k)) : cI 100 220 [.ref 99, .int y, .int x, .int k] (F, J, σ) = some (-1000000001, (F, J, σ)) := by
  refine i_220 (d := 99) ?_
  rw [m_lay0 h hn n10, q_220_39 99, m_isSlot (d := 98)]
  simp only [Option.bind_some, b2i_0]
  by_cases h1 : 0 ≤ y ∧ y ≤ 4
  · rw [if_neg (not_not_intro h1), if_pos (fun c => hno ⟨h1, c⟩), q_220_53 99]
  · rw [if_pos h1, q_220_53 99]
theorem m_layYes (h : Lay L σ) {n i : Nat} (hn : F 100 0 = nI n) (n10 : n ≤ 10) (hi : i < 5) {x k : Int32} (hk : laK n x k) (hx : ¬ x = 2) {r : Option Value × aMem} (hr : Rn 100 220 (74, [.ref 99, .int (nI i), .int x, .int k, .int 1, un, un], [], (F, J, σ)) = some r) : Rn 100 220 (0, [.ref 99, .int (nI i), .int x, .int k, un, un, un], [], (F, J, σ)) = some r := by
  have hs : 0 ≤ nI i ∧ nI i ≤ 4 := ⟨yle (a := 0) (by omega) (by omega), yle (b := 4) (by omega) (by decide)⟩
  rw [m_lay0 h hn n10, q_220_39 99, m_isSlot (d := 98)]
  simp only [Option.bind_some, b2i_0]
  rw [if_neg (not_not_intro hs), if_neg (not_not_intro hk), if_neg hx, show b2i (laK n x k) = 1 from if_pos hk]
  exact hr
theorem m_lay74 (h : Lay L σ) {n i : Nat} (hi : i < 5) {x k : Int32} (hx : ¬ x = 1) (hx2 : ¬ x = 2) : Rn 100 220 (74, [.ref 99, .int (nI i), .int x, .int k, .int 1, un, un], [], (F, J, σ)) = some (some (.int (F 106 i)), (up1 (up1 (up1 F 106 (up1 (F 106) i x)) 107 (up1 (F 107) i k)) 108 (up1 (F 108) i 0), J, σ)) := by
  have ib : inb (nI i) 5 := inb_nI hi (by decide)
  rw [q_220_74 99]
  simp only [mS, mR, Y_99 h, Z_99_7 h, Y_106 h, rd_106 h hi, Option.bind_some, if_true, setF_up, Z_99_8 h, ix_nI (show i < 2 ^ 31 by omega)]
  rw [if_pos ⟨trivial, ib⟩, if_neg hx, q_220_109 99]
  simp only [mS, mR, Y_99 h, Z_99_9 h, Y_107 h, Option.bind_some, if_true, setF_up, ix_nI (show i < 2 ^ 31 by omega), up1_n _ _ (show 107 ≠ 106 by decide)]
  rw [if_pos ⟨trivial, ib⟩, if_neg hx, q_220_129 99]
  simp only [mS, Y_108 h, setF_up, ix_nI (show i < 2 ^ 31 by omega), up1_n _ _ (show 108 ≠ 106 by decide), up1_n _ _ (show 108 ≠ 107 by decide)]
  rw [if_pos ⟨trivial, ib⟩, if_neg hx2, q_220_187 99]
theorem m_lay74p (h : Lay L σ) {i k : Nat} (hi : i < 5) (hk : k < 10) : Rn 100 220 (74, [.ref 99, .int (nI i), .int 1, .int (nI k), .int 1, un, un], [], (F, J, σ)) = some (some (.int (F 106 i)), (up1 (up1 (up1 F 106 (up1 (F 106) i 1)) 107 (up1 (F 107) i (F 100 (4 + 5 * k)))) 108 (up1 (F 108) i (woI (F 100 (4 + 5 * k)) (F 100 (4 + 5 * k + 1)) (F 100 (4 + 5 * k + 2)) (F 100 (4 + 5 * k + 3)))), J, σ)) := by
  have ib : inb (nI i) 5 := inb_nI hi (by decide)
  have t9 : True ∧ 99 < 999999 := ⟨trivial, by decide⟩
  have e0 : ∀ G : Nat → Nat → Int32, cI 99 139 [.ref 99, .int (nI k), .int 0] (G, J, σ) = some (G 100 (4 + 5 * k), (G, J, σ)) := fun G => m_of (w := 0) h hk (by decide)
  rw [q_220_74 99]
  simp only [mS, mR, Y_99 h, Z_99_7 h, Y_106 h, rd_106 h hi, Option.bind_some, if_true, setF_up, Z_99_8 h, ix_nI (show i < 2 ^ 31 by omega), e0, if_pos t9]
  rw [if_pos ⟨trivial, ib⟩, q_220_109 99]
  simp only [mS, mR, Y_99 h, Z_99_9 h, Y_107 h, Option.bind_some, if_true, setF_up, ix_nI (show i < 2 ^ 31 by omega), up1_n _ _ (show 107 ≠ 106 by decide), m_worth (d := 98) h hk, if_pos t9]
  rw [if_pos ⟨trivial, ib⟩, q_220_129 99]
  simp only [mS, Y_108 h, setF_up, ix_nI (show i < 2 ^ 31 by omega), up1_n _ _ (show 108 ≠ 106 by decide), up1_n _ _ (show 108 ≠ 107 by decide), up1_n _ _ (show 100 ≠ 106 by decide), up1_n _ _ (show 100 ≠ 107 by decide)]
  rw [if_pos ⟨trivial, ib⟩, if_neg (by decide), q_220_187 99]
theorem m_layL (h : Lay L σ) {i k : Nat} (hi : i < 5) (hk : k < 4) (r : Int32) : ∀ (n j : Nat) (F : Nat → Nat → Int32), j + n = 24 → ∃ F', Rn 100 220 (150, [.ref 99, .int (nI i), .int 2, .int (nI k), .int 1, .int r, .int (nI j)], [], (F, J, σ)) = some (some (.int r), (F', J, σ)) ∧ (∀ x, x ≠ 110 → F' x = F x) ∧ (∀ l, l < 24 * i + j ∨ 24 * i + 24 ≤ l → F' 110 l = F 110 l) ∧ ∀ l, j ≤ l → l < 24 → F' 110 (24 * i + l) = F 105 (24 * k + l)
  | 0, j, F, e => by
    refine ⟨F, ?_, fun x _ => rfl, fun j _ => rfl, fun j h1 h2 => absurd h2 (by omega)⟩
    rw [q_220_150 99, if_pos (show (24 : Int32) ≤ nI j from yle (a := 24) (by omega) (by omega)), q_220_187 99]
  | n + 1, j, F, e => by
    obtain ⟨F', g1, g2, g3, g4⟩ := m_layL h hi hk r n (j + 1) (up1 F 110 (up1 (F 110) (24 * i + j) (F 105 (24 * k + j)))) (by omega)
    refine ⟨F', ?_, fun x hx => by rw [g2 x hx, up1_ne _ _ hx], fun l hl => by rw [g3 l (by omega), up1_s, up1_n _ _ (by omega)], fun l h1 h2 => ?_⟩
    · rw [q_220_150 99, if_neg (show ¬ (24 : Int32) ≤ nI j from nle (a := 24) (by omega) (by decide))]
      simp only [mS, mR, Y_99 h, Z_99_6 h, Z_99_11 h, Y_110 h, i24, setF_up, ix_nI (show 24 * i + j < 2 ^ 31 by omega), if_true]
      rw [rd_105 h (by omega), Option.bind_some, if_pos ⟨trivial, inb_nI (by omega) (by decide)⟩, nI_s]
      exact g1
    · by_cases ej : l = j
      · rw [ej, g3 (24 * i + j) (by omega), up1_s, up1_s]
      · rw [g4 l (by omega) h2, up1_ne _ _ (by decide)]
theorem m_layS (h : Lay L σ) {n i k z : Nat} (hn : F 100 0 = nI n) (n10 : n ≤ 10) (hi : i < 5) (hk : k < 4) (hz : F 104 k = nI z) (h0 : 0 ≤ F 103 k) : ∃ F', cI 100 220 [.ref 99, .int (nI i), .int 2, .int (nI k)] (F, J, σ) = some (F 106 i, (F', J, σ)) ∧ (∀ x, x < 106 ∨ 110 < x → F' x = F x) ∧ (∀ l, l ≠ i → F' 106 l = F 106 l ∧ F' 107 l = F 107 l ∧ F' 108 l = F 108 l ∧ F' 109 l = F 109 l) ∧ (∀ l, l < 24 * i ∨ 24 * i + 24 ≤ l → F' 110 l = F 110 l) ∧ F' 106 i = 2 ∧ F' 109 i = nI z ∧ ∀ l, l < 24 → F' 110 (24 * i + l) = F 105 (24 * k + l) := by
  have ib : inb (nI i) 5 := inb_nI hi (by decide)
  have hs : 0 ≤ nI i ∧ nI i ≤ 4 := ⟨yle (a := 0) (by omega) (by omega), yle (b := 4) (by omega) (by decide)⟩
  have hk' : laK n 2 (nI k) := Or.inr (Or.inr (Or.inr ⟨rfl, yle (a := 0) (by omega) (by omega), yle (b := 3) (by omega) (by decide)⟩))
  obtain ⟨G, eG⟩ : ∃ G, G = up1 (up1 (up1 (up1 F 106 (up1 (F 106) i 2)) 107 (up1 (F 107) i (nI k))) 108 (up1 (F 108) i 0)) 109 (up1 (F 109) i (nI z)) := ⟨_, rfl⟩
  obtain ⟨F', g1, g2, g3, g4⟩ := m_layL (J := J) h hi hk (F 106 i) 24 0 G rfl
  have o : ∀ x, x ≠ 106 → x ≠ 107 → x ≠ 108 → x ≠ 109 → G x = F x := fun x h1 h2 h3 h4 => by rw [eG, up1_ne _ _ h4, up1_ne _ _ h3, up1_ne _ _ h2, up1_ne _ _ h1]
  have o6 : G 106 = up1 (F 106) i 2 := by rw [eG]; rfl
  have o7 : G 107 = up1 (F 107) i (nI k) := by rw [eG]; rfl
  have o8 : G 108 = up1 (F 108) i 0 := by rw [eG]; rfl
  have o9 : G 109 = up1 (F 109) i (nI z) := by rw [eG]; rfl
  refine ⟨F', ?_, fun x hx => by rw [g2 x (by omega), o x (by omega) (by omega) (by omega) (by omega)], fun l hl => ?_, fun l hl => by rw [g3 l (by omega), o 110 (by decide) (by decide) (by decide) (by decide)], ?_, ?_, fun l hl => by rw [g4 l (by omega) hl, o 105 (by decide) (by decide) (by decide) (by decide)]⟩
  · refine i_220 (d := 99) ?_
    rw [m_lay0 h hn n10, q_220_39 99, m_isSlot (d := 98)]
    simp only [Option.bind_some, b2i_0, mS, mR, Y_99 h, Z_99_4 h, rd_103 h hk, if_true]
    rw [if_neg (not_not_intro hs), if_neg (not_not_intro hk'), if_pos h0, show b2i (laK n 2 (nI k)) = 1 from if_pos hk', q_220_74 99]
    simp only [mS, mR, Y_99 h, Z_99_7 h, Y_106 h, rd_106 h hi, Option.bind_some, if_true, setF_up, Z_99_8 h, ix_nI (show i < 2 ^ 31 by omega)]
    rw [if_pos ⟨trivial, ib⟩, if_neg (by decide), q_220_109 99]
    simp only [mS, mR, Y_99 h, Z_99_9 h, Y_107 h, Option.bind_some, if_true, setF_up, ix_nI (show i < 2 ^ 31 by omega), up1_n _ _ (show 107 ≠ 106 by decide)]
    rw [if_pos ⟨trivial, ib⟩, if_neg (by decide), q_220_129 99]
    simp only [mS, mR, Y_99 h, Y_108 h, Y_109 h, Z_99_5 h, Z_99_10 h, setF_up, ix_nI (show i < 2 ^ 31 by omega), up1_n _ _ (show 108 ≠ 106 by decide), up1_n _ _ (show 108 ≠ 107 by decide), rd_104 h hk, Option.bind_some, if_true, up1_n _ _ (show 104 ≠ 108 by decide), up1_n _ _ (show 104 ≠ 107 by decide), up1_n _ _ (show 104 ≠ 106 by decide), up1_n _ _ (show 109 ≠ 108 by decide), up1_n _ _ (show 109 ≠ 107 by decide), up1_n _ _ (show 109 ≠ 106 by decide), hz]
    rw [if_pos ⟨trivial, ib⟩, if_pos ⟨trivial, ib⟩, ← eG]
    exact g1
  · rw [g2 106 (by decide), g2 107 (by decide), g2 108 (by decide), g2 109 (by decide), o6, o7, o8, o9]
    exact ⟨up1_n _ _ hl, up1_n _ _ hl, up1_n _ _ hl, up1_n _ _ hl⟩
  · rw [g2 106 (by decide), o6, up1_s]
  · rw [g2 109 (by decide), o9, up1_s]
theorem c_partTake {a b : Nat} (ha : σ.2.1 a = (1, 5)) (hb : σ.2.1 b = (1, 5)) (hab : b ≠ a) : cV d 6 [.ref a, .ref b] (F, J, σ) = some (up1 F a (up1 (up1 (up1 (up1 (up1 (F a) 0 (F b 0)) 1 (F b 1)) 2 (F b 2)) 3 (F b 3)) 4 (F b 4)), J, σ) := by
  refine i_6 (v := none) ?_
  rw [q_6_0]
  simp only [mS, mF, ha, hb, setF_up, up1_s, up1_up1, if_true, up1_n _ _ hab]
theorem c_sheetTake {a b ea eb : Nat} (ha : σ.2.1 a = (5, 3)) (hb : σ.2.1 b = (5, 3)) (za : σ.1 a 0 = ea) (zb : σ.1 b 0 = eb) (ya : σ.2.1 ea = (10, 24)) (yb : σ.2.1 eb = (10, 24)) (hab : b ≠ a) (h1 : ea ≠ a) (h2 : eb ≠ a) (h3 : eb ≠ ea) : cV d 68 [.ref a, .ref b] (F, J, σ) = some (up1 (up1 F a (up1 (up1 (F a) 1 (F b 1)) 2 (F b 2))) ea (va_cpy (F eb) (F ea) 0 0 24), J, σ) := by
  refine i_68 (v := none) ?_
  rw [q_68_0]
  simp only [mS, mR, mF, ha, hb, za, zb, ya, yb, setF_up, cpyF_mk, up1_s, up1_up1, if_true, up1_n _ _ hab, up1_n _ _ h1, up1_n _ _ h2]
  rw [if_pos ⟨trivial, trivial, by decide⟩]
  rfl
end OPJ
