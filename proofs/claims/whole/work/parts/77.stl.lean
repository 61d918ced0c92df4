/-! STAFFED: the model; the calls. -/
section STL
variable {L d : Nat} {F F' : Nat → Nat → Int32} {J J' : Nat → Nat → Int64} {σ : aSg} {μ : aMem} {s xs : Nat → Int32} {A ln ov : Nat → Nat} {b D : Nat → Bool}
/-- the two ways in which the weeks of the model are told -/
abbrev zT (x2 x3 : Int32) (p p2 cl : Nat) : Prop := (∃ mo, x2 = nI mo ∧ x3 = nI cl ∧ p2 = p + mo ∧ mo ≤ 9 ∧ cl ≤ 999) ∨ (x2 = -1 ∧ x3 = 0 ∧ cl = 1000000)
theorem m_end (h : Lay L σ) {n m t wk : Nat} (R : RK s n m t) (hF : F 100 = s) (hln : ∀ q, q < n → F 111 q = nI (ln q) ∧ ln q ≤ 999) (hov : ∀ q, q < n → b q = true → F 115 q = nI (ov q) ∧ ov q < 2 ^ 30) (hwk : wk < 2 ^ 29) (hb : ∀ q, q < n → b q = true → 0 < ln q) (x1 x2 x3 : Int32) (w8 w9 w10 w11 : Value) (ha : wAl n (wDn (aN s) ln n wk (b, ov, D))) : Rn (d + 2) 175 (25, [.ref 99, .int x1, .int x2, .int x3, .int (MK (fun k => decide (k < n))), .int (MK b), .int (MK D), .int (nI wk), w8, w9, w10, w11], [], (F, J, σ)) = some (some (.int (nI wk)), (F, J, σ)) := by
  have t9 : True ∧ 99 < 999999 := ⟨trivial, by decide⟩
  have dn := m_doneBy (d := d) (F := F) (J := J) (D := D) (wk := wk) h (by rw [hF]; exact R) hln hov (by omega) hb
  rw [hF] at dn
  rw [q_175_25]
  simp only [mS, Y_99 h, if_pos t9, dn, Option.bind_some]
  have ha' : wAl n (dnK (aN s) ln ov wk b D n) := ha
  rw [if_pos ((MK_eq _ _).mpr ha')]
theorem m_step (h : Lay L σ) {n m t wk p p2 cl : Nat} (R : RK s n m t) (hF : F 100 = s) (hln : ∀ q, q < n → F 111 q = nI (ln q) ∧ ln q ≤ 999) (hov : ∀ q, q < n → b q = true → F 115 q = nI (ov q) ∧ ov q < 2 ^ 30) (hwk : wk < 100000) (hb : ∀ q, q < n → b q = true → 0 < ln q) {x2 x3 : Int32} (z : zT x2 x3 p p2 cl) (w8 w9 w10 w11 : Value) (ha : ¬ wAl n (wDn (aN s) ln n wk (b, ov, D))) : ∃ F' w8' w9' w10' w11', Rn (d + 2) 175 (25, [.ref 99, .int (nI p), .int x2, .int x3, .int (MK (fun k => decide (k < n))), .int (MK b), .int (MK D), .int (nI wk), w8, w9, w10, w11], [], (F, J, σ)) = Rn (d + 2) 175 (25, [.ref 99, .int (nI p), .int x2, .int x3, .int (MK (fun k => decide (k < n))), .int (MK (wSp (aN s) ln n p p2 cl wk (b, ov, D)).1), .int (MK (wSp (aN s) ln n p p2 cl wk (b, ov, D)).2.2), .int (nI (wk + 1)), w8', w9', w10', w11'], [], (F', J, σ)) ∧ (∀ c, c ≠ 115 → F' c = F c) ∧ ∀ q, q < n → (wSp (aN s) ln n p p2 cl wk (b, ov, D)).1 q = true → F' 115 q = nI ((wSp (aN s) ln n p p2 cl wk (b, ov, D)).2.1 q) := by
  have n10 := R.1.1
  have t9 : True ∧ 99 < 999999 := ⟨trivial, by decide⟩
  have dn := m_doneBy (d := d) (F := F) (J := J) (D := D) (wk := wk) h (by rw [hF]; exact R) hln hov (by omega) hb
  rw [hF] at dn
  obtain ⟨D', eD⟩ : ∃ D', D' = dnK (aN s) ln ov wk b D n := ⟨_, rfl⟩
  rw [← eD] at dn
  have eW : wDn (aN s) ln n wk (b, ov, D) = D' := eD.symm
  rw [eW] at ha
  have go : ∀ pp, (wSp (aN s) ln n p p2 cl wk (b, ov, D) = ((bgK (aN s) ln wk D' (b, ov, nI pp - nI (cntB (sbt b D'))) n).1, (bgK (aN s) ln wk D' (b, ov, nI pp - nI (cntB (sbt b D'))) n).2.1, D')) → ∃ F' w8' w9' w10' w11', Rn (d + 2) 175 (107, [.ref 99, .int (nI p), .int x2, .int x3, .int (MK (fun k => decide (k < n))), .int (MK b), .int (MK D'), .int (nI wk), .int 0, .int (nI pp - nI (cntB (sbt b D'))), .int 0, w11], [], (F, J, σ)) = Rn (d + 2) 175 (25, [.ref 99, .int (nI p), .int x2, .int x3, .int (MK (fun k => decide (k < n))), .int (MK (wSp (aN s) ln n p p2 cl wk (b, ov, D)).1), .int (MK (wSp (aN s) ln n p p2 cl wk (b, ov, D)).2.2), .int (nI (wk + 1)), w8', w9', w10', w11'], [], (F', J, σ)) ∧ (∀ c, c ≠ 115 → F' c = F c) ∧ ∀ q, q < n → (wSp (aN s) ln n p p2 cl wk (b, ov, D)).1 q = true → F' 115 q = nI ((wSp (aN s) ln n p p2 cl wk (b, ov, D)).2.1 q) := by
    intro pp es
    rw [es]
    obtain ⟨F', w', g1, g2, g3⟩ := m_begin (d := d + 1) (J := J) (D := D') (wk := wk) h R (by omega) (fun q hq => (hln q hq).2) (nI p) x2 x3 (MK (fun k => decide (k < n))) (b, ov, nI pp - nI (cntB (sbt b D'))) n 0 F w11 hF (fun q hq => (hln q hq).1) (fun q hq hb => (hov q hq hb).1) (by omega)
    exact ⟨F', .int 0, .int (bgK (aN s) ln wk D' (b, ov, nI pp - nI (cntB (sbt b D'))) n).2.2, .int (nI n), w', g1, g2, g3⟩
  have gp : wk < cl → wSp (aN s) ln n p p2 cl wk (b, ov, D) = ((bgK (aN s) ln wk D' (b, ov, nI p - nI (cntB (sbt b D'))) n).1, (bgK (aN s) ln wk D' (b, ov, nI p - nI (cntB (sbt b D'))) n).2.1, D') := fun c1 => by
    unfold wSp wBg; rw [if_pos c1, eW]
  have gp2 : ¬ wk < cl → cl + 3 ≤ wk → wSp (aN s) ln n p p2 cl wk (b, ov, D) = ((bgK (aN s) ln wk D' (b, ov, nI p2 - nI (cntB (sbt b D'))) n).1, (bgK (aN s) ln wk D' (b, ov, nI p2 - nI (cntB (sbt b D'))) n).2.1, D') := fun c1 c2 => by
    unfold wSp wBg; rw [if_neg c1, if_pos c2, eW]
  have gr : ¬ wk < cl → ¬ cl + 3 ≤ wk → wSp (aN s) ln n p p2 cl wk (b, ov, D) = (b, ov, D') := fun c1 c2 => by
    unfold wSp; rw [if_neg c1, if_neg c2, eW]
  rw [q_175_25]
  simp only [mS, Y_99 h, if_pos t9, dn, Option.bind_some, MK_sbt, m_onesM]
  rw [if_neg (fun q => ha ((MK_eq _ _).mp q))]
  rcases z with ⟨mo, e2, e3, ep, hmo, hcl⟩ | ⟨e2, e3, ec⟩
  · subst e2 e3 ep
    have e4 : nI cl + 3 = nI (cl + 3) := nI_add cl 3
    rw [if_neg (show ¬ nI mo < 0 from nlt (b := 0) (by omega) (by omega))]
    simp only [e4, nI_add]
    by_cases c1 : wk < cl
    · rw [if_pos (ylt c1 (by omega)), if_pos (ylt (show wk < cl + 3 by omega) (by omega))]
      exact go p (gp c1)
    · rw [if_neg (nlt (by omega) (by omega))]
      by_cases c2 : cl + 3 ≤ wk
      · rw [if_pos (yle c2 (by omega)), if_neg (nlt c2 (by omega))]
        exact go (p + mo) (gp2 c1 c2)
      · rw [if_neg (nle (by omega) (by omega)), if_pos (ylt (by omega) (by omega)), gr c1 c2]
        obtain ⟨w', g⟩ := m_rest (d := d + 1) (F := F) (J := J) h n10 (by rw [hF]; exact R.1.2.1) (nI p) (nI mo) (nI cl) (MK (fun k => decide (k < n))) (MK b) (MK D') (nI wk) (nI p - nI (cntB (sbt b D'))) n 0 w11 (by omega)
        rw [nI_s] at g
        exact ⟨F, .int 1, .int (nI p - nI (cntB (sbt b D'))), .int (nI n), w', g, fun _ _ => rfl, fun q hq hb => (hov q hq hb).1⟩
  · subst e2 e3 ec
    rw [if_pos (by decide)]
    exact go p (gp (by omega))
theorem m_weekL (h : Lay L σ) {n m t p p2 cl : Nat} (R : RK s n m t) (hl : ∀ q, q < n → ln q ≤ 999) {x2 x3 : Int32} (z : zT x2 x3 p p2 cl) (hp : 1 ≤ p ∧ p ≤ 100) (hp2 : 1 ≤ p2 ∧ p2 ≤ 100) (g : Nat) : ∀ (f : Nat) (F : Nat → Nat → Int32) (S : wSt) (wk : Nat) (w8 w9 w10 w11 : Value), F 100 = s → (∀ q, q < n → F 111 q = nI (ln q)) → (∀ q, q < n → S.1 q = true → F 115 q = nI (S.2.1 q)) → wIv ln n wk S → wMe (aN s) ln n cl wk S ≤ f → wk + 999 * f ≤ 20000 → ∃ F', Rn (d + 2) 175 (25, [.ref 99, .int (nI p), .int x2, .int x3, .int (MK (fun k => decide (k < n))), .int (MK S.1), .int (MK S.2.2), .int (nI wk), w8, w9, w10, w11], [], (F, J, σ)) = some (some (.int (nI (evT (aN s) ln n p p2 cl (f + g + 1) S wk))), (F', J, σ)) ∧ ∀ c, c ≠ 115 → F' c = F c := by
  intro f
  induction f with
  | zero =>
    intro F S wk w8 w9 w10 w11 hF h1 h5 I hm hw
    obtain ⟨b, ov, D⟩ := S
    refine ⟨F, ?_, fun _ _ => rfl⟩
    by_cases ha : wAl n (wDn (aN s) ln n wk (b, ov, D))
    · rw [evT_s, if_pos ha]
      exact m_end h R hF (fun q hq => ⟨h1 q hq, hl q hq⟩) (fun q hq hb => ⟨h5 q hq hb, Nat.lt_of_le_of_lt (I.2.2 q hq hb) (by omega)⟩) (by omega) I.1 _ _ _ _ _ _ _ ha
    · have := (event (cl := cl) (fun k hk => (aN_eq R hk).2.1) hl R.1.1 hp hp2 (by omega) I ha).2.2.2.1
      omega
  | succ f ih =>
    intro F S wk w8 w9 w10 w11 hF h1 h5 I hm hw
    obtain ⟨b, ov, D⟩ := S
    by_cases ha : wAl n (wDn (aN s) ln n wk (b, ov, D))
    · refine ⟨F, ?_, fun _ _ => rfl⟩
      rw [show f + 1 + g + 1 = f + g + 1 + 1 by omega, evT_s, if_pos ha]
      exact m_end h R hF (fun q hq => ⟨h1 q hq, hl q hq⟩) (fun q hq hb => ⟨h5 q hq hb, Nat.lt_of_le_of_lt (I.2.2 q hq hb) (by omega)⟩) (by omega) I.1 _ _ _ _ _ _ _ ha
    · obtain ⟨v1, v2, v3, v4, v5⟩ := event (p := p) (p2 := p2) (cl := cl) (fun k hk => (aN_eq R hk).2.1) hl R.1.1 hp hp2 (by omega) I ha
      obtain ⟨F1, y8, y9, y10, y11, k1, k2, k3⟩ := m_step (d := d) (J := J) (F := F) (D := D) (b := b) (ov := ov) (wk := wk) h R hF (fun q hq => ⟨h1 q hq, hl q hq⟩) (fun q hq hb => ⟨h5 q hq hb, Nat.lt_of_le_of_lt (I.2.2 q hq hb) (by omega)⟩) (by omega) I.1 z w8 w9 w10 w11 ha
      rw [show f + 1 + g + 1 = f + g + 1 + 1 by omega, evT_s, if_neg ha]
      obtain ⟨nx, enx⟩ : ∃ nx, nx = wNx (aN s) ln n p p2 cl wk (b, ov, D) := ⟨_, rfl⟩
      obtain ⟨S', eS⟩ : ∃ S', S' = wSp (aN s) ln n p p2 cl wk (b, ov, D) := ⟨_, rfl⟩
      rw [← enx, ← eS] at v3 v4 v5
      rw [← enx] at v1 v2
      rw [← eS] at k1 k3
      rw [k1, ← enx, ← eS]
      have walk : ∀ r v (F1 : Nat → Nat → Int32) (y8 y9 y10 y11 : Value), F1 100 = s → (∀ q, q < n → F1 111 q = nI (ln q)) → (∀ q, q < n → S'.1 q = true → F1 115 q = nI (S'.2.1 q)) → wk < v → v + r = nx → ∃ F', Rn (d + 2) 175 (25, [.ref 99, .int (nI p), .int x2, .int x3, .int (MK (fun k => decide (k < n))), .int (MK S'.1), .int (MK S'.2.2), .int (nI v), y8, y9, y10, y11], [], (F1, J, σ)) = some (some (.int (nI (evT (aN s) ln n p p2 cl (f + g + 1) S' nx))), (F', J, σ)) ∧ ∀ c, c ≠ 115 → F' c = F1 c := by
        intro r
        induction r with
        | zero =>
          intro v F1 y8 y9 y10 y11 q1 q2 q3 hv e
          rw [show v = nx by omega]
          exact ih F1 S' nx y8 y9 y10 y11 q1 q2 q3 v3 (by omega) (by omega)
        | succ r ihr =>
          intro v F1 y8 y9 y10 y11 q1 q2 q3 hv e
          obtain ⟨s1, s2⟩ := v5 v hv (by omega)
          obtain ⟨b', ov', D'⟩ := S'
          obtain ⟨F2, u8, u9, u10, u11, j1, j2, j3⟩ := m_step (d := d) (J := J) (F := F1) (D := D') (b := b') (ov := ov') (wk := v) h R q1 (fun q hq => ⟨q2 q hq, hl q hq⟩) (fun q hq hb => ⟨q3 q hq hb, Nat.lt_of_le_of_lt (v3.2.2 q hq hb) (by omega)⟩) (by omega) v3.1 z y8 y9 y10 y11 (by rw [s1]; exact ha)
          rw [s2] at j1 j3
          rw [j1]
          obtain ⟨F', l1, l2⟩ := ihr (v + 1) F2 u8 u9 u10 u11 (by rw [j2 100 (by decide)]; exact q1) (fun q hq => by rw [j2 111 (by decide)]; exact q2 q hq) j3 (by omega) (by omega)
          exact ⟨F', l1, fun c hc => by rw [l2 c hc, j2 c hc]⟩
      obtain ⟨F', l1, l2⟩ := walk (nx - (wk + 1)) (wk + 1) F1 y8 y9 y10 y11 (by rw [k2 100 (by decide)]; exact hF) (fun q hq => by rw [k2 111 (by decide)]; exact h1 q hq) k3 (by omega) (by omega)
      exact ⟨F', l1, fun c hc => by rw [l2 c hc, k2 c hc]⟩
theorem m_weeks (h : Lay L σ) {n m t p p2 cl : Nat} (R : RK (F 100) n m t) {x2 x3 : Int32} (z : zT x2 x3 p p2 cl) (hp : 1 ≤ p ∧ p ≤ 100) (hp2 : 1 ≤ p2 ∧ p2 ≤ 100) : ∃ F', cI (d + 6) 175 [.ref 99, .int (nI p), .int x2, .int x3] (F, J, σ) = some (nI (evT (aN (F 100)) (sN (F 100) m t) n p p2 cl 40 (fun _ => false, fun _ => 0, fun _ => false) 0), (F', J, σ)) ∧ ∀ b, b < 111 ∨ 119 < b ∨ b = 117 → F' b = F b := by
  have n10 := R.1.1
  have t9 : True ∧ 99 < 999999 := ⟨trivial, by decide⟩
  obtain ⟨F1, a1, a2, a3⟩ := m_laySaid0 (d := d + 1) (J := J) h R
  have o100 : F1 100 = F 100 := a2 100 (by omega)
  have me : wMe (aN (F 100)) (sN (F 100) m t) n cl 0 (fun _ => false, fun _ => 0, fun _ => false) ≤ 11 := by
    unfold wMe
    have := pcF_n (fun k => !wDn (aN (F 100)) (sN (F 100) m t) n 0 (fun _ => false, fun _ => 0, fun _ => false) k) n
    split <;> omega
  obtain ⟨F2, b1, b2⟩ := m_weekL (d := d + 4) (J := J) (ln := sN (F 100) m t) h R (fun q hq => (sN_eq R hq).2) z hp hp2 28 11 F1 (fun _ => false, fun _ => 0, fun _ => false) 0 un un un un o100 (fun q hq => (a3 q hq).1) (fun q _ z => Bool.noConfusion z) ⟨fun k _ z => Bool.noConfusion z, fun k _ => ⟨rfl, rfl⟩, fun k _ z => Bool.noConfusion z⟩ me (by omega)
  refine ⟨F2, i_175 (d := d + 5) ?_, fun b hb => by rw [b2 b (by omega), a2 b (by omega)]⟩
  have b1' := b1
  rw [MK_0] at b1'
  rw [q_175_0 (d + 5)]
  simp only [mS, mR, Y_99 h, Z_99_0 h, if_true, if_pos t9, a1, Option.bind_some, show rdI (F1, J, σ) 100 0 = some (F1 100 0) from rd_100 (i := 0) h (by decide), o100, R.1.2.1, MK_all n (by omega)]
  exact b1'
theorem op_staffed : OpI (Inv L xs) 96 176 1 := op1 fun q F J σ x hq I => by
  have h := I.lay
  have hp := PL_1 h
  obtain ⟨n, m, t, P, B, T, z⟩ := I.rw
  have R := RK_of P B T
  have t5 : True ∧ 55 < 999999 := ⟨trivial, by decide⟩
  have t9 : True ∧ 99 < 999999 := ⟨trivial, by decide⟩
  by_cases h1 : 1 ≤ x ∧ x ≤ 9
  · obtain ⟨p, hp1, hp2, rfl⟩ := in_n (lo := 1) (hi := 9) (by decide) h1
    obtain ⟨F1, a1, a2⟩ := c_weeks (d := 95) (J := J) (p := p) (mo := 0) (cl := 1000000) h I.ta.1 P B T (by omega)
    have o100 := a2 100 (by omega)
    obtain ⟨F2, b1, b2⟩ := m_weeks (d := 93) (F := F1) (J := J) (p := p) (p2 := p + 0) (cl := 1000000) h (by rw [o100]; exact R) (Or.inr ⟨rfl, rfl, rfl⟩) (by omega) (by omega)
    rw [o100] at b1
    refine ⟨nI (evT (aN (F 100)) (sN (F 100) m t) n p (p + 0) 1000000 40 (fun _ => false, fun _ => 0, fun _ => false) 0), F1, J, σ, F2, J, σ, i_96 (d := 99) ?_, h, a2 _ (by omega), i_176 (d := 99) ?_, IV_scr I (fun b hb => by rw [b2 b (by omega), a2 b (by omega)])⟩
    · have a1' : cI 99 55 [.ref 55, .ref 1, .int (nI p), .int 0, .int 1000000] (F, J, σ) = _ := a1
      rw [q_96_0 99, c_within]
      simp only [Option.bind_some, b2i_0, mS, mR, Y_0 h, Z_0_0 h, Z_0_4 h, Y_55 h, if_true, if_pos t5, a1']
      rw [if_neg (not_not_intro h1)]
    · rw [q_176_0 99, show cI 99 133 [.long (nI p).toInt64, .long 1, .long 9] (F1, J, σ) = _ from m_in (nI p) 1 9]
      simp only [Option.bind_some, b2i_0, mS, Y_99 h, if_pos t9, b1]
      rw [if_neg (not_not_intro h1)]
  · refine ⟨-1000000001, F, J, σ, F, J, σ, i_96 (d := 99) ?_, h, rfl, i_176 (d := 99) ?_, I.up⟩
    · rw [q_96_0 99, c_within]
      simp only [Option.bind_some, b2i_0]
      rw [if_pos h1]
    · rw [q_176_0 99, show cI 99 133 [.long x.toInt64, .long 1, .long 9] (F, J, σ) = _ from m_in x 1 9]
      simp only [Option.bind_some, b2i_0]
      rw [if_pos h1]
theorem op_more : OpI (Inv L xs) 97 177 3 := op3 fun q F J σ x y w hq I => by
  have h := I.lay
  have hp := PL_1 h
  obtain ⟨n, m, t, P, B, T, z⟩ := I.rw
  have R := RK_of P B T
  have t5 : True ∧ 55 < 999999 := ⟨trivial, by decide⟩
  have t9 : True ∧ 99 < 999999 := ⟨trivial, by decide⟩
  have c1 : ∀ (F : Nat → Nat → Int32) (J : Nat → Nat → Int64), cI 99 133 [.long x.toInt64, .long 1, .long 9] (F, J, σ) = _ := fun F J => m_in (d := 99) (μ := (F, J, σ)) x 1 9
  have c2 : ∀ (F : Nat → Nat → Int32) (J : Nat → Nat → Int64), cI 99 133 [.long y.toInt64, .long 0, .long 9] (F, J, σ) = _ := fun F J => m_in (d := 99) (μ := (F, J, σ)) y 0 9
  have c3 : ∀ (F : Nat → Nat → Int32) (J : Nat → Nat → Int64), cI 99 133 [.long w.toInt64, .long 0, .long 999] (F, J, σ) = _ := fun F J => m_in (d := 99) (μ := (F, J, σ)) w 0 999
  by_cases h1 : 1 ≤ x ∧ x ≤ 9
  · by_cases h2 : 0 ≤ y ∧ y ≤ 9
    · by_cases h3 : 0 ≤ w ∧ w ≤ 999
      · obtain ⟨p, hp1, hp2, ep⟩ := in_n (lo := 1) (hi := 9) (by decide) h1
        obtain ⟨mo, -, hm2, em⟩ := in_n (lo := 0) (hi := 9) (by decide) h2
        obtain ⟨cl, -, hc2, ec⟩ := in_n (lo := 0) (hi := 999) (by decide) h3
        obtain ⟨F1, a1, a2⟩ := c_weeks (d := 95) (J := J) (p := p) (mo := mo) (cl := cl) h I.ta.1 P B T (by omega)
        have o100 := a2 100 (by omega)
        obtain ⟨F2, b1, b2⟩ := m_weeks (d := 93) (F := F1) (J := J) (p := p) (p2 := p + mo) (cl := cl) h (by rw [o100]; exact R) (Or.inl ⟨mo, rfl, rfl, rfl, hm2, hc2⟩) (by omega) (by omega)
        rw [o100] at b1
        rw [← ep, ← em, ← ec] at a1 b1
        refine ⟨nI (evT (aN (F 100)) (sN (F 100) m t) n p (p + mo) cl 40 (fun _ => false, fun _ => 0, fun _ => false) 0), F1, J, σ, F2, J, σ, i_97 (d := 99) ?_, h, a2 _ (by omega), i_177 (d := 99) ?_, IV_scr I (fun b hb => by rw [b2 b (by omega), a2 b (by omega)])⟩
        · rw [q_97_0 99]
          simp only [c_within, Option.bind_some, b2i_0, mS, mR, Y_0 h, Z_0_0 h, Z_0_4 h, Y_55 h, if_true, if_pos t5, a1]
          rw [if_neg (not_not_intro h1), if_neg (not_not_intro h2), if_neg (not_not_intro h3)]
        · rw [q_177_0 99]
          simp only [c1, c2, c3, Option.bind_some, b2i_0, mS, Y_99 h, if_pos t9, b1]
          rw [if_neg (not_not_intro h1), if_neg (not_not_intro h2), if_neg (not_not_intro h3)]
      · refine ⟨-1000000001, F, J, σ, F, J, σ, i_97 (d := 99) ?_, h, rfl, i_177 (d := 99) ?_, I.up⟩
        · rw [q_97_0 99]
          simp only [c_within, Option.bind_some, b2i_0]
          rw [if_neg (not_not_intro h1), if_neg (not_not_intro h2), if_pos h3]
        · rw [q_177_0 99]
          simp only [c1, c2, c3, Option.bind_some, b2i_0]
          rw [if_neg (not_not_intro h1), if_neg (not_not_intro h2), if_pos h3]
    · refine ⟨-1000000001, F, J, σ, F, J, σ, i_97 (d := 99) ?_, h, rfl, i_177 (d := 99) ?_, I.up⟩
      · rw [q_97_0 99]
        simp only [c_within, Option.bind_some, b2i_0]
        rw [if_neg (not_not_intro h1), if_pos h2]
      · rw [q_177_0 99]
        simp only [c1, c2, c3, Option.bind_some, b2i_0]
        rw [if_neg (not_not_intro h1), if_pos h2]
  · refine ⟨-1000000001, F, J, σ, F, J, σ, i_97 (d := 99) ?_, h, rfl, i_177 (d := 99) ?_, I.up⟩
    · rw [q_97_0 99]
      simp only [c_within, Option.bind_some, b2i_0]
      rw [if_pos h1]
    · rw [q_177_0 99]
      simp only [c1, c2, c3, Option.bind_some, b2i_0]
      rw [if_pos h1]
end STL
