/-! STAFFED: the class. -/
section STK
variable {L d : Nat} {F F' : Nat → Nat → Int32} {J J' : Nat → Nat → Int64} {σ : aSg} {μ : aMem} {s xs : Nat → Int32} {A ln ov : Nat → Nat} {b D : Nat → Bool}
theorem c_bitsM (f : Nat → Bool) : cI d 230 [.int (MK f)] μ = some (nI (cntB f), μ) := by
  rw [c_bits]
  unfold MK
  rw [bc_pc _ (st10 f)]
  rfl
theorem m_onesM (f : Nat → Bool) : cI d 144 [.int (MK f)] μ = some (nI (cntB f), μ) := m_ones (by have := st10 f; omega)
theorem MK_sbt (f g : Nat → Bool) : MK f &&& (MK g ^^^ (-1)) = MK (sbt f g) := MK_sub f g
theorem c_begun (h : Lay L σ) {n m t wk pp : Nat} (R : RK s n m t) (hwk : wk < 2 ^ 29) (hln : ∀ q, q < n → ln q ≤ 999) (P : PR F 1 s n) (h56 : ∀ q, q < n → F 56 q = nI (ln q)) (h61 : ∀ q, q < n → b q = true → F 61 q = nI (ov q)) : ∃ F', cI (d + 1) 57 [.ref 55, .ref 1, .int (nI wk), .int (MK b), .int (MK D), .int (nI pp)] (F, J, σ) = some (MK (bgK (aN s) ln wk D (b, ov, nI pp - nI (cntB (sbt b D))) n).1, (F', J, σ)) ∧ (∀ c, c ≠ 61 → F' c = F c) ∧ ∀ q, q < n → (bgK (aN s) ln wk D (b, ov, nI pp - nI (cntB (sbt b D))) n).1 q = true → F' 61 q = nI ((bgK (aN s) ln wk D (b, ov, nI pp - nI (cntB (sbt b D))) n).2.1 q) := by
  obtain ⟨F', g1, g2, g3⟩ := c_begunIn (d := d) (J := J) (D := D) h R hwk (nI pp) hln n 0 F un (MK b) P h56 (b, ov, nI pp - nI (cntB (sbt b D))) h61 (by omega)
  refine ⟨F', i_57 (d := d) ?_, g2, g3⟩
  rw [q_57_0, MK_sbt, c_bitsM, Option.bind_some]
  exact g1
theorem bgK_ovb {n wk M : Nat} {i : bSt} (hw : wk + 999 ≤ M) (hln : ∀ q, q < n → ln q ≤ 999) (ho : ∀ q, q < n → i.1 q = true → i.2.1 q ≤ M) : ∀ q, q < n → (bgK A ln wk D i n).1 q = true → (bgK A ln wk D i n).2.1 q ≤ M := fun q hq hb => by
  rcases bgK_new n hb with z | z
  · rw [z.2]; exact ho q hq z.1
  · rw [z.2.2.2]; have := hln q hq; omega
theorem c_weekL (h : Lay L σ) {n m t p mo cl : Nat} (R : RK s n m t) (hln : ∀ q, q < n → ln q ≤ 999) (hcl : cl ≤ 1000000) : ∀ (f r : Nat) (F : Nat → Nat → Int32) (b : Nat → Bool) (ov : Nat → Nat) (D : Nat → Bool) (wk : Nat), PR F 1 s n → (∀ q, q < n → F 56 q = nI (ln q)) → (∀ q, q < n → b q = true → F 61 q = nI (ov q)) → (∀ q, q < n → b q = true → ov q ≤ 1002000) → wk ≤ 1000003 → r + f = 40 → ∃ F', Rn (d + 2) 55 (65, [.ref 55, .ref 1, .int (nI p), .int (nI mo), .int (nI cl), .int (MK (fun k => decide (k < n))), .int (MK b), .int (MK D), .int (nI wk), .int (nI (cl + 3)), .int (nI r)], [], (F, J, σ)) = some (some (.int (nI (evT (aN s) ln n p (p + mo) cl f (b, ov, D) wk))), (F', J, σ)) ∧ ∀ c, c ≠ 61 → F' c = F c
  | 0, r, F, b, ov, D, wk, P, h56, h61, hov, hwk, e => by
    refine ⟨F, ?_, fun _ _ => rfl⟩
    rw [q_55_65, show r = 40 by omega, if_pos (by decide)]
    rfl
  | f + 1, r, F, b, ov, D, wk, P, h56, h61, hov, hwk, e => by
    have n10 := R.1.1
    have t5 : True ∧ 55 < 999999 := ⟨trivial, by decide⟩
    have dn := c_doneIn (d := d + 1) (J := J) (ln := ln) (ov := ov) (b := b) (D := D) (wk := wk) h R P (fun q hq => ⟨h56 q hq, hln q hq⟩) (fun q hq hb => ⟨h61 q hq hb, by have := hov q hq hb; omega⟩) (by omega)
    obtain ⟨D', eD⟩ : ∃ D', D' = dnK (aN s) ln ov wk b D n := ⟨_, rfl⟩
    rw [← eD] at dn
    have eW : wDn (aN s) ln n wk (b, ov, D) = D' := eD.symm
    rw [evT_s, eW, q_55_65, if_neg (show ¬ (40 : Int32) ≤ nI r from nle (a := 40) (by omega) (by decide))]
    simp only [mS, Y_55 h, if_pos t5, dn, Option.bind_some]
    by_cases ca : wAl n D'
    · refine ⟨F, ?_, fun _ _ => rfl⟩
      rw [if_pos ((MK_eq _ _).mpr ca), if_pos ca]
    · rw [if_neg (fun q => ca ((MK_eq _ _).mp q)), if_neg ca]
      -- the next round, out of who has begun
      have nxt : ∀ (F1 : Nat → Nat → Int32) (b1 : Nat → Bool) (ov1 : Nat → Nat), wSp (aN s) ln n p (p + mo) cl wk (b, ov, D) = (b1, ov1, D') → (∀ c, c ≠ 61 → F1 c = F c) → (∀ q, q < n → b1 q = true → F1 61 q = nI (ov1 q)) → (∀ q, q < n → b1 q = true → ov1 q ≤ 1002000) → ∃ F', ((cI (d + 1) 58 [.ref 55, .ref 1, .int (nI wk), .int (MK b1 &&& (MK D' ^^^ (-1))), .int (nI (cl + 3))] (F1, J, σ)).bind fun p7 => Rn (d + 2) 55 (65, [.ref 55, .ref 1, .int (nI p), .int (nI mo), .int (nI cl), .int (MK (fun k => decide (k < n))), .int (MK b1), .int (MK D'), .int p7.1, .int (nI (cl + 3)), .int (nI (r + 1))], [], p7.2)) = some (some (.int (nI (evT (aN s) ln n p (p + mo) cl f (wSp (aN s) ln n p (p + mo) cl wk (b, ov, D)) (wNx (aN s) ln n p (p + mo) cl wk (b, ov, D))))), (F', J, σ)) ∧ ∀ c, c ≠ 61 → F' c = F c := by
        intro F1 b1 ov1 es o1 g1 g2
        have P1 : PR F1 1 s n := PR_cg (fun a h1 h2 => o1 a (by omega)) (fun j _ => rfl) P
        have cn := c_next (d := d + 1) (F := F1) (J := J) (n := n) (wk := wk) (hf := cl + 3) (rn := sbt b1 D') (ov := ov1) h n10 (P1.2.2.1) (fun q hq hr => ⟨g1 q hq (sbt_t.mp hr).1, by have := g2 q hq (sbt_t.mp hr).1; omega⟩) (by omega) (by omega)
        have ex : wNx (aN s) ln n p (p + mo) cl wk (b, ov, D) = nwK (sbt b1 D') ov1 (if cl + 3 ≤ wk then 1000000 else cl + 3) n := by
          unfold wNx; rw [es, eW]
        rw [MK_sbt, cn, Option.bind_some, es, ex]
        have nl := nwK_le (rn := sbt b1 D') (ov := ov1) (x := if cl + 3 ≤ wk then 1000000 else cl + 3) n
        have nl2 : nwK (sbt b1 D') ov1 (if cl + 3 ≤ wk then 1000000 else cl + 3) n ≤ 1000003 := Nat.le_trans nl (by split <;> omega)
        obtain ⟨F', k1, k2⟩ := c_weekL h (p := p) (mo := mo) R hln hcl f (r + 1) F1 b1 ov1 D' _ P1 (fun q hq => by rw [o1 56 (by decide)]; exact h56 q hq) g1 g2 nl2 (by omega)
        exact ⟨F', k1, fun c hc => by rw [k2 c hc, o1 c hc]⟩
      simp only [nI_s, nI_add]
      by_cases c1 : wk < cl
      · rw [if_neg (nle c1 (by omega))]
        obtain ⟨F1, k1, k2, k3⟩ := c_begun (d := d) (J := J) (D := D') (b := b) (ov := ov) (pp := p) h R (show wk < 2 ^ 29 by omega) hln P h56 h61
        rw [k1, Option.bind_some]
        simp only [mS, Y_55 h, if_pos t5]
        have es : wSp (aN s) ln n p (p + mo) cl wk (b, ov, D) = ((bgK (aN s) ln wk D' (b, ov, nI p - nI (cntB (sbt b D'))) n).1, (bgK (aN s) ln wk D' (b, ov, nI p - nI (cntB (sbt b D'))) n).2.1, D') := by
          unfold wSp wBg; rw [if_pos c1, eW]
        exact nxt F1 _ _ es k2 k3 (bgK_ovb (by omega) hln hov)
      · rw [if_pos (yle (by omega) (by omega))]
        by_cases c2 : cl + 3 ≤ wk
        · rw [if_neg (nlt c2 (by omega))]
          obtain ⟨F1, k1, k2, k3⟩ := c_begun (d := d) (J := J) (D := D') (b := b) (ov := ov) (pp := p + mo) h R (show wk < 2 ^ 29 by omega) hln P h56 h61
          rw [k1, Option.bind_some]
          simp only [mS, Y_55 h, if_pos t5]
          have es : wSp (aN s) ln n p (p + mo) cl wk (b, ov, D) = ((bgK (aN s) ln wk D' (b, ov, nI (p + mo) - nI (cntB (sbt b D'))) n).1, (bgK (aN s) ln wk D' (b, ov, nI (p + mo) - nI (cntB (sbt b D'))) n).2.1, D') := by
            unfold wSp wBg; rw [if_neg c1, if_pos c2, eW]
          exact nxt F1 _ _ es k2 k3 (bgK_ovb (by omega) hln hov)
        · rw [if_pos (ylt (by omega) (by omega))]
          have es : wSp (aN s) ln n p (p + mo) cl wk (b, ov, D) = (b, ov, D') := by
            unfold wSp; rw [if_neg c1, if_neg c2, eW]
          exact nxt F b ov es (fun _ _ => rfl) h61 hov
theorem c_lens (h : Lay L σ) {n m t p mo cl : Nat} (ta : TA σ 1) : ∀ (r k : Nat) (F : Nat → Nat → Int32), PR F 1 s n → BR F 1 s m → TR F σ 1 s t → (∀ q, q < k → F 56 q = nI (sN s m t q)) → k + r = n → ∃ F', Rn (d + 4) 55 (3, [.ref 55, .ref 1, .int (nI p), .int (nI mo), .int (nI cl), .int (nI k), un, un, un, un, un], [], (F, J, σ)) = Rn (d + 4) 55 (65, [.ref 55, .ref 1, .int (nI p), .int (nI mo), .int (nI cl), .int (MK (fun k => decide (k < n))), .int 0, .int 0, .int 0, .int (nI (cl + 3)), .int 0], [], (F', J, σ)) ∧ (∀ b, b ≠ 56 → b ≠ 62 → F' b = F b) ∧ ∀ q, q < n → F' 56 q = nI (sN s m t q)
  | 0, k, F, P, B, T, hs, e => by
    have ek : k = n := by omega
    subst ek
    refine ⟨F, ?_, fun _ _ _ => rfl, hs⟩
    have e3 : nI cl + 3 = nI (cl + 3) := nI_add cl 3
    rw [q_55_3]
    simp only [mS, mF, (PL_1 h).y0, P.2.2.1, if_true]
    rw [if_pos (Int32.le_refl _), MK_all k (by have := P.1; omega), e3]
  | r + 1, k, F, P, B, T, hs, e => by
    have hp := PL_1 h
    have n10 := P.1
    have hk : k < n := by omega
    have R := RK_of P B T
    have t5 : True ∧ 55 < 999999 := ⟨trivial, by decide⟩
    have ib : inb (nI k) 10 := inb_nI (by omega) (by decide)
    have tA : 12 ≤ 12 ∧ 12 < 16 ∧ inb (nI k) 10 := ⟨by decide, by decide, ib⟩
    have tB' : True ∧ inb (nI k) 10 := ⟨trivial, ib⟩
    obtain ⟨F1, a1, a2⟩ := c_says (d := d) (J := J) h hp ta P B T hk (by decide)
    obtain ⟨F2, eF2⟩ : ∃ F2, F2 = up1 F1 56 (up1 (F1 56) k (saS s m t k)) := ⟨_, rfl⟩
    have o2 : ∀ b, b ≠ 56 → b ≠ 62 → F2 b = F b := fun b h1 h2 => by rw [eF2, up1_ne _ _ h1, a2 b h2]
    have P2 : PR F2 1 s n := PR_cg (fun a h1 h2 => o2 a (by omega) (by omega)) (fun j _ => rfl) P
    have B2 : BR F2 1 s m := BR_cg (fun a h1 h2 => o2 a (by omega) (by omega)) (fun j _ => rfl) B
    have T2 : TR F2 σ 1 s t := TR_cg (fun a h1 h2 => o2 a (by omega) (by omega)) (fun a h1 h2 => o2 a (by omega) (by omega)) (fun j _ => rfl) T
    obtain ⟨F', g1, g2, g3⟩ := c_lens h (p := p) (mo := mo) (cl := cl) ta r (k + 1) F2 P2 B2 T2 (fun q hq => by
      rw [eF2, up1_s]
      by_cases eq : q = k
      · rw [eq, up1_s]; exact (sN_eq R hk).1
      · rw [up1_n _ _ eq, a2 56 (by decide)]; exact hs q (by omega)) (by omega)
    refine ⟨F', ?_, fun b h1 h2 => by rw [g2 b h1 h2, o2 b h1 h2], g3⟩
    rw [q_55_3]
    simp only [mS, mR, mF, hp.y0, hp.z0, hp.y1, P.2.2.1, if_true, Y_55 h, Z_55_0 h, Y_56 h, if_pos t5, ix_nI (show k < 2 ^ 31 by omega), hp.zk (show k < 10 by omega), if_pos tA, a1, Option.bind_some, if_pos tB', setF_up, nI_s]
    rw [if_neg (nle hk (by omega)), ← eF2]
    exact g1
theorem c_weeks (h : Lay L σ) {n m t p mo cl : Nat} (ta : TA σ 1) (P : PR F 1 s n) (B : BR F 1 s m) (T : TR F σ 1 s t) (hcl : cl ≤ 1000000) : ∃ F', cI (d + 4) 55 [.ref 55, .ref 1, .int (nI p), .int (nI mo), .int (nI cl)] (F, J, σ) = some (nI (evT (aN s) (sN s m t) n p (p + mo) cl 40 (fun _ => false, fun _ => 0, fun _ => false) 0), (F', J, σ)) ∧ ∀ b, b < 56 ∨ 62 < b → F' b = F b := by
  have R := RK_of P B T
  obtain ⟨F1, a1, a2, a3⟩ := c_lens (d := d) (J := J) h (p := p) (mo := mo) (cl := cl) ta n 0 F P B T (fun q hq => absurd hq (by omega)) (by omega)
  have P1 : PR F1 1 s n := PR_cg (fun a h1 h2 => a2 a (by omega) (by omega)) (fun j _ => rfl) P
  obtain ⟨F2, b1, b2⟩ := c_weekL (d := d + 2) (J := J) h (p := p) (mo := mo) R (fun q hq => (sN_eq R hq).2) hcl 40 0 F1 (fun _ => false) (fun _ => 0) (fun _ => false) 0 P1 a3 (fun q _ z => absurd z (by decide)) (fun q _ z => absurd z (by decide)) (by omega) (by omega)
  rw [MK_0] at b1
  refine ⟨F2, i_55 (d := d + 3) ?_, fun b hb => by rw [b2 b (by omega), a2 b (by omega) (by omega)]⟩
  rw [q_55_0 (d + 3)]
  exact (show _ = _ from a1).trans b1
end STK
