/-! THE READER OF THE CLASS: levels and pieces. -/
section RDC
variable {L d l : Nat} {F F' : Nat → Nat → Int32} {J : Nat → Nat → Int64} {σ : aSg} {μ : aMem} {T g : Nat → Int32} {key : Int32} {S : PSt} {q : PQ}
def RF (F : Nat → Nat → Int32) (st : Nat) : Prop := F 64 6 = nI st ∧ st ≤ 96 ∧ ∃ c, c ≤ 96 ∧ F 64 3 = nI c
def RQ (T : Nat → Int32) (l : Nat) (key : Int32) (F' : Nat → Nat → Int32) (r : Bool × PSt) : Prop := (r.1 = true → RS T l key F' r.2) ∧ (¬ r.1 = true → RF F' r.2.1.2.1)
def CQ (J : Nat → Nat → Int64) (σ : aSg) (T : Nat → Int32) (l : Nat) (key : Int32) (D y : Nat) (as : List Value) (q : PQ) : Prop := ∀ F S, RS T l key F S → GW T l key S → ∃ F', cV D y as (F, J, σ) = some (F', J, σ) ∧ (∀ a, a ≠ 64 → a ≠ 66 → F' a = F a) ∧ RQ T l key F' (q S)
theorem RQ_t {r : Bool × PSt} (e : r.1 = true) (R : RS T l key F r.2) : RQ T l key F r := ⟨fun _ => R, fun n => absurd e n⟩
theorem RQ_f {r : Bool × PSt} (e : ¬ r.1 = true) (R : RF F r.2.1.2.1) : RQ T l key F r := ⟨fun n => absurd n e, fun _ => R⟩
theorem c_putF (h : Lay L σ) {st : Nat} (R : RF F st) (x : Int32) : ∃ F', cV d 33 [.ref 64, .int x] (F, J, σ) = some (F', J, σ) ∧ (∀ a, a ≠ 64 → a ≠ 66 → F' a = F a) ∧ RF F' st := by
  obtain ⟨r1, r2, c, r3, r4⟩ := R
  by_cases e : c = 96
  · exact ⟨F, c_putN h r4 e x, fun a _ _ => rfl, r1, r2, c, r3, r4⟩
  · refine ⟨ptF F c x, c_put h r4 (by omega) x, fun a h1 h2 => ptF_n h1 h2, ?_, r2, c + 1, by omega, ?_⟩
    · unfold ptF; rw [up1_s, up1_n _ _ (by decide)]; exact r1
    · unfold ptF; rw [up1_s, up1_s]
theorem put_good (hq : GQ T l key q) {lv : Nat} (G : GW T l key S) (h1 : 1 ≤ hgK S.2.2 S.2.1.2) (c : S.1.1 = 3 ∧ sgL lv (T S.1.2.1)) (c2 : (q (nxS T l S)).1 = true) : GW T l key (putS 2 (T S.1.2.1) (q (nxS T l S)).2) ∧ hgK (putS 2 (T S.1.2.1) (q (nxS T l S)).2).2.2 (putS 2 (T S.1.2.1) (q (nxS T l S)).2).2.1.2 = hgK S.2.2 S.2.1.2 ∧ S.1.2.1 < (putS 2 (T S.1.2.1) (q (nxS T l S)).2).1.2.1 := by
  obtain ⟨g1, g2⟩ := nxS_g G
  have lt := G.1.2.2.2.1 (by omega)
  obtain ⟨p1, p2, p3⟩ := hq _ g1
  have ec : (nxS T l S).2 = S.2 := rfl
  rw [ec] at p3
  obtain ⟨a1, a2, a3, a4⟩ := p3 c2
  generalize (nxS T l S).1.2.1 = st1 at *
  generalize (q (nxS T l S)).2 = S2 at *
  obtain ⟨t2, ⟨o2, c2'⟩, K2⟩ := S2
  obtain ⟨t0, ⟨o0, c0⟩, K0⟩ := S
  dsimp only at *
  have hs := sgL_s c.2
  have n33 := sgn_33 hs
  refine ⟨⟨p1, ?_, okK_up a3 (Or.inr (Or.inr ⟨rfl, Or.inr hs⟩)) (fun _ => ?_)⟩, ?_, ?_⟩
  · show c2' + 1 + 3 ≤ t2.2.1
    have := G.2.1
    dsimp only at this
    omega
  · rw [if_neg n33]
    show 2 ≤ hgK K2 c2'
    omega
  · show hgK (up1 K2 c2' (2, T t0.2.1)) (c2' + 1) = _
    rw [hgK_up1, if_pos rfl, if_neg n33]
    omega
  · show t0.2.1 < t2.2.1
    omega
theorem c_lvL (h : Lay L σ) {lv pa no D : Nat} (hv : lv < 5) (hq : CQ J σ T l key (D + 2) 35 [.ref 64, .int (nI (lv + 1)), .int (nI pa), .int (nI no)] q) (Gq : GQ T l key q) : ∀ (f i : Nat) (F : Nat → Nat → Int32) (S : PSt) (w : Value), (lv = 2 → f = 1 ∧ i = 0) → (¬ lv = 2 → i + f = 96) → RS T l key F S → GW T l key S → 1 ≤ hgK S.2.2 S.2.1.2 → ∃ F', Rn (D + 3) 35 (24, [.ref 64, .int (nI lv), .int (nI pa), .int (nI no), .int (nI i), w], [], (F, J, σ)) = some (none, (F', J, σ)) ∧ (∀ a, a ≠ 64 → a ≠ 66 → F' a = F a) ∧ RQ T l key F' (lpP T l lv q f S)
  | 0, i, F, S, w, e2, e3, R, G, hg => by
    have : ¬ lv = 2 := fun e => absurd (e2 e).1 (by decide)
    refine ⟨F, ?_, fun a _ _ => rfl, RQ_t rfl R⟩
    rw [q_35_24, if_pos (show 96 ≤ nI i from yle (a := 96) (by have := e3 this; omega) (by have := e3 this; omega))]
  | f + 1, i, F, S, w, e2, e3, R, G, hg => by
    have i96 : i < 96 := by
      by_cases c : lv = 2
      · have := (e2 c).2; omega
      · have := e3 c; omega
    have e0 : Rn (D + 3) 35 (24, [.ref 64, .int (nI lv), .int (nI pa), .int (nI no), .int (nI i), w], [], (F, J, σ)) = (if ¬ (S.1.1 = 3 ∧ sgL lv (T S.1.2.1)) then some (none, (F, J, σ)) else (cI (D + 2) 23 [.ref 64, .int (nI S.1.2.1)] (F, J, σ)).bind fun p8 => if (mS p8.2 64).1 = 3 ∧ 64 < 999999 then ((cV (D + 2) 26 [.ref 64] p8.2).bind fun p10 => if (mS p10 64).1 = 3 ∧ 64 < 999999 then ((cV (D + 2) 35 [.ref 64, .int (nI lv + 1), .int (nI pa), .int (nI no)] p10).bind fun p12 => if (mS p12 64).1 = 3 ∧ 64 < 999999 then ((cV (D + 2) 33 [.ref 64, .int (-p8.1)] p12).bind fun p14 => if nI lv = 2 then (some (none, p14)) else (Rn (D + 3) 35 (24, [.ref 64, .int (nI lv), .int (nI pa), .int (nI no), .int (nI i + 1), .int p8.1], [], p14))) else none) else none) else none) := by
      rw [q_35_24, if_neg (show ¬ 96 ≤ nI i from nle (a := 96) i96 (by decide))]
      simp only [mS, mF, Y_64 h, R.r6, if_true]
      rw [if_neg (by decide), if_pos t64, c_signOf h R hv, Option.bind_some]
      simp only [b2i_0, mS, mF, Y_64 h, R.r8, if_true]
      by_cases c : S.1.1 = 3 ∧ sgL lv (T S.1.2.1)
      · rw [if_neg (not_not_intro c), if_neg (not_not_intro c), if_pos t64]
      · rw [if_pos c, if_pos c]
    by_cases c : S.1.1 = 3 ∧ sgL lv (T S.1.2.1)
    · have hs : S.1.2.1 < l := by have := G.1.2.2.2.1 (by omega); have := G.1.2.1; omega
      rw [if_neg (not_not_intro c), RS.by h R hs, Option.bind_some] at e0
      obtain ⟨F1, a1, a2, a3⟩ := c_look (d := D + 1) (J := J) h R
      obtain ⟨g1, g2⟩ := nxS_g G
      obtain ⟨F2, b1, b2, b3, b4⟩ := hq F1 (nxS T l S) a3 g1
      simp only [mS, Y_64 h] at e0
      rw [if_pos t64, a1, Option.bind_some] at e0
      simp only [mS, Y_64 h] at e0
      rw [if_pos t64, nI_s, b1, Option.bind_some] at e0
      simp only [mS, Y_64 h] at e0
      rw [if_pos t64] at e0
      rw [lpP_s, if_pos c]
      by_cases c2 : (q (nxS T l S)).1 = true
      · rw [if_pos c2]
        have R2 := b3 c2
        obtain ⟨k1, k2, k3⟩ := put_good Gq G hg c c2
        have c96 : (q (nxS T l S)).2.2.1.2 < 96 := by
          have q1 : (q (nxS T l S)).2.2.1.2 + 1 + 3 ≤ (q (nxS T l S)).2.1.2.1 := k1.2.1
          have := R2.tk.1
          have := R2.tk.2.1
          have := R.hl
          omega
        rw [c_put h R2.r3 c96, Option.bind_some] at e0
        have R3 := RS_put (w := 2) (v := T S.1.2.1) (x := -T S.1.2.1) R2 rfl
        have fr : ∀ a, a ≠ 64 → a ≠ 66 → ptF F2 (q (nxS T l S)).2.2.1.2 (-T S.1.2.1) a = F a := fun a h1 h2 => by rw [ptF_n h1 h2, b2 a h1 h2, a2 a h1]
        by_cases v2 : lv = 2
        · have f0 : f = 0 := by have := (e2 v2).1; omega
          rw [if_pos (show nI lv = 2 by rw [v2]; rfl)] at e0
          rw [f0, lpP_0]
          exact ⟨_, e0, fr, RQ_t rfl R3⟩
        · rw [if_neg (show ¬ nI lv = 2 from fun q => v2 ((nI_eq (b := 2) (by omega) (by decide)).mp q)), nI_s] at e0
          obtain ⟨F', z1, z2, z3⟩ := c_lvL h hv hq Gq f (i + 1) (ptF F2 (q (nxS T l S)).2.2.1.2 (-T S.1.2.1)) (putS 2 (T S.1.2.1) (q (nxS T l S)).2) (.int (T S.1.2.1)) (fun e => absurd e v2) (fun e => by have := e3 e; omega) R3 k1 (by rw [k2]; exact hg)
          exact ⟨F', e0.trans z1, fun a h1 h2 => (z2 a h1 h2).trans (fr a h1 h2), z3⟩
      · rw [if_neg c2]
        have R2 := b4 c2
        obtain ⟨F3, d1, d2, d3⟩ := c_putF (d := D + 2) (J := J) h R2 (-T S.1.2.1)
        rw [d1, Option.bind_some] at e0
        have fr : ∀ a, a ≠ 64 → a ≠ 66 → F3 a = F a := fun a h1 h2 => by rw [d2 a h1 h2, b2 a h1 h2, a2 a h1]
        refine ⟨F3, ?_, fr, RQ_f c2 d3⟩
        rw [e0]
        by_cases v2 : lv = 2
        · rw [if_pos (show nI lv = 2 by rw [v2]; rfl)]
        · rw [if_neg (show ¬ nI lv = 2 from fun q => v2 ((nI_eq (b := 2) (by omega) (by decide)).mp q)), nI_s, q_35_24]
          by_cases c6 : 96 ≤ nI (i + 1)
          · rw [if_pos c6]
          · rw [if_neg c6]
            simp only [mS, mF, Y_64 h, d3.1, if_true]
            rw [if_pos (show 0 ≤ nI (q (nxS T l S)).2.1.2.1 from yle (a := 0) (by omega) (by have := d3.2.1; omega))]
    · rw [if_pos c] at e0
      rw [lpP_s, if_neg c]
      exact ⟨F, e0, fun a _ _ => rfl, RQ_t rfl R⟩
theorem c_lev (h : Lay L σ) {pa no D0 : Nat} (hq : ∀ D, D0 ≤ D → CQ J σ T l key D 36 [.ref 64, .int (nI pa), .int (nI no)] q) (Gq : GQ T l key q) (h3 : 3 ≤ D0) : ∀ n, n ≤ 5 → ∀ D, D0 + n + 1 ≤ D → CQ J σ T l key D 35 [.ref 64, .int (nI (5 - n)), .int (nI pa), .int (nI no)] (lvN T l q n)
  | 0, _, D, hD => fun F S R G => by
    obtain ⟨D', rfl⟩ : ∃ D', D = D' + 1 := ⟨D - 1, by omega⟩
    obtain ⟨F1, a1, a2, a3⟩ := hq D' (by omega) F S R G
    refine ⟨F1, i_35 (v := none) ?_, a2, a3⟩
    rw [q_35_0, if_neg (show ¬ nI (5 - 0) < 5 by decide)]
    simp only [mS, Y_64 h]
    rw [if_pos t64, a1, Option.bind_some]
  | n + 1, hn, D, hD => fun F S R G => by
    obtain ⟨D', rfl⟩ : ∃ D', D = D' + 3 := ⟨D - 3, by omega⟩
    have ih : CQ J σ T l key (D' + 2) 35 [.ref 64, .int (nI (5 - n)), .int (nI pa), .int (nI no)] (lvN T l q n) := c_lev h hq Gq h3 n (by omega) (D' + 2) (by omega)
    have gn := lvN_good Gq n
    obtain ⟨F1, a1, a2, a3, a4⟩ := ih F S R G
    have e0 : Rn (D' + 3) 35 (0, [.ref 64, .int (nI (5 - (n + 1))), .int (nI pa), .int (nI no), un, un], [], (F, J, σ)) = Rn (D' + 3) 35 (24, [.ref 64, .int (nI (4 - n)), .int (nI pa), .int (nI no), .int (nI 0), un], [], (F1, J, σ)) := by
      rw [q_35_0, show 5 - (n + 1) = 4 - n by omega, if_pos (show nI (4 - n) < 5 from ylt (b := 5) (by omega) (by decide))]
      simp only [mS, Y_64 h]
      rw [if_pos t64, nI_s, show 4 - n + 1 = 5 - n by omega, a1, Option.bind_some]
      rfl
    rw [lvN_s]
    unfold lvP
    by_cases c : (lvN T l q n S).1 = true
    · rw [if_pos c]
      have G1 := GW_of G (gn S G) c
      obtain ⟨y1, y2, y3, y4⟩ := (gn S G).2.2 c
      have ih' : CQ J σ T l key (D' + 2) 35 [.ref 64, .int (nI (4 - n + 1)), .int (nI pa), .int (nI no)] (lvN T l q n) := by
        rw [show 4 - n + 1 = 5 - n by omega]; exact ih
      obtain ⟨F2, b1, b2, b3⟩ := c_lvL h (lv := 4 - n) (by omega) ih' gn (fuL (4 - n)) 0 F1 _ un (fun e => ⟨by unfold fuL; rw [if_pos e], rfl⟩) (fun e => by unfold fuL; rw [if_neg e]) (a3 c) G1 (by omega)
      exact ⟨F2, i_35 (e0.trans b1), fun a h1 h2 => (b2 a h1 h2).trans (a2 a h1 h2), b3⟩
    · rw [if_neg c]
      have R1 := a4 c
      refine ⟨F1, i_35 (v := none) (e0.trans ?_), a2, RQ_f c R1⟩
      rw [q_35_24, if_neg (by decide)]
      simp only [mS, mF, Y_64 h, R1.1, if_true]
      rw [if_pos (show 0 ≤ nI (lvN T l q n S).2.1.2.1 from yle (a := 0) (by omega) (by have := R1.2.1; omega))]
theorem RF_fail (R : RS T l key F S) (hc : S.2.1.2 ≤ 96) : RF (up1 F 64 (up1 (F 64) 6 (F 64 8))) S.1.2.1 := by
  refine ⟨?_, ?_, S.2.1.2, hc, ?_⟩
  · rw [up1_s, up1_s]; exact R.r8
  · have := R.tk.1
    have := R.tk.2.1
    have := R.hl
    omega
  · rw [up1_s, up1_n _ _ (by decide)]; exact R.r3
theorem na_n {key b : Int32} (h : isNm key b) : ¬ naS key b < 0 ∧ -1 - naS key b = nmI key b := by
  unfold naS
  rw [if_pos h]
  rcases (nm_c h).1 with e | e | e <;> rw [e] <;> decide
theorem c_pc1 (h : Lay L σ) (hk : key = 0 ∨ key = 1 ∨ key = 2) {gg pa no D : Nat} (e : pa + no + gg = 16) (h1 : pa ≤ 8) (h2 : no ≤ 8) (ihN : no < 8 → CQ J σ T l key (D + 4) 36 [.ref 64, .int (nI pa), .int (nI (no + 1))] (pcP T l key (gg - 1) pa (no + 1))) (ihP : pa < 8 → CQ J σ T l key (D + 4) 35 [.ref 64, .int 0, .int (nI (pa + 1)), .int (nI no)] (lvN T l (pcP T l key (gg - 1) (pa + 1) no) 5)) : CQ J σ T l key (D + 5) 36 [.ref 64, .int (nI pa), .int (nI no)] (pcP T l key gg pa no) := by
  intro F S R G
  have W := R.tk
  have c93 : S.2.1.2 < 96 := by have := G.2.1; have := W.1; have := W.2.1; have := R.hl; omega
  have k7 := R.r7
  have kq := fun m hm => k_eq (k := S.1.1) m W.2.2.1 hm
  rw [pcP_e T l key e h1 h2]
  have e0 := q_36_0 (D + 4) 64 (nI pa) (nI no) (F, J, σ)
  simp only [mS, mF, Y_64 h, k7, if_true] at e0
  by_cases cA : S.1.1 = 2
  · rw [if_pos (show nI S.1.1 = 2 by rw [cA]; rfl), if_pos t64, c_num h R, Option.bind_some] at e0
    simp only [mS, Y_64 h] at e0
    obtain ⟨F1, a1, a2, a3⟩ := c_opd (d := D + 2) (J := J) h R c93 (w := 0) (v := nuV T S.1.2.1 (S.1.2.2 - S.1.2.1)) (x := nuV T S.1.2.1 (S.1.2.2 - S.1.2.1)) rfl
    rw [if_pos t64, a1, Option.bind_some] at e0
    rw [if_pos (Or.inl cA)]
    refine ⟨F1, i_36 e0, a2, RQ_t rfl ?_⟩
    show RS T l key F1 (atP T l S)
    unfold atP
    rw [if_pos cA]
    exact a3
  · rw [if_neg (show ¬ nI S.1.1 = 2 from fun z => cA ((kq 2 (by decide)).mp z)), if_pos t64, c_name h R hk, Option.bind_some] at e0
    simp only [mS, Y_64 h] at e0
    by_cases cB : S.1.1 = 1 ∧ S.1.2.2 - S.1.2.1 = 1 ∧ isNm key (T S.1.2.1)
    · obtain ⟨n1, n2⟩ := na_n cB.2.2
      have cB2 : S.1.1 = 1 ∧ S.1.2.2 - S.1.2.1 = 1 := ⟨cB.1, cB.2.1⟩
      rw [if_pos cB2, if_neg n1, if_pos t64, c_name h R hk, Option.bind_some, if_pos cB2] at e0
      simp only [mS, Y_64 h] at e0
      obtain ⟨F1, a1, a2, a3⟩ := c_opd (d := D + 2) (J := J) h R c93 (w := 1) (v := T S.1.2.1) (x := -1 - naS key (T S.1.2.1)) n2
      rw [if_pos t64, a1, Option.bind_some] at e0
      rw [if_pos (Or.inr cB)]
      refine ⟨F1, i_36 e0, a2, RQ_t rfl ?_⟩
      show RS T l key F1 (atP T l S)
      unfold atP
      rw [if_neg cA]
      exact a3
    · have nat : ¬ atS T key S := fun z => by rcases z with z | z; exact cA z; exact cB z
      have v1 : (if S.1.1 = 1 ∧ S.1.2.2 - S.1.2.1 = 1 then naS key (T S.1.2.1) else -1) = -1 := by
        by_cases c : S.1.1 = 1 ∧ S.1.2.2 - S.1.2.1 = 1
        · rw [if_pos c]
          unfold naS
          rw [if_neg (fun z => cB ⟨c.1, c.2, z⟩)]
        · rw [if_neg c]
      rw [v1, if_pos (by decide), if_pos t64, c_sign h R, Option.bind_some] at e0
      simp only [b2i_0, mS, Y_64 h] at e0
      rw [if_neg nat]
      have fin : ∀ v, Rn (D + 5) 36 (0, [.ref 64, .int (nI pa), .int (nI no)], [], (F, J, σ)) = ((cV (D + 4) 34 [.ref 64] (F, J, σ)).bind fun p16 => some (v, p16)) → ∃ F', cV (D + 5) 36 [.ref 64, .int (nI pa), .int (nI no)] (F, J, σ) = some (F', J, σ) ∧ (∀ a, a ≠ 64 → a ≠ 66 → F' a = F a) ∧ RQ T l key F' (false, S) := fun v q => by
        rw [c_fail h R.r6, Option.bind_some] at q
        exact ⟨_, i_36 q, fun a h1 _ => up1_n _ _ h1, RQ_f (by exact Bool.false_ne_true) (RF_fail R (Nat.le_of_lt c93))⟩
      by_cases cN : S.1.1 = 3 ∧ T S.1.2.1 = 33
      · rw [if_neg (not_not_intro cN)] at e0
        by_cases n8 : no < 8
        · rw [if_neg (show ¬ 8 ≤ nI no from nle (a := 8) n8 (by decide)), if_pos t64] at e0
          rw [if_pos ⟨cN, n8⟩]
          obtain ⟨F1, a1, a2, a3⟩ := c_look (d := D + 3) (J := J) h R
          obtain ⟨g1, g2⟩ := nxS_g G
          obtain ⟨F2, b1, b2, b3, b4⟩ := ihN n8 F1 (nxS T l S) a3 g1
          have gq : GP T l key (nxS T l S) (pcP T l key (gg - 1) pa (no + 1) (nxS T l S)) := pc_good _ _ _ _ g1
          rw [a1, Option.bind_some] at e0
          simp only [mS, Y_64 h] at e0
          rw [if_pos t64, nI_s, b1, Option.bind_some] at e0
          simp only [mS, Y_64 h] at e0
          rw [if_pos t64] at e0
          unfold notR
          by_cases c2 : (pcP T l key (gg - 1) pa (no + 1) (nxS T l S)).1 = true
          · rw [if_pos c2]
            have R2 := b3 c2
            have G2 := GW_of g1 gq c2
            have c96 : (pcP T l key (gg - 1) pa (no + 1) (nxS T l S)).2.2.1.2 < 96 := by
              have := G2.2.1
              have := R2.tk.1
              have := R2.tk.2.1
              have := R.hl
              omega
            rw [c_put h R2.r3 c96, Option.bind_some] at e0
            exact ⟨_, i_36 e0, fun a h1 h2 => by rw [ptF_n h1 h2, b2 a h1 h2, a2 a h1], RQ_t rfl (RS_put (w := 2) (v := 33) R2 rfl)⟩
          · rw [if_neg c2]
            obtain ⟨F3, d1, d2, d3⟩ := c_putF (d := D + 4) (J := J) h (b4 c2) (-33)
            rw [d1, Option.bind_some] at e0
            exact ⟨_, i_36 e0, fun a h1 h2 => by rw [d2 a h1 h2, b2 a h1 h2, a2 a h1], RQ_f c2 d3⟩
        · have n40 : ¬ (S.1.1 = 3 ∧ T S.1.2.1 = 40) := fun z => by rw [cN.2] at z; exact absurd z.2 (by decide)
          rw [if_pos (show 8 ≤ nI no from yle (a := 8) (by omega) (by omega)), if_pos t64, c_sign h R, Option.bind_some] at e0
          simp only [b2i_0, mS, Y_64 h] at e0
          rw [if_pos n40, if_pos t64] at e0
          rw [if_neg (fun z => n8 z.2), if_neg (fun z => n40 z.1)]
          exact fin _ e0
      · rw [if_pos cN, if_pos t64, c_sign h R, Option.bind_some] at e0
        simp only [b2i_0, mS, Y_64 h] at e0
        rw [if_neg (fun z => cN z.1)]
        by_cases cP : S.1.1 = 3 ∧ T S.1.2.1 = 40
        · rw [if_neg (not_not_intro cP)] at e0
          by_cases p8 : pa < 8
          · rw [if_neg (show ¬ 8 ≤ nI pa from nle (a := 8) p8 (by decide)), if_pos t64] at e0
            rw [if_pos ⟨cP, p8⟩]
            obtain ⟨F1, a1, a2, a3⟩ := c_look (d := D + 3) (J := J) h R
            obtain ⟨g1, g2⟩ := nxS_g G
            obtain ⟨F2, b1, b2, b3, b4⟩ := ihP p8 F1 (nxS T l S) a3 g1
            have gq : GP T l key (nxS T l S) (lvN T l (pcP T l key (gg - 1) (pa + 1) no) 5 (nxS T l S)) := lvN_good (pc_good _ _ _) 5 _ g1
            rw [a1, Option.bind_some] at e0
            simp only [mS, Y_64 h] at e0
            rw [if_pos t64, nI_s, b1, Option.bind_some] at e0
            simp only [mS, mF, Y_64 h, if_true] at e0
            unfold parR
            generalize lvN T l (pcP T l key (gg - 1) (pa + 1) no) 5 (nxS T l S) = r at *
            by_cases c2 : r.1 = true
            · have R2 := b3 c2
              have G2 := GW_of g1 gq c2
              rw [R2.r6, if_neg (by decide), if_pos t64, c_sign h R2, Option.bind_some] at e0
              simp only [b2i_0, mS, Y_64 h] at e0
              rw [if_pos c2]
              by_cases c4 : r.2.1.1 = 3 ∧ T r.2.1.2.1 = 41
              · rw [if_neg (not_not_intro c4), if_pos t64] at e0
                obtain ⟨F3, d1, d2, d3⟩ := c_look (d := D + 3) (J := J) h R2
                rw [d1, Option.bind_some] at e0
                rw [if_pos c4]
                exact ⟨_, i_36 e0, fun a h1 h2 => by rw [d2 a h1, b2 a h1 h2, a2 a h1], RQ_t rfl d3⟩
              · rw [if_pos c4, if_pos t64, c_fail h R2.r6, Option.bind_some] at e0
                rw [if_neg c4]
                refine ⟨_, i_36 e0, fun a h1 h2 => by rw [up1_ne _ _ h1, b2 a h1 h2, a2 a h1], RQ_f (by exact Bool.false_ne_true) (RF_fail R2 ?_)⟩
                show r.2.2.1.2 ≤ 96
                have := G2.2.1
                have := R2.tk.1
                have := R2.tk.2.1
                have := R.hl
                omega
            · have R2 := b4 c2
              have p6 : 0 ≤ F2 64 6 := by rw [R2.1]; exact yle (a := 0) (by omega) (by have := R2.2.1; omega)
              rw [if_pos p6, if_pos t64, c_failN h p6, Option.bind_some] at e0
              rw [if_neg c2]
              exact ⟨_, i_36 e0, fun a h1 h2 => by rw [b2 a h1 h2, a2 a h1], RQ_f c2 R2⟩
          · rw [if_pos (show 8 ≤ nI pa from yle (a := 8) (by omega) (by omega)), if_pos t64] at e0
            rw [if_neg (fun z => p8 z.2)]
            exact fin _ e0
        · rw [if_pos cP, if_pos t64] at e0
          rw [if_neg (fun z => cP z.1)]
          exact fin _ e0
theorem c_pc (h : Lay L σ) (hk : key = 0 ∨ key = 1 ∨ key = 2) : ∀ gg pa no, pa + no + gg = 16 → pa ≤ 8 → no ≤ 8 → ∀ D, 7 * (8 - pa) + (8 - no) + 5 ≤ D → CQ J σ T l key D 36 [.ref 64, .int (nI pa), .int (nI no)] (pcP T l key gg pa no)
  | 0, pa, no, e, h1, h2, D, hD => by
    obtain ⟨D', rfl⟩ : ∃ D', D = D' + 5 := ⟨D - 5, by omega⟩
    exact c_pc1 h hk e h1 h2 (fun z => by omega) (fun z => by omega)
  | gg + 1, pa, no, e, h1, h2, D, hD => by
    obtain ⟨D', rfl⟩ : ∃ D', D = D' + 5 := ⟨D - 5, by omega⟩
    refine c_pc1 h hk e h1 h2 (fun z => c_pc h hk gg pa (no + 1) (by omega) h1 (by omega) (D' + 4) (by omega)) (fun z => ?_)
    exact c_lev h (D0 := 7 * (8 - (pa + 1)) + (8 - no) + 5) (fun D2 hD2 => c_pc h hk gg (pa + 1) no (by omega) (by omega) h2 D2 hD2) (pc_good _ _ _) (by omega) 5 (by decide) (D' + 4) (by omega)
/-- all that is read behind the key -/
def rdP (T : Nat → Int32) (l : Nat) (key : Int32) : PQ := lvN T l (pcP T l key 16 0 0) 5
theorem rdP_good : GQ T l key (rdP T l key) := lvN_good (pc_good _ _ _) 5
theorem c_rd (h : Lay L σ) (hk : key = 0 ∨ key = 1 ∨ key = 2) {D : Nat} (hD : 75 ≤ D) : CQ J σ T l key D 35 [.ref 64, .int 0, .int 0, .int 0] (rdP T l key) :=
  c_lev h (D0 := 69) (pa := 0) (no := 0) (fun D2 hD2 => c_pc h hk 16 0 0 (by decide) (by decide) (by decide) D2 (by omega)) (pc_good _ _ _) (by decide) 5 (by decide) D (by omega)
end RDC
