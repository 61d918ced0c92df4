/-! TEXTS READ: what holds of all that is read. -/
section GOOD
variable {T : Nat → Int32} {l : Nat} {key : Int32} {S : PSt} {q : PQ}
def hgK (K : Nat → Int32 × Int32) : Nat → Nat
  | 0 => 0
  | j + 1 => if (K j).1 = 2 then (if (K j).2 = 33 then hgK K j else hgK K j - 1) else hgK K j + 1
theorem hgK_s (K : Nat → Int32 × Int32) (j : Nat) : hgK K (j + 1) = if (K j).1 = 2 then (if (K j).2 = 33 then hgK K j else hgK K j - 1) else hgK K j + 1 := rfl
def okK (key : Int32) (K : Nat → Int32 × Int32) (c : Nat) : Prop := ∀ j, j < c → stOK key (K j).1 (K j).2 ∧ ((K j).1 = 2 → (if (K j).2 = 33 then 1 else 2) ≤ hgK K j)
theorem hgK_up {K : Nat → Int32 × Int32} {c : Nat} {x : Int32 × Int32} : ∀ j, j ≤ c → hgK (up1 K c x) j = hgK K j
  | 0, _ => rfl
  | j + 1, h => by
    rw [hgK_s, hgK_s, up1_n _ _ (show j ≠ c by omega), hgK_up j (by omega)]
theorem okK_up {K : Nat → Int32 × Int32} {c : Nat} {w v : Int32} (h : okK key K c) (h1 : stOK key w v) (h2 : w = 2 → (if v = 33 then 1 else 2) ≤ hgK K c) : okK key (up1 K c (w, v)) (c + 1) := fun j hj => by
  by_cases e : j = c
  · rw [e, up1_s, hgK_up c (Nat.le_refl _)]
    exact ⟨h1, h2⟩
  · rw [up1_n _ _ e, hgK_up j (by omega)]
    exact h j (by omega)
theorem hgK_up1 {K : Nat → Int32 × Int32} {c : Nat} {w v : Int32} : hgK (up1 K c (w, v)) (c + 1) = if w = 2 then (if v = 33 then hgK K c else hgK K c - 1) else hgK K c + 1 := by
  rw [hgK_s, up1_s, hgK_up c (Nat.le_refl _)]
abbrev GW (T : Nat → Int32) (l : Nat) (key : Int32) (S : PSt) : Prop := TKt T l S.1 ∧ S.2.1.2 + 3 ≤ S.1.2.1 ∧ okK key S.2.2 S.2.1.2
abbrev GP (T : Nat → Int32) (l : Nat) (key : Int32) (S : PSt) (r : Bool × PSt) : Prop := TKt T l r.2.1 ∧ S.1.2.1 ≤ r.2.1.2.1 ∧ (r.1 = true → S.1.2.1 < r.2.1.2.1 ∧ r.2.2.1.2 + S.1.2.1 ≤ S.2.1.2 + r.2.1.2.1 ∧ okK key r.2.2.2 r.2.2.1.2 ∧ hgK r.2.2.2 r.2.2.1.2 = hgK S.2.2 S.2.1.2 + 1)
abbrev GQ (T : Nat → Int32) (l : Nat) (key : Int32) (q : PQ) : Prop := ∀ S, GW T l key S → GP T l key S (q S)
theorem nxS_w (W : TKt T l S.1) : TKt T l (nxS T l S).1 ∧ S.1.2.2 ≤ (nxS T l S).1.2.1 := nxT_w W.2.1
theorem nxS_g (G : GW T l key S) : GW T l key (nxS T l S) ∧ S.1.2.2 ≤ (nxS T l S).1.2.1 := by
  obtain ⟨h1, h2⟩ := nxS_w G.1
  have := G.1.1
  have := G.2.1
  exact ⟨⟨h1, by show S.2.1.2 + 3 ≤ _; omega, G.2.2⟩, h2⟩
theorem lp_good (hq : GQ T l key q) {lv : Nat} : ∀ f S, GW T l key S → 1 ≤ hgK S.2.2 S.2.1.2 → TKt T l (lpP T l lv q f S).2.1 ∧ S.1.2.1 ≤ (lpP T l lv q f S).2.1.2.1 ∧ ((lpP T l lv q f S).1 = true → (lpP T l lv q f S).2.2.1.2 + S.1.2.1 ≤ S.2.1.2 + (lpP T l lv q f S).2.1.2.1 ∧ okK key (lpP T l lv q f S).2.2.2 (lpP T l lv q f S).2.2.1.2 ∧ hgK (lpP T l lv q f S).2.2.2 (lpP T l lv q f S).2.2.1.2 = hgK S.2.2 S.2.1.2) := by
  intro f
  induction f with
  | zero =>
    intro S G h1
    rw [lpP_0]
    exact ⟨G.1, Nat.le_refl _, fun _ => ⟨Nat.le_refl _, G.2.2, rfl⟩⟩
  | succ f ih =>
    intro S G h1
    rw [lpP_s]
    by_cases c : S.1.1 = 3 ∧ sgL lv (T S.1.2.1)
    · rw [if_pos c]
      obtain ⟨g1, g2⟩ := nxS_g G
      have lt := G.1.2.2.2.1 (by omega)
      obtain ⟨p1, p2, p3⟩ := hq _ g1
      have ec : (nxS T l S).2 = S.2 := rfl
      rw [ec] at p3
      by_cases c2 : (q (nxS T l S)).1 = true
      · rw [if_pos c2]
        obtain ⟨a1, a2, a3, a4⟩ := p3 c2
        generalize (nxS T l S).1.2.1 = st1 at *
        generalize (q (nxS T l S)).2 = S2 at *
        obtain ⟨t2, ⟨o2, c2'⟩, K2⟩ := S2
        obtain ⟨t0, ⟨o0, c0⟩, K0⟩ := S
        dsimp only at *
        have hs := sgL_s c.2
        have n33 := sgn_33 hs
        have G3 : GW T l key (putS 2 (T t0.2.1) (t2, (o2, c2'), K2)) := by
          refine ⟨p1, ?_, okK_up a3 (Or.inr (Or.inr ⟨rfl, Or.inr hs⟩)) (fun _ => ?_)⟩
          · show c2' + 1 + 3 ≤ t2.2.1
            have := G.2.1
            dsimp only at this
            omega
          · rw [if_neg n33]
            show 2 ≤ hgK K2 c2'
            omega
        have e3 : hgK (putS 2 (T t0.2.1) (t2, (o2, c2'), K2)).2.2 (putS 2 (T t0.2.1) (t2, (o2, c2'), K2)).2.1.2 = hgK K0 c0 := by
          show hgK (up1 K2 c2' (2, T t0.2.1)) (c2' + 1) = _
          rw [hgK_up1, if_pos rfl, if_neg n33]
          omega
        obtain ⟨b1, b2, b3⟩ := ih _ G3 (by rw [e3]; exact h1)
        rw [e3] at b3
        have b2' : t2.2.1 ≤ (lpP T l lv q f (putS 2 (T t0.2.1) (t2, (o2, c2'), K2))).2.1.2.1 := b2
        refine ⟨b1, by omega, fun z => ?_⟩
        obtain ⟨z1, z2, z3⟩ := b3 z
        have z1' : (lpP T l lv q f (putS 2 (T t0.2.1) (t2, (o2, c2'), K2))).2.2.1.2 + t2.2.1 ≤ c2' + 1 + (lpP T l lv q f (putS 2 (T t0.2.1) (t2, (o2, c2'), K2))).2.1.2.1 := z1
        exact ⟨by omega, z2, z3⟩
      · rw [if_neg c2]
        exact ⟨p1, by have := G.1.1; omega, fun z => absurd z c2⟩
    · rw [if_neg c]
      exact ⟨G.1, Nat.le_refl _, fun _ => ⟨Nat.le_refl _, G.2.2, rfl⟩⟩
theorem GW_of {r : Bool × PSt} (G : GW T l key S) (h : GP T l key S r) (e : r.1 = true) : GW T l key r.2 := by
  obtain ⟨h1, h2, h3⟩ := h
  obtain ⟨a1, a2, a3, a4⟩ := h3 e
  refine ⟨h1, ?_, a3⟩
  have := G.2.1
  omega
theorem lv_good (hq : GQ T l key q) (lv : Nat) : GQ T l key (lvP T l lv q) := fun S G => by
  have p := hq S G
  unfold lvP
  by_cases c : (q S).1 = true
  · rw [if_pos c]
    have g2 := GW_of G p c
    obtain ⟨p1, p2, p3⟩ := p
    obtain ⟨a1, a2, a3, a4⟩ := p3 c
    obtain ⟨b1, b2, b3⟩ := lp_good (lv := lv) hq (fuL lv) _ g2 (by omega)
    refine ⟨b1, by omega, fun z => ?_⟩
    obtain ⟨z1, z2, z3⟩ := b3 z
    exact ⟨by omega, by omega, z2, by omega⟩
  · rw [if_neg c]
    exact p
theorem lvN_good (hq : GQ T l key q) : ∀ n, GQ T l key (lvN T l q n)
  | 0 => hq
  | n + 1 => by
    have ih : GQ T l key (lvN T l q n) := lvN_good hq n
    rw [lvN_s]
    exact lv_good ih _
theorem opd_good {w v : Int32} (G : GW T l key S) (h : S.1.2.1 < S.1.2.2) (h1 : stOK key w v) (h2 : ¬ w = 2) : GP T l key S (true, opdS T l w v S) := by
  obtain ⟨t0, ⟨o0, c0⟩, K0⟩ := S
  obtain ⟨g1, g2⟩ := nxS_w (S := (t0, (o0 + 1, c0 + 1), up1 K0 c0 (w, v))) G.1
  have h' : t0.2.1 < t0.2.2 := h
  have g2' : t0.2.2 ≤ (opdS T l w v (t0, (o0, c0), K0)).1.2.1 := g2
  refine ⟨g1, by show t0.2.1 ≤ (opdS T l w v (t0, (o0, c0), K0)).1.2.1; omega, fun _ => ⟨by show t0.2.1 < (opdS T l w v (t0, (o0, c0), K0)).1.2.1; omega, ?_, okK_up G.2.2 h1 (fun q => absurd q h2), ?_⟩⟩
  · show c0 + 1 + t0.2.1 ≤ c0 + (opdS T l w v (t0, (o0, c0), K0)).1.2.1
    omega
  · show hgK (up1 K0 c0 (w, v)) (c0 + 1) = hgK K0 c0 + 1
    rw [hgK_up1, if_neg h2]
theorem at_good (G : GW T l key S) (c : atS T key S) : GP T l key S (true, atP T l S) := by
  unfold atP
  by_cases c2 : S.1.1 = 2
  · rw [if_pos c2]
    obtain ⟨w1, w2⟩ := G.1.2.2.2.2.2 c2
    obtain ⟨v, e, hv⟩ := nuV_n (T := T) (st := S.1.2.1) (S.1.2.2 - S.1.2.1) w1 (fun j hj => w2 _ (by omega) (by omega))
    have hv2 : v ≤ 9999 := by
      have : 10 ^ (S.1.2.2 - S.1.2.1) ≤ 10 ^ 4 := Nat.pow_le_pow_right (by decide) w1
      omega
    refine opd_good G (G.1.2.2.2.1 (by omega)) (Or.inl ⟨rfl, ?_, ?_⟩) (by decide)
    · rw [e]; exact yle (a := 0) (by omega) (by omega)
    · rw [e]; exact yle (b := 9999) hv2 (by decide)
  · rw [if_neg c2]
    rcases c with c | ⟨c, c3, c4⟩
    · exact absurd c c2
    · exact opd_good G (G.1.2.2.2.1 (by omega)) (Or.inr (Or.inl ⟨rfl, c4⟩)) (by decide)
theorem not_good {r : Bool × PSt} (G : GW T l key S) (h3 : S.1.1 = 3) (h : GP T l key (nxS T l S) r) : GP T l key S (notR r) := by
  have lt := G.1.2.2.2.1 (by omega)
  have g2 := (nxS_w G.1).2
  obtain ⟨p1, p2, p3⟩ := h
  have ec : (nxS T l S).2 = S.2 := rfl
  rw [ec] at p3
  unfold notR
  by_cases c : r.1 = true
  · rw [if_pos c]
    obtain ⟨a1, a2, a3, a4⟩ := p3 c
    obtain ⟨ok, t2, ⟨o2, c2⟩, K2⟩ := r
    dsimp only at a1 a2 a3 a4 p2
    refine ⟨p1, by show _ ≤ t2.2.1; omega, fun _ => ⟨by show _ < t2.2.1; omega, ?_, okK_up a3 (Or.inr (Or.inr ⟨rfl, Or.inl rfl⟩)) (fun _ => ?_), ?_⟩⟩
    · show c2 + 1 + S.1.2.1 ≤ S.2.1.2 + t2.2.1
      omega
    · rw [if_pos rfl]
      show 1 ≤ hgK K2 c2
      omega
    · show hgK (up1 K2 c2 (2, 33)) (c2 + 1) = _
      rw [hgK_up1, if_pos rfl, if_pos rfl]
      exact a4
  · rw [if_neg c]
    exact ⟨p1, by have := G.1.1; omega, fun z => absurd z c⟩
theorem par_good {r : Bool × PSt} (G : GW T l key S) (h3 : S.1.1 = 3) (h : GP T l key (nxS T l S) r) : GP T l key S (parR T l r) := by
  have lt := G.1.2.2.2.1 (by omega)
  have g2 := (nxS_w G.1).2
  obtain ⟨p1, p2, p3⟩ := h
  have ec : (nxS T l S).2 = S.2 := rfl
  rw [ec] at p3
  unfold parR
  by_cases c : r.1 = true
  · rw [if_pos c]
    obtain ⟨a1, a2, a3, a4⟩ := p3 c
    by_cases c2 : r.2.1.1 = 3 ∧ T r.2.1.2.1 = 41
    · rw [if_pos c2]
      obtain ⟨b1, b2⟩ := nxS_w p1
      have b3 := p1.1
      have e2 : (nxS T l r.2).2 = r.2.2 := rfl
      refine ⟨b1, by show _ ≤ (nxS T l r.2).1.2.1; omega, fun _ => ⟨by show _ < (nxS T l r.2).1.2.1; omega, by show r.2.2.1.2 + S.1.2.1 ≤ S.2.1.2 + (nxS T l r.2).1.2.1; omega, a3, a4⟩⟩
    · rw [if_neg c2]
      exact ⟨p1, by show _ ≤ r.2.1.2.1; omega, fun z => Bool.noConfusion z⟩
  · rw [if_neg c]
    exact ⟨p1, by have := G.1.1; omega, fun z => absurd z c⟩
theorem pc_good : ∀ g pa no, GQ T l key (pcP T l key g pa no)
  | 0, pa, no => fun S G => by
    rw [pcP_0]
    by_cases c : atS T key S
    · rw [if_pos c]; exact at_good G c
    · rw [if_neg c]; exact ⟨G.1, Nat.le_refl _, fun z => Bool.noConfusion z⟩
  | g + 1, pa, no => fun S G => by
    rw [pcP_s]
    by_cases c : atS T key S
    · rw [if_pos c]; exact at_good G c
    · rw [if_neg c]
      by_cases c1 : (S.1.1 = 3 ∧ T S.1.2.1 = 33) ∧ no < 8
      · rw [if_pos c1]
        have ih : GQ T l key (pcP T l key g pa (no + 1)) := pc_good g pa (no + 1)
        exact not_good G c1.1.1 (ih _ (nxS_g G).1)
      · rw [if_neg c1]
        by_cases c2 : (S.1.1 = 3 ∧ T S.1.2.1 = 40) ∧ pa < 8
        · rw [if_pos c2]
          have ih : GQ T l key (pcP T l key g (pa + 1) no) := pc_good g (pa + 1) no
          exact par_good G c2.1.1 (lvN_good ih 5 _ (nxS_g G).1)
        · rw [if_neg c2]; exact ⟨G.1, Nat.le_refl _, fun z => Bool.noConfusion z⟩
end GOOD
