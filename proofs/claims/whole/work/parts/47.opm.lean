/-! KEEP, BACK. -/
section OPM
variable {L d : Nat} {F F' : Nat → Nat → Int32} {J : Nat → Nat → Int64} {σ σ' : aSg} {μ : aMem} {s s' xs : Nat → Int32}
theorem rf_no : ∀ t ∈ rfZ, t.1 ≠ 7 ∧ t.1 ≠ 25 ∧ t.1 ≠ 43 := by decide +kernel
theorem Lay_R (h : Lay L σ) (e2 : σ'.2 = σ.2) (e1 : ∀ a, a ≠ 7 → a ≠ 25 → a ≠ 43 → σ'.1 a = σ.1 a) : Lay L σ' := by
  obtain ⟨h1, h2, h3, h4, h5, h6⟩ := h
  unfold Lay
  rw [e2]
  exact ⟨h1, fun t ht => by rw [e1 t.1 (rf_no t ht).1 (rf_no t ht).2.1 (rf_no t ht).2.2]; exact h2 t ht, h3, h4, h5, h6⟩
theorem TX_R {c a : Nat} (e2 : σ'.2 = σ.2) (e1 : ∀ c, 124 ≤ c → σ'.1 c = σ.1 c) (X : TX F σ c s a) : TX F σ' c s a := by
  obtain ⟨k, W, ⟨c1, c2, c3⟩, y1, y2, y3, f1, f2, f3⟩ := X
  exact ⟨k, W, ⟨c1, by rw [e2]; exact c2, c3⟩, by rw [e2]; exact y1, by rw [e1 c c1]; exact y2, by rw [e2]; exact y3, f1, f2, f3⟩
theorem RW_R {p : Nat} (e2 : σ'.2 = σ.2) (e1 : ∀ c, 124 ≤ c → σ'.1 c = σ.1 c) (e0 : σ'.1 (p + 6) = σ.1 (p + 6)) (R : RW F σ p s) : RW F σ' p s := by
  obtain ⟨n, m, t, P, B, ⟨t1, t2, t3, t4, t5⟩, z⟩ := R
  exact ⟨n, m, t, P, B, ⟨t1, t2, t3, fun i hi => by rw [e0]; exact TX_R e2 e1 (t4 i hi), t5⟩, z⟩
theorem TA_R {p : Nat} (e2 : σ'.2 = σ.2) (e0 : σ'.1 (p + 6) = σ.1 (p + 6)) (R : TA σ p) : TA σ' p := by
  unfold TA
  rw [e2, e0]
  exact R
theorem PL_R {p : Nat} (h : PL σ p) (e2 : σ'.2 = σ.2) (h0 : σ'.1 p = σ.1 p) (h1 : σ'.1 (p + 1) = σ.1 (p + 1)) (h2 : σ'.1 (p + 2) = σ.1 (p + 2)) : PL σ' p := by
  unfold PL
  rw [e2, h0, h1, h2]
  exact h
abbrev sep2 (p r : Nat) : Prop := p + 17 < 100 ∧ r + 17 < 100 ∧ (p + 17 < r ∨ r + 17 < p)
theorem c_takeP {p r : Nat} (hp : PL σ p) (hr : PL σ r) (hs : sep2 p r) : ∀ (n k : Nat) (F : Nat → Nat → Int32), k + n = 10 → ∃ F', Rn (d + 1) 19 (10, [.ref p, .ref r, .int (nI k)], [], (F, J, σ)) = Rn (d + 1) 19 (10, [.ref p, .ref r, .int (nI 10)], [], (F', J, σ)) ∧ (∀ a, a < p + 8 + k ∨ p + 17 < a → F' a = F a) ∧ ∀ l, k ≤ l → l < 10 → ∀ j, j < 5 → F' (p + 8 + l) j = F (r + 8 + l) j
  | 0, k, F, e => ⟨F, by rw [show k = 10 by omega], fun a _ => rfl, fun l h1 h2 => absurd h2 (by omega)⟩
  | n + 1, k, F, e => by
    have hk : k < 10 := by omega
    obtain ⟨F1, eF1⟩ : ∃ F1, F1 = up1 F (p + 8 + k) (up1 (up1 (up1 (up1 (up1 (F (p + 8 + k)) 0 (F (r + 8 + k) 0)) 1 (F (r + 8 + k) 1)) 2 (F (r + 8 + k) 2)) 3 (F (r + 8 + k) 3)) 4 (F (r + 8 + k) 4)) := ⟨_, rfl⟩
    obtain ⟨F', g1, g2, g3⟩ := c_takeP hp hr hs n (k + 1) F1 (by omega)
    have o : ∀ a, a ≠ p + 8 + k → F1 a = F a := fun a ha => by rw [eF1, up1_ne _ _ ha]
    refine ⟨F', ?_, fun a ha => by rw [g2 a (by omega), o a (by omega)], fun l h1 h2 j hj => ?_⟩
    · rw [q_19_10, if_neg (show ¬ (10 : Int32) ≤ nI k from nle (a := 10) hk (by decide))]
      have ib : inb (nI k) 10 := inb_nI hk (by decide)
      simp only [mS, mR, hp.y0, hp.z0, hp.y1, hr.y0, hr.z0, hr.y1, ix_nI (show k < 2 ^ 31 by omega), hp.zk hk, hr.zk hk, hp.yk hk, if_true]
      rw [if_pos ⟨by decide, by decide, ib⟩, if_pos ⟨by decide, by decide, ib⟩, if_pos ⟨trivial, by omega⟩, c_partTake (hp.yk hk) (hr.yk hk) (by omega), Option.bind_some, nI_s, ← eF1]
      exact g1
    · by_cases el : l = k
      · subst el
        rw [g2 (p + 8 + l) (by omega), eF1, up1_s]
        match j, hj with
        | 0, _ => rfl
        | 1, _ => rfl
        | 2, _ => rfl
        | 3, _ => rfl
        | 4, _ => rfl
      · rw [g3 l (by omega) h2 j hj, o _ (by omega)]
theorem c_bookTake {p r : Nat} (hp : PL σ p) (hr : PL σ r) (hs : sep2 p r) : ∃ F', cV d 4 [.ref (p + 2), .ref (r + 2)] (F, J, σ) = some (F', J, σ) ∧ (∀ a, a < p + 2 ∨ p + 5 < a → F' a = F a) ∧ F' (p + 2) 3 = F (r + 2) 3 ∧ ∀ j, j < 20 → F' (p + 3) j = F (r + 3) j ∧ F' (p + 4) j = F (r + 4) j ∧ F' (p + 5) j = F (r + 5) j := by
  obtain ⟨s1, s2, s3⟩ := hs
  refine ⟨up1 (up1 (up1 (up1 F (p + 2) (up1 (F (p + 2)) 3 (F (r + 2) 3))) (p + 3) (va_cpy (F (r + 3)) (F (p + 3)) 0 0 20)) (p + 4) (va_cpy (F (r + 4)) (F (p + 4)) 0 0 20)) (p + 5) (va_cpy (F (r + 5)) (F (p + 5)) 0 0 20), ?_, ?_, ?_, ?_⟩
  · refine i_4 (v := none) ?_
    rw [q_4_0]
    have n1 : ∀ i j, j < 6 → i < 6 → r + i ≠ p + j := fun i j _ _ => by omega
    simp only [mS, mR, mF, hp.y2, hr.y2, hp.b0, hp.b1, hp.b2, hr.b0, hr.b1, hr.b2, hp.y3, hp.y4, hp.y5, hr.y3, hr.y4, hr.y5, setF_up, cpyF_mk, up1_s, up1_pn, Nat.reduceEqDiff, if_false, if_true, up1_n _ _ (n1 3 2 (by decide) (by decide)), up1_n _ _ (n1 4 2 (by decide) (by decide)), up1_n _ _ (n1 4 3 (by decide) (by decide)), up1_n _ _ (n1 5 2 (by decide) (by decide)), up1_n _ _ (n1 5 3 (by decide) (by decide)), up1_n _ _ (n1 5 4 (by decide) (by decide))]
    rw [if_pos ⟨trivial, trivial, by decide⟩, if_pos ⟨trivial, trivial, by decide⟩, if_pos ⟨trivial, trivial, by decide⟩]
    rfl
  · intro a ha
    rw [up1_ne _ _ (by omega), up1_ne _ _ (by omega), up1_ne _ _ (by omega), up1_ne _ _ (by omega)]
  · rw [up1_ne _ _ (by omega), up1_ne _ _ (by omega), up1_ne _ _ (by omega), up1_s, up1_s]
  · intro j hj
    rw [up1_ne _ _ (show p + 3 ≠ p + 5 by omega), up1_ne _ _ (show p + 3 ≠ p + 4 by omega), up1_s, up1_ne _ _ (show p + 4 ≠ p + 5 by omega), up1_s, up1_s]
    have hc : ∀ f g : Nat → Int32, va_cpy f g 0 0 20 j = f j := fun f g => by
      unfold va_cpy
      rw [if_pos (by omega), show 0 + (j - 0) = j by omega]
    exact ⟨hc _ _, hc _ _, hc _ _⟩
theorem c_takeT {p r : Nat} (hs : sep2 p r) : ∀ (n k : Nat) (σ : aSg), PL σ p → PL σ r → TA σ r → k + n = 14 → ∃ σ', Rn (d + 1) 19 (58, [.ref p, .ref r, .int (nI k)], [], (F, J, σ)) = Rn (d + 1) 19 (58, [.ref p, .ref r, .int (nI 14)], [], (F, J, σ')) ∧ σ'.2 = σ.2 ∧ (∀ a, a ≠ p + 6 → σ'.1 a = σ.1 a) ∧ (∀ l, l < k → σ'.1 (p + 6) l = σ.1 (p + 6) l) ∧ ∀ l, k ≤ l → l < 14 → σ'.1 (p + 6) l = σ.1 (r + 6) l
  | 0, k, σ, hp, hr, ta, e => ⟨σ, by rw [show k = 14 by omega], rfl, fun a _ => rfl, fun l _ => rfl, fun l h1 h2 => absurd h2 (by omega)⟩
  | n + 1, k, σ, hp, hr, ta, e => by
    have hk : k < 14 := by omega
    obtain ⟨s1, s2, s3⟩ := hs
    have hp' : PL (up1 σ.1 (p + 6) (up1 (σ.1 (p + 6)) k (σ.1 (r + 6) k)), σ.2) p := PL_R hp rfl (up1_n _ _ (by omega)) (up1_n _ _ (by omega)) (up1_n _ _ (by omega))
    have hr' : PL (up1 σ.1 (p + 6) (up1 (σ.1 (p + 6)) k (σ.1 (r + 6) k)), σ.2) r := PL_R hr rfl (up1_n _ _ (by omega)) (up1_n _ _ (by omega)) (up1_n _ _ (by omega))
    have o : ∀ a, a ≠ p + 6 → up1 σ.1 (p + 6) (up1 (σ.1 (p + 6)) k (σ.1 (r + 6) k)) a = σ.1 a := fun a ha => up1_n _ _ ha
    obtain ⟨σ', g1, g2, g3, g4, g5⟩ := c_takeT ⟨s1, s2, s3⟩ n (k + 1) (up1 σ.1 (p + 6) (up1 (σ.1 (p + 6)) k (σ.1 (r + 6) k)), σ.2) hp' hr' (TA_R (σ := σ) rfl (o (r + 6) (by omega)) ta) (by omega)
    refine ⟨σ', ?_, g2, fun a ha => (g3 a ha).trans (o a ha), fun l hl => ?_, fun l h1 h2 => ?_⟩
    · rw [q_19_58, if_neg (show ¬ (14 : Int32) ≤ nI k from nle (a := 14) hk (by decide))]
      have ib : inb (nI k) 14 := inb_nI hk (by decide)
      simp only [mS, mR, hp.y0, hp.z3, hp.y6, hr.y0, hr.z3, hr.y6, ix_nI (show k < 2 ^ 31 by omega), if_true]
      have tk : σ.1 (r + 6) k = 999999 ∨ (σ.1 (r + 6) k < 999999 ∧ (σ.2.1 (σ.1 (r + 6) k)).1 = ecl 15) := by
        rcases ta k hk with q | q
        · exact Or.inl q
        · exact Or.inr ⟨by omega, q.2⟩
      rw [if_pos ⟨by decide, by decide, ib⟩, if_pos ⟨by decide, by decide, ib, tk⟩, nI_s]
      exact g1
    · rw [g4 l (by omega)]
      show up1 σ.1 (p + 6) (up1 (σ.1 (p + 6)) k (σ.1 (r + 6) k)) (p + 6) l = _
      rw [up1_s, up1_n _ _ (by omega)]
    · by_cases el : l = k
      · rw [el, g4 k (by omega)]
        show up1 σ.1 (p + 6) (up1 (σ.1 (p + 6)) k (σ.1 (r + 6) k)) (p + 6) k = _
        rw [up1_s, up1_s]
      · rw [g5 l (by omega) h2]
        show up1 σ.1 (p + 6) (up1 (σ.1 (p + 6)) k (σ.1 (r + 6) k)) (r + 6) l = _
        rw [o _ (by omega)]
theorem c_take {p r : Nat} (hp : PL σ p) (hr : PL σ r) (hs : sep2 p r) (ta : TA σ r) : ∃ F' σ', cV (d + 1) 19 [.ref p, .ref r] (F, J, σ) = some (F', J, σ') ∧ σ'.2 = σ.2 ∧ (∀ a, a ≠ p + 6 → σ'.1 a = σ.1 a) ∧ TA σ' p ∧ (∀ a, a < p ∨ p + 17 < a → F' a = F a) ∧ F' p 1 = F r 1 ∧ ∀ s, RW F σ r s → RW F' σ' p s := by
  have hs' := hs
  obtain ⟨s1, s2, s3⟩ := hs'
  obtain ⟨F1, eF1⟩ : ∃ F1, F1 = up1 F p (up1 (F p) 1 (F r 1)) := ⟨_, rfl⟩
  obtain ⟨F2, a1, a2, a3⟩ := c_takeP (d := d) (J := J) hp hr hs 10 0 F1 rfl
  obtain ⟨F3, b1, b2, b3, b4⟩ := c_bookTake (d := d) (J := J) (F := F2) hp hr hs
  obtain ⟨F4, eF4⟩ : ∃ F4, F4 = up1 F3 p (up1 (F3 p) 4 (F3 r 4)) := ⟨_, rfl⟩
  obtain ⟨σ', c1, c2, c3, -, c5⟩ := c_takeT (d := d) (J := J) (F := F4) hs 14 0 σ hp hr ta rfl
  have hp' : PL σ' p := PL_R hp c2 (c3 _ (by omega)) (c3 _ (by omega)) (c3 _ (by omega))
  have hr' : PL σ' r := PL_R hr c2 (c3 _ (by omega)) (c3 _ (by omega)) (c3 _ (by omega))
  obtain ⟨F5, eF5⟩ : ∃ F5, F5 = up1 (up1 F4 (p + 7) (va_cpy (F4 (r + 7)) (F4 (p + 7)) 0 0 3)) p (up1 (F4 p) 6 (F4 r 6)) := ⟨_, rfl⟩
  have oo : ∀ a, a < p ∨ p + 17 < a → F5 a = F a := fun a ha => by
    rw [eF5, up1_ne _ _ (by omega), up1_ne _ _ (by omega), eF4, up1_ne _ _ (by omega), b2 a (by omega), a2 a (by omega), eF1, up1_ne _ _ (by omega)]
  have or4 : ∀ a, a < p ∨ p + 17 < a → F4 a = F a := fun a ha => by
    rw [eF4, up1_ne _ _ (by omega), b2 a (by omega), a2 a (by omega), eF1, up1_ne _ _ (by omega)]
  have or2 : ∀ a, a < p ∨ p + 17 < a → F2 a = F a := fun a ha => by
    rw [a2 a (by omega), eF1, up1_ne _ _ (by omega)]
  have f3p : F3 p = up1 (F p) 1 (F r 1) := by rw [b2 p (by omega), a2 p (by omega), eF1, up1_s]
  have f3r : F3 r = F r := by rw [b2 r (by omega), or2 r (by omega)]
  have f4p : F4 p = up1 (up1 (F p) 1 (F r 1)) 4 (F r 4) := by rw [eF4, up1_s, f3p, f3r]
  have f5p : F5 p = up1 (up1 (up1 (F p) 1 (F r 1)) 4 (F r 4)) 6 (F r 6) := by rw [eF5, up1_s, f4p, or4 r (by omega)]
  have f5k : ∀ k, k < 10 → ∀ j, j < 5 → F5 (p + 8 + k) j = F (r + 8 + k) j := fun k hk j hj => by
    rw [eF5, up1_ne _ _ (by omega), up1_ne _ _ (by omega), eF4, up1_ne _ _ (by omega), b2 _ (by omega), a3 k (by omega) hk j hj, eF1, up1_ne _ _ (by omega)]
  have f5b : F5 (p + 2) 3 = F (r + 2) 3 := by
    rw [eF5, up1_ne _ _ (by omega), up1_ne _ _ (by omega), eF4, up1_ne _ _ (by omega), b3, or2 _ (by omega)]
  have f5l : ∀ j, j < 20 → F5 (p + 3) j = F (r + 3) j ∧ F5 (p + 4) j = F (r + 4) j ∧ F5 (p + 5) j = F (r + 5) j := fun j hj => by
    rw [eF5, up1_ne _ _ (show p + 3 ≠ p by omega), up1_ne _ _ (show p + 3 ≠ p + 7 by omega), up1_ne _ _ (show p + 4 ≠ p by omega), up1_ne _ _ (show p + 4 ≠ p + 7 by omega), up1_ne _ _ (show p + 5 ≠ p by omega), up1_ne _ _ (show p + 5 ≠ p + 7 by omega), eF4, up1_ne _ _ (show p + 3 ≠ p by omega), up1_ne _ _ (show p + 4 ≠ p by omega), up1_ne _ _ (show p + 5 ≠ p by omega)]
    have := b4 j hj
    rw [or2 (r + 3) (by omega), or2 (r + 4) (by omega), or2 (r + 5) (by omega)] at this
    exact this
  have f5c : ∀ j, j < 3 → F5 (p + 7) j = F (r + 7) j := fun j hj => by
    rw [eF5, up1_ne _ _ (by omega), up1_s, or4 (r + 7) (by omega)]
    unfold va_cpy
    rw [if_pos (by omega), show 0 + (j - 0) = j by omega]
  refine ⟨F5, σ', ?_, c2, c3, fun i hi => ?_, oo, ?_, fun s R => ?_⟩
  · refine i_19 (v := none) ?_
    rw [q_19_0]
    simp only [mS, mF, hp.y0, hr.y0, setF_up, if_true]
    rw [← eF1]
    refine (show _ = _ from a1).trans ?_
    rw [q_19_10, if_pos (by decide)]
    simp only [mS, mR, mF, hp.y0, hr.y0, hp.z2, hr.z2, hp.y2, if_true]
    rw [if_pos ⟨trivial, by omega⟩, b1, Option.bind_some]
    simp only [mS, mF, setF_up, hp.y0, hr.y0, if_true]
    rw [← eF4]
    refine (show _ = _ from c1).trans ?_
    rw [q_19_58, if_pos (by decide)]
    simp only [mS, mR, mF, hp'.y0, hr'.y0, hp'.z5, hr'.z5, hp'.y7, hr'.y7, setF_up, cpyF_mk, if_true, up1_n _ _ (show p ≠ p + 7 by omega), up1_n _ _ (show r ≠ p + 7 by omega)]
    rw [if_pos ⟨trivial, trivial, by decide⟩, eF5]
    rfl
  · rw [c5 i (by omega) hi, c2]; exact ta i hi
  · rw [f5p]; rfl
  · obtain ⟨n, m, t, ⟨p1, p2, p3, p4, p5⟩, ⟨q1, q2, q3, q4⟩, ⟨t1, t2, t3, t4, t5⟩, z⟩ := R
    refine ⟨n, m, t, ⟨p1, p2, by rw [f5p]; exact p3, fun k hk j hj => by rw [f5k k (by omega) j hj]; exact p4 k hk j hj, p5⟩, ⟨q1, q2, by rw [f5b]; exact q3, fun i hi => ?_⟩, ⟨t1, t2, by rw [f5p]; exact t3, fun i hi => ?_, fun k hk => by rw [f5c k hk]; exact t5 k hk⟩, by rw [f5p]; exact z⟩
    · obtain ⟨l1, l2, l3⟩ := f5l i (by omega)
      rw [l1, l2, l3]
      exact q4 i hi
    · rw [c5 i (by omega) (by omega)]
      exact TX_R c2 (fun c hc => c3 c (by omega)) (TX_cg (fun x h1 h2 => oo x (by omega)) (fun j _ => rfl) (t4 i hi))
theorem m_aside {a b : Nat} (ha : σ.2.1 a = (10, 3114)) (hb : σ.2.1 b = (10, 3114)) (hab : a ≠ b) (c : Nat) : cV d 225 [.ref c, .ref a, .ref b] (F, J, σ) = some (up1 F b (fun j => if j < 2914 then F a j else F b j), J, σ) := by
  refine i_225 (v := none) ?_
  rw [q_225_0]
  have go : ∀ n k, k + n = 2914 → Rn d 225 (2, [.ref c, .ref a, .ref b, .int (nI k)], [], (up1 F b (fun j => if j < k then F a j else F b j), J, σ)) = some (none, (up1 F b (fun j => if j < 2914 then F a j else F b j), J, σ)) := by
    intro n
    induction n with
    | zero =>
      intro k e
      rw [q_225_2, show k = 2914 by omega, if_pos (by decide)]
    | succ n ih =>
      intro k e
      rw [q_225_2, if_neg (show ¬ (2914 : Int32) ≤ nI k from nle (a := 2914) (by omega) (by decide)), rd_k ha (by omega) (by decide), Option.bind_some, up1_ne _ _ hab]
      simp only [mS, hb, setF_up, up1_s, up1_up1, ix_nI (show k < 2 ^ 31 by omega)]
      rw [if_pos ⟨trivial, inb_nI (by omega) (by decide)⟩, nI_s]
      have e1 : up1 (fun j => if j < k then F a j else F b j) k (F a k) = fun j => if j < k + 1 then F a j else F b j := by
        funext j
        unfold up1
        by_cases c1 : j = k
        · rw [if_pos c1, if_pos (by omega), c1]
        · rw [if_neg c1]
          show (if j < k then F a j else F b j) = _
          by_cases c2 : j < k
          · rw [if_pos c2, if_pos (by omega)]
          · rw [if_neg c2, if_neg (by omega)]
      rw [e1]
      exact ih (k + 1) (by omega)
  have e0 : up1 F b (fun j => if j < 0 then F a j else F b j) = F := by
    have : (fun j => if j < 0 then F a j else F b j) = F b := by
      funext j
      rw [if_neg (by omega)]
    rw [this, up1_self]
  have g := go 2914 0 (by omega)
  rw [e0] at g
  exact g
theorem op_keep : OpI (Inv L xs) 119 227 0 := op0 fun q F J σ hq I => by
  have h := I.lay
  have hp := PL_1 h
  have hr := PL_19 h
  obtain ⟨F1, σ1, e1, e2, e3, e4, e5, e6, e7⟩ := c_take (d := 98) (F := F) (J := J) hr hp (by decide) I.ta.1
  have R1 := e7 _ I.rw
  have h1 : Lay L σ1 := Lay_R h e2 (fun a _ a2 _ => e3 a a2)
  have hp1 := PL_1 h1
  obtain ⟨n, m, t, P, B, T, z⟩ := I.rw
  obtain ⟨F2, eF2⟩ : ∃ F2, F2 = up1 F1 0 (up1 (F1 0) 3 1) := ⟨_, rfl⟩
  have o2 : ∀ a, a ≠ 0 → (a < 19 ∨ 19 + 17 < a) → F2 a = F a := fun a h0 h9 => by rw [eF2, up1_ne _ _ h0, e5 a h9]
  obtain ⟨F3, eF3⟩ : ∃ F3, F3 = up1 (up1 F2 99 (up1 (F2 99) 3 1)) 101 (fun j => if j < 2914 then F2 100 j else F2 101 j) := ⟨_, rfl⟩
  refine ⟨nI n, F2, J, σ1, F3, J, σ1, ?_, h1, o2 _ (by decide) (by omega), ?_, ?_⟩
  · refine i_119 (d := 99) ?_
    rw [q_119_0 99]
    simp only [mS, mR, Y_0 h, Z_0_1 h, Z_0_0 h, hr.y0, if_true]
    rw [if_pos ⟨trivial, by decide⟩, e1, Option.bind_some]
    simp only [mS, mR, mF, Y_0 h1, Z_0_0 h1, hp1.y0, setF_up, up1_n _ _ (show 1 ≠ 0 by decide), if_true]
    rw [e5 1 (by decide), P.2.2.1, eF2]
  · refine i_227 (d := 99) ?_
    rw [q_227_0 99]
    simp only [mS, mR, Y_99 h1, Z_99_0 h1, Z_99_1 h1, setF_up, if_true]
    rw [if_pos ⟨trivial, by decide⟩, m_aside (Y_100 h1) (Y_101 h1) (by decide), Option.bind_some]
    simp only [mS, mR, Y_99 h1, Z_99_0 h1, if_true, up1_n _ _ (show 100 ≠ 99 by decide), up1_n _ _ (show 101 ≠ 99 by decide)]
    rw [show rdI (up1 (up1 F2 99 (up1 (F2 99) 3 1)) 101 (fun j => if j < 2914 then F2 100 j else F2 101 j), J, σ1) 100 0 = some (F2 100 0) from rd_100 (i := 0) h1 (by decide), o2 100 (by decide) (by omega), P.2.1, eF3, o2 100 (by decide) (by omega)]
    rfl
  · have o3 : ∀ a, a ≠ 99 → a ≠ 101 → F3 a = F2 a := fun a a1 a2 => by rw [eF3, up1_ne _ _ a2, up1_ne _ _ a1]
    have o : ∀ a, a ≠ 0 → (a < 19 ∨ 19 + 17 < a) → a ≠ 99 → a ≠ 101 → F3 a = F a := fun a a0 a1 a2 a3 => by rw [o3 a a2 a3, o2 a a0 a1]
    have f0 : ∀ j, j ≠ 3 → F3 0 j = F 0 j := fun j hj => by rw [o3 0 (by decide) (by decide), eF2, up1_s, up1_n _ _ hj, e5 0 (by decide)]
    have f9 : ∀ j, j ≠ 3 → F3 99 j = F 99 j := fun j hj => by rw [eF3, up1_ne _ _ (by decide), up1_s, up1_n _ _ hj, o2 99 (by decide) (by decide)]
    have g0 : F3 0 3 = 1 := by rw [o3 0 (by decide) (by decide), eF2, up1_s, up1_s]
    have g9 : F3 99 3 = 1 := by rw [eF3, up1_ne _ _ (by decide), up1_s, up1_s]
    have hN := I.nn
    refine ⟨⟨h1, by rw [o 1000014 (by omega) (by omega) (by omega) (by omega)]; exact I.xz, by rw [e2]; omega, by rw [e2]; omega⟩, ?_, ⟨by rw [g0, g9], Or.inr g9, fun _ => ?_⟩, TPE_cg (f0 7 (by decide)) (f9 20 (by decide)) (o 67 (by decide) (by omega) (by decide) (by decide)) (o 117 (by decide) (by omega) (by decide) (by decide)) I.tp, WTE_cg (f0 9 (by decide)) (f9 36 (by decide)) (o 68 (by decide) (by omega) (by decide) (by decide)) (o 122 (by decide) (by omega) (by decide) (by decide)) I.wt, fun i hi => SH_cg (o _ (by omega) (by omega) (by omega) (by omega)) (o _ (by omega) (by omega) (by omega) (by omega)) (o _ (by omega) (by omega) (by omega) (by omega)) (o _ (by omega) (by omega) (by omega) (by omega)) (o _ (by omega) (by omega) (by omega) (by omega)) (I.sh i hi), fun i hi => SL_cg (fun a ha => o a (by omega) (by omega) (by omega) (by omega)) (I.sl i hi), TA_R e2 (e3 _ (by decide)) I.ta.1, e4, TA_R e2 (e3 _ (by decide)) I.ta.2.2⟩
    · rw [o 100 (by decide) (by omega) (by decide) (by decide)]
      exact RW_R e2 (fun c hc => e3 c (by omega)) (e3 _ (by decide)) (RW_cg (fun a h1 h2 => o a (by omega) (by omega) (by omega) (by omega)) (fun a h1 h2 => o a (by omega) (by omega) (by omega) (by omega)) (fun j _ => rfl) I.rw)
    · have e101 : ∀ j, j < 2914 → F3 101 j = F 100 j := fun j hj => by
        rw [eF3, up1_s, ← o2 100 (by decide) (by omega)]
        exact if_pos hj
      refine RW_cg (fun a h1 h2 => ?_) (fun a h1 h2 => ?_) e101 R1
      · rw [o3 a (by omega) (by omega), eF2, up1_ne _ _ (by omega)]
      · rw [o3 a (by omega) (by omega), eF2, up1_ne _ _ (by omega)]
theorem op_back : OpI (Inv L xs) 120 228 0 := op0 fun q F J σ hq I => by
  have h := I.lay
  have hp := PL_1 h
  have hr := PL_19 h
  obtain ⟨i1, i2, i3⟩ := I.im
  by_cases hk : F 99 3 = 0
  · refine ⟨-1000000002, F, J, σ, F, J, σ, ?_, h, rfl, ?_, I.up⟩
    · refine i_120 (d := 99) ?_
      rw [q_120_0 99]
      simp only [mS, mF, Y_0 h, if_true]
      rw [i1, if_pos hk]
    · refine i_228 (d := 99) ?_
      rw [q_228_0 99]
      simp only [mS, mF, Y_99 h, if_true]
      rw [if_pos hk]
  · have hk1 : F 99 3 = 1 := by rcases i2 with c | c; exact absurd c hk; exact c
    obtain ⟨F1, σ1, e1, e2, e3, e4, e5, e6, e7⟩ := c_take (d := 98) (F := F) (J := J) hp hr (by decide) I.ta.2.1
    have R0 := i3 hk1
    have R1 := e7 _ R0
    have h1 : Lay L σ1 := Lay_R h e2 (fun a a1 _ _ => e3 a a1)
    have hp1 := PL_1 h1
    obtain ⟨n, m, t, P, B, T, z⟩ := R0
    obtain ⟨F3, eF3⟩ : ∃ F3, F3 = up1 F1 100 (fun j => if j < 2914 then F1 101 j else F1 100 j) := ⟨_, rfl⟩
    refine ⟨nI n, F1, J, σ1, F3, J, σ1, ?_, h1, e5 _ (by decide), ?_, ?_⟩
    · refine i_120 (d := 99) ?_
      rw [q_120_0 99]
      simp only [mS, mR, mF, Y_0 h, Z_0_1 h, Z_0_0 h, hp.y0, if_true]
      rw [i1, if_neg hk, if_pos ⟨trivial, by decide⟩, e1, Option.bind_some]
      simp only [mS, mR, mF, Y_0 h1, Z_0_0 h1, hp1.y0, if_true]
      rw [e6, P.2.2.1]
    · refine i_228 (d := 99) ?_
      rw [q_228_0 99]
      simp only [mS, mR, mF, Y_99 h1, Z_99_0 h1, Z_99_1 h1, if_true]
      rw [e5 99 (by decide), if_neg hk, if_pos ⟨trivial, by decide⟩, m_aside (Y_101 h1) (Y_100 h1) (by decide), Option.bind_some]
      simp only [mS, mR, Y_99 h1, Z_99_0 h1, if_true]
      rw [show rdI (up1 F1 100 (fun j => if j < 2914 then F1 101 j else F1 100 j), J, σ1) 100 0 = some (F1 101 0) from rd_100 (i := 0) h1 (by decide), e5 101 (by decide), P.2.1, eF3, e5 101 (by decide)]
      rfl
    · have o : ∀ a, 18 < a → a ≠ 100 → F3 a = F a := fun a a1 a2 => by rw [eF3, up1_ne _ _ a2, e5 a (by omega)]
      have f0 : F3 0 = F 0 := by rw [eF3, up1_ne _ _ (by decide), e5 0 (by decide)]
      have hN := I.nn
      refine ⟨⟨h1, by rw [o 1000014 (by omega) (by omega)]; exact I.xz, by rw [e2]; omega, by rw [e2]; omega⟩, ?_, ?_, TPE_cg (by rw [f0]) (by rw [o 99 (by decide) (by decide)]) (o 67 (by decide) (by decide)) (o 117 (by decide) (by decide)) I.tp, WTE_cg (by rw [f0]) (by rw [o 99 (by decide) (by decide)]) (o 68 (by decide) (by decide)) (o 122 (by decide) (by decide)) I.wt, fun i hi => SH_cg (o _ (by omega) (by omega)) (o _ (by omega) (by omega)) (o _ (by omega) (by omega)) (o _ (by omega) (by omega)) (o _ (by omega) (by omega)) (I.sh i hi), fun i hi => SL_cg (fun a ha => o a (by omega) (by omega)) (I.sl i hi), e4, TA_R e2 (e3 _ (by decide)) I.ta.2.1, TA_R e2 (e3 _ (by decide)) I.ta.2.2⟩
      · have e101 : ∀ j, j < 2914 → F3 100 j = F 101 j := fun j hj => by
          rw [eF3, up1_s, ← e5 101 (by decide)]
          exact if_pos hj
        refine RW_cg (fun a h1 h2 => ?_) (fun a h1 h2 => ?_) e101 R1
        · rw [eF3, up1_ne _ _ (by omega)]
        · rw [eF3, up1_ne _ _ (by omega)]
      · have I2 : IM F σ1 := ⟨i1, i2, fun e => RW_R e2 (fun c hc => e3 c (by omega)) (e3 _ (by decide)) (i3 e)⟩
        exact IM_cg (by rw [f0]) (by rw [o 99 (by decide) (by decide)]) (fun a ha => o a (by omega) (by omega)) I2
end OPM
