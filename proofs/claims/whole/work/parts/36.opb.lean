/-! BOOK, PART, DEAL. -/
section OPB
variable {L d : Nat} {F F' : Nat → Nat → Int32} {J : Nat → Nat → Int64} {σ : aSg} {μ : aMem} {s s' xs : Nat → Int32}
theorem RW_wr {p n t m' : Nat} (P : PR F p s n) (T : TR F σ p s t) (z : F p 6 = s 3) (B' : BR F' p s' m') (hF : ∀ x, x < p + 2 ∨ p + 5 < x → F' x = F x) (hp : p + 17 < 124) (hs : ∀ j, j ≠ 1 → j < 54 ∨ 114 ≤ j → s' j = s j) : RW F' σ p s' := by
  refine ⟨n, m', t, ?_, B', ?_, ?_⟩
  · obtain ⟨p1, p2, p3, p4, p5⟩ := P
    refine ⟨p1, (hs 0 (by omega) (by omega)).trans p2, by rw [hF p (by omega)]; exact p3, fun k hk j hj => ?_, fun k hk => ?_⟩
    · rw [hF _ (by omega), hs _ (by omega) (by omega)]; exact p4 k hk j hj
    · have := p5 k hk
      unfold PK at this ⊢
      rw [hs _ (by omega) (by omega), hs _ (by omega) (by omega), hs _ (by omega) (by omega), hs _ (by omega) (by omega), hs _ (by omega) (by omega)]
      exact this
  · obtain ⟨t1, t2, t3, t4, t5⟩ := T
    refine ⟨t1, (hs 2 (by omega) (by omega)).trans t2, by rw [hF _ (by omega)]; exact t3, fun i hi => TX_cg (fun x h1 h2' => hF x (by omega)) (fun j hj => hs _ (by omega) (by omega)) (t4 i hi), fun k' hk' => ?_⟩
    rw [hF _ (by omega), t5 k' hk', cntS_cg t _ (fun i hi => hs _ (by omega) (by omega))]
  · rw [hF _ (by omega), hs _ (by omega) (by omega)]; exact z
theorem up1_ne (F : Nat → Nat → Int32) (f : Nat → Int32) {a b : Nat} (h : b ≠ a) : up1 F a f b = F b := up1_n _ _ h
theorem RW_up {p a : Nat} {f : Nat → Int32} (R : RW F σ p s) (h : a < p ∨ p + 17 < a) (h2 : a < 124) : RW (up1 F a f) σ p s := RW_cg (fun x h1 h3 => up1_ne _ _ (by omega)) (fun x h1 h3 => up1_ne _ _ (by omega)) (fun j _ => rfl) R
def boS (m : Nat) (a b c : Int32) : Int32 := if LnK a b c then nI (if m = 20 then 20 else m + 1) else -1000000001
theorem c_book (h : Lay L σ) {m : Nat} (B : BR F 1 s m) {a b c : Int32} (hl : LnK a b c) : ∃ F', cI 100 88 [.ref 0, .int a, .int b, .int c] (F, J, σ) = some (boS m a b c, (F', J, σ)) ∧ BR F' 1 (wrS s m a b c) (if m = 20 then 20 else m + 1) ∧ ∀ x, x < 1 + 2 ∨ 1 + 5 < x → F' x = F x := by
  have hp := PL_1 h
  obtain ⟨F', e, B', hF⟩ := c_addLine (d := 99) (J := J) hp B hl
  refine ⟨F', ?_, B', hF⟩
  refine i_88 (d := 99) ?_
  rw [q_88_0 99, c_isSort (d := 98)]
  simp only [c_within, Option.bind_some, b2i_0, mS, mR, mF, Y_0 h, Z_0_0 h, hp.y0, hp.z2, hp.y2]
  have hl' := hl
  obtain ⟨l1, l2, l3⟩ := hl'
  rw [if_neg (not_not_intro l1), if_neg (not_not_intro l2), if_neg (not_not_intro l3), if_pos trivial, if_pos trivial, if_pos ⟨trivial, by decide⟩, e]
  simp only [Option.bind_some, mS, mR, mF, Y_0 h, Z_0_0 h, hp.y0, hp.z2, hp.y2, B'.2.2.1, if_true]
  unfold boS
  rw [if_pos hl]
theorem c_book_no (h : Lay L σ) {m : Nat} {a b c : Int32} (hl : ¬ LnK a b c) : cI 100 88 [.ref 0, .int a, .int b, .int c] (F, J, σ) = some (boS m a b c, (F, J, σ)) := by
  refine i_88 (d := 99) ?_
  rw [q_88_0 99, c_isSort (d := 98)]
  simp only [c_within, Option.bind_some, b2i_0]
  unfold boS
  rw [if_neg hl]
  by_cases l1 : 0 ≤ a ∧ a ≤ 2
  · rw [if_neg (not_not_intro l1)]
    by_cases l2 : 0 ≤ b ∧ b ≤ 9999
    · rw [if_neg (not_not_intro l2)]
      rw [if_pos (fun l3 => hl ⟨l1, l2, l3⟩)]
    · rw [if_pos l2]
  · rw [if_pos l1]
theorem m_in_9999 (x : Int32) : cI d 133 [.long x.toInt64, .long 0, .long 9999] μ = some (b2i (0 ≤ x ∧ x ≤ 9999), μ) := m_in x 0 9999
theorem m_book (h : Lay L σ) {m : Nat} (b1 : m ≤ 20) (b2 : F 100 1 = nI m) (a b c : Int32) : cI 100 165 [.ref 99, .int a, .int b, .int c] (F, J, σ) = some (boS m a b c, (if LnK a b c then up1 F 100 (wrS (F 100) m a b c) else F, J, σ)) := by
  refine i_165 (d := 99) ?_
  rw [q_165_0 99, m_isSort]
  simp only [m_in_9999, Option.bind_some, b2i_0, mS, mR, Y_99 h, Z_99_0 h]
  unfold boS
  by_cases hl : LnK a b c
  · have hl' := hl
    obtain ⟨l1, l2, l3⟩ := hl'
    rw [if_neg (not_not_intro l1), if_neg (not_not_intro l2), if_neg (not_not_intro l3), if_pos ⟨trivial, by decide⟩, m_writes h b1 b2]
    simp only [Option.bind_some, mS, mR, Y_99 h, Z_99_0 h]
    rw [if_pos trivial, show rdI (up1 F 100 (wrS (F 100) m a b c), J, σ) 100 1 = some (up1 F 100 (wrS (F 100) m a b c) 100 1) from rd_100 (i := 1) h (by decide), up1_s]
    have e : wrS (F 100) m a b c 1 = nI (if m = 20 then 20 else m + 1) := by
      unfold wrS
      by_cases e20 : m = 20
      · rw [if_pos e20, if_pos e20]; unfold ln3; rw [up1_s]
      · rw [if_neg e20, if_neg e20]; unfold ln3; rw [up1_s]
    rw [e, if_pos hl, if_pos hl]
    rfl
  · rw [if_neg hl, if_neg hl]
    by_cases l1 : 0 ≤ a ∧ a ≤ 2
    · rw [if_neg (not_not_intro l1)]
      by_cases l2 : 0 ≤ b ∧ b ≤ 9999
      · rw [if_neg (not_not_intro l2)]
        rw [if_pos (fun l3 => hl ⟨l1, l2, l3⟩)]
      · rw [if_pos l2]
    · rw [if_pos l1]
theorem op_book : OpI (Inv L xs) 88 165 3 := op3 fun q F J σ a b c hq I => by
  obtain ⟨n, m, t, P, B, T, z⟩ := I.rw
  by_cases hl : LnK a b c
  · obtain ⟨F1, e1, B1, hF⟩ := c_book (J := J) I.lay B hl
    have e100 : F1 100 = F 100 := hF 100 (by omega)
    have e2 := m_book (F := F1) (J := J) I.lay B.1 (by rw [e100]; exact B.2.1) a b c
    rw [if_pos hl, e100] at e2
    refine ⟨_, _, _, _, _, _, _, e1, I.lay, by rw [hF _ (by omega)], e2, ?_⟩
    refine IV_row I (fun x hx => by rw [up1_ne _ _ (by omega), hF x (by omega)]) (by unfold k99; rw [up1_ne _ _ (by decide), hF 99 (by omega)]; exact ⟨rfl, rfl, rfl⟩) ?_
    rw [up1_s]
    exact RW_up (RW_wr P T z B1 hF (by omega) (fun j h1 h2 => wrS_0 B.1 h1 h2)) (by omega) (by omega)
  · have e2 := m_book (J := J) I.lay B.1 B.2.1 a b c
    rw [if_neg hl] at e2
    exact ⟨_, F, J, σ, F, J, σ, c_book_no I.lay hl, I.lay, rfl, e2, I.up⟩
/-! a part comes -/
def coS (s : Nat → Int32) (n : Nat) (a b c e : Int32) : Nat → Int32 := up1 (up1 (up1 (up1 (up1 (up1 s (4 + 5 * n) a) (4 + 5 * n + 1) b) (4 + 5 * n + 2) c) (4 + 5 * n + 3) e) (4 + 5 * n + 4) 0) 0 (nI (n + 1))
abbrev PtK (a b c e : Int32) : Prop := (0 ≤ a ∧ a ≤ 5) ∧ (0 ≤ b ∧ b ≤ 99) ∧ (0 ≤ c ∧ c ≤ 10) ∧ (0 ≤ e ∧ e ≤ 2)
theorem coS_o {n j : Nat} {a b c e : Int32} (h0 : j ≠ 0) (h : j < 4 + 5 * n ∨ 4 + 5 * n + 4 < j) : coS s n a b c e j = s j := by
  unfold coS
  rw [up1_n _ _ h0, up1_n _ _ (by omega), up1_n _ _ (by omega), up1_n _ _ (by omega), up1_n _ _ (by omega), up1_n _ _ (by omega)]
theorem coS_k {n : Nat} {a b c e : Int32} : coS s n a b c e 0 = nI (n + 1) ∧ coS s n a b c e (4 + 5 * n) = a ∧ coS s n a b c e (4 + 5 * n + 1) = b ∧ coS s n a b c e (4 + 5 * n + 2) = c ∧ coS s n a b c e (4 + 5 * n + 3) = e ∧ coS s n a b c e (4 + 5 * n + 4) = 0 := by
  unfold coS
  refine ⟨up1_s _ _ _, ?_, ?_, ?_, ?_, ?_⟩
  · rw [up1_n _ _ (by omega), up1_n _ _ (by omega), up1_n _ _ (by omega), up1_n _ _ (by omega), up1_n _ _ (by omega), up1_s]
  · rw [up1_n _ _ (by omega), up1_n _ _ (by omega), up1_n _ _ (by omega), up1_n _ _ (by omega), up1_s]
  · rw [up1_n _ _ (by omega), up1_n _ _ (by omega), up1_n _ _ (by omega), up1_s]
  · rw [up1_n _ _ (by omega), up1_n _ _ (by omega), up1_s]
  · rw [up1_n _ _ (by omega), up1_s]
theorem le5 {a : Int32} (h : a ≤ 5) : a < 6 := by
  have e5 : a.toInt ≤ 5 := Int32.le_iff_toInt_le.mp h
  rw [Int32.lt_iff_toInt_lt]
  show a.toInt < 6
  omega
theorem c_addPart {p n : Nat} (hp : PL σ p) (hn : F p 1 = nI n) (h10 : n < 10) (a b c e : Int32) : cI d 14 [.ref p, .int a, .int b, .int c, .int e] (F, J, σ) = some (nI n, (up1 (up1 F (p + 8 + n) (up1 (up1 (up1 (up1 (up1 (F (p + 8 + n)) 0 a) 1 b) 2 c) 3 e) 4 0)) p (up1 (F p) 1 (nI (n + 1))), J, σ)) := by
  refine i_14 ?_
  rw [q_14_0]
  have hne : p ≠ p + 8 + n := by omega
  simp only [mS, mR, mF, hp.y0, hp.z0, hp.y1, hn, ix_nI (show n < 2 ^ 31 by omega), hp.zk h10, hp.yk h10, setF_up, up1_s, up1_up1, up1_n _ _ hne, if_true]
  rw [if_pos (show nI n < (10 : Int32) from ylt (b := 10) h10 (by decide)), if_pos ⟨by decide, by decide, inb_nI h10 (by decide)⟩, nI_s, show nI (n + 1) - 1 = nI n from pk_sub (a := n + 1) (b := 1) (by omega)]
theorem c_addPart_full {p : Nat} (hp : PL σ p) (hn : F p 1 = nI 10) (a b c e : Int32) : cI d 14 [.ref p, .int a, .int b, .int c, .int e] (F, J, σ) = some (-1000000003, (F, J, σ)) := by
  refine i_14 ?_
  rw [q_14_0]
  simp only [mS, mR, mF, hp.y0, hn, if_true]
  rw [if_neg (by decide)]
theorem RW_part {p n m t : Nat} {a b c e : Int32} (hp : p + 17 < 100) (P : PR F p s n) (B : BR F p s m) (T : TR F σ p s t) (z : F p 6 = s 3) (h10 : n < 10) (hk : PtK a b c e) : RW (up1 (up1 F (p + 8 + n) (up1 (up1 (up1 (up1 (up1 (F (p + 8 + n)) 0 a) 1 b) 2 c) 3 e) 4 0)) p (up1 (F p) 1 (nI (n + 1)))) σ p (coS s n a b c e) := by
  obtain ⟨k0, k1, k2, k3, k4, k5⟩ := coS_k (s := s) (n := n) (a := a) (b := b) (c := c) (e := e)
  refine ⟨n + 1, m, t, ?_, ?_, ?_, ?_⟩
  · obtain ⟨p1, p2, p3, p4, p5⟩ := P
    refine ⟨by omega, k0, by rw [up1_s, up1_s], fun k hk' j hj => ?_, fun k hk' => ?_⟩
    · rw [up1_n _ _ (show p + 8 + k ≠ p by omega)]
      by_cases ek : k = n
      · subst ek
        rw [up1_s]
        match j, hj with
        | 0, _ => exact k1.symm
        | 1, _ => exact k2.symm
        | 2, _ => exact k3.symm
        | 3, _ => exact k4.symm
        | 4, _ => exact k5.symm
      · rw [up1_n _ _ (by omega), coS_o (by omega) (by omega)]
        exact p4 k (by omega) j hj
    · by_cases ek : k = n
      · subst ek
        unfold PK
        rw [k1, k2, k3, k4, k5]
        exact ⟨⟨hk.1.1, le5 hk.1.2⟩, hk.2.1, hk.2.2.1, hk.2.2.2, ⟨by decide, ylt (a := 0) (Nat.two_pow_pos k) (by have : 2 ^ k ≤ 2 ^ 10 := Nat.pow_le_pow_right (by decide) (by omega); omega)⟩⟩
      · have := p5 k (by omega)
        unfold PK at this ⊢
        rw [coS_o (by omega) (by omega), coS_o (by omega) (by omega), coS_o (by omega) (by omega), coS_o (by omega) (by omega), coS_o (by omega) (by omega)]
        exact this
  · obtain ⟨b1, b2, b3, b4⟩ := B
    refine ⟨b1, (coS_o (by omega) (by omega)).trans b2, by rw [up1_ne _ _ (by omega), up1_ne _ _ (by omega)]; exact b3, fun i hi => ?_⟩
    rw [coS_o (by omega) (by omega), coS_o (by omega) (by omega), coS_o (by omega) (by omega), up1_ne _ _ (show p + 3 ≠ p by omega), up1_ne _ _ (show p + 3 ≠ p + 8 + n by omega), up1_ne _ _ (show p + 4 ≠ p by omega), up1_ne _ _ (show p + 4 ≠ p + 8 + n by omega), up1_ne _ _ (show p + 5 ≠ p by omega), up1_ne _ _ (show p + 5 ≠ p + 8 + n by omega)]
    exact b4 i hi
  · obtain ⟨t1, t2, t3, t4, t5⟩ := T
    refine ⟨t1, (coS_o (by omega) (by omega)).trans t2, by rw [up1_s, up1_n _ _ (by omega)]; exact t3, fun i hi => TX_cg (fun x h1 h2' => by rw [up1_ne _ _ (by omega), up1_ne _ _ (by omega)]) (fun j hj => coS_o (by omega) (by omega)) (t4 i hi), fun k' hk' => ?_⟩
    rw [up1_ne _ _ (by omega), up1_ne _ _ (by omega), t5 k' hk', cntS_cg t _ (fun i hi => coS_o (by omega) (by omega))]
  · rw [up1_s, up1_n _ _ (by omega), coS_o (by omega) (by omega)]; exact z
theorem m_comes (h : Lay L σ) {n : Nat} (hn : F 100 0 = nI n) (h10 : n < 10) (a b c e : Int32) : cV d 145 [.ref 99, .int a, .int b, .int c, .int e] (F, J, σ) = some (up1 F 100 (coS (F 100) n a b c e), J, σ) := by
  refine i_145 (v := none) ?_
  rw [q_145_0]
  have n0 : ∀ G : Nat → Nat → Int32, rdI (G, J, σ) 100 0 = some (G 100 0) := fun G => rd_100 (i := 0) h (by decide)
  simp only [mS, mR, Y_99 h, Z_99_0 h, Y_100 h, setF_up, n0, Option.bind_some, up1_up1, up1_s, hn, i5_, nI_s, nI_2, nI_3, nI_4, ix_nI (show 4 + 5 * n < 2 ^ 31 by omega), ix_nI (show 4 + 5 * n + 1 < 2 ^ 31 by omega), ix_nI (show 4 + 5 * n + 2 < 2 ^ 31 by omega), ix_nI (show 4 + 5 * n + 3 < 2 ^ 31 by omega), ix_nI (show 4 + 5 * n + 4 < 2 ^ 31 by omega), if_true]
  rw [if_pos ⟨trivial, inb_nI (by omega) (by decide)⟩, if_pos ⟨trivial, inb_nI (by omega) (by decide)⟩, if_pos ⟨trivial, inb_nI (by omega) (by decide)⟩, if_pos ⟨trivial, inb_nI (by omega) (by decide)⟩, if_pos ⟨trivial, inb_nI (by omega) (by decide)⟩, if_pos ⟨trivial, by decide⟩]
  rw [up1_n _ _ (show 0 ≠ 4 + 5 * n + 4 by omega), up1_n _ _ (show 0 ≠ 4 + 5 * n + 3 by omega), up1_n _ _ (show 0 ≠ 4 + 5 * n + 2 by omega), up1_n _ _ (show 0 ≠ 4 + 5 * n + 1 by omega), up1_n _ _ (show 0 ≠ 4 + 5 * n by omega), hn, nI_s]
  rfl
end OPB
