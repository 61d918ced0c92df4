/-! THE END AS SAID; TOGETHER. -/
section ENDS
variable {L d : Nat} {F F' : Nat → Nat → Int32} {J : Nat → Nat → Int64} {σ : aSg} {μ : aMem} {s s' xs : Nat → Int32} {A ln wt : Nat → Nat}
def sN (s : Nat → Int32) (m t k : Nat) : Nat := (saS s m t k).toInt.toNat
def wN (s : Nat → Int32) (t k : Nat) : Nat := (waS s t k).toInt.toNat
theorem to_nN {v : Int32} {a M : Nat} (h : v = nI a) (ha : a ≤ M) (hM : M < 2 ^ 31) : v = nI v.toInt.toNat ∧ v.toInt.toNat ≤ M := by
  rw [h, nI_toInt (by omega), Int.toNat_natCast]
  exact ⟨rfl, ha⟩
theorem cdS_n (v : Int32) : ∃ a, a ≤ 999 ∧ cdS v = nI a := by
  have := cdS_in v
  rcases this with c | c | c | c | c | c | c | c | c | c <;> rw [c]
  · exact ⟨1, by decide, rfl⟩
  · exact ⟨2, by decide, rfl⟩
  · exact ⟨3, by decide, rfl⟩
  · exact ⟨5, by decide, rfl⟩
  · exact ⟨8, by decide, rfl⟩
  · exact ⟨13, by decide, rfl⟩
  · exact ⟨21, by decide, rfl⟩
  · exact ⟨34, by decide, rfl⟩
  · exact ⟨55, by decide, rfl⟩
  · exact ⟨89, by decide, rfl⟩
theorem sN_eq {n m t k : Nat} (R : RK s n m t) (hk : k < n) : saS s m t k = nI (sN s m t k) ∧ sN s m t k ≤ 999 := by
  have key : ∃ a, a ≤ 999 ∧ saS s m t k = nI a := by
    unfold saS saK
    split
    · exact wiM_n (M := 999) (by decide) _
    · split
      · exact wiM_n (M := 999) (by decide) _
      · split
        · obtain ⟨a, ha, ea⟩ := wiM_n (M := 999) (by decide) (thS s m t k + s (4 + 5 * k + 2))
          refine ⟨2 * a / 3, by omega, ?_⟩
          rw [show wiM (thS s m t k + s (4 + 5 * k + 2)) 999 = nI a from ea, show (2 : Int32) = nI 2 from rfl, pk_mul, show (3 : Int32) = nI 3 from rfl, pk_div (by omega) (by decide) (by decide)]
        · split
          · exact wiM_n (M := 999) (by decide) _
          · split
            · exact cdS_n _
            · exact thS_n R hk
  obtain ⟨a, ha, ea⟩ := key
  exact to_nN ea ha (by decide)
theorem wN_eq (s : Nat → Int32) (t k : Nat) : waS s t k = nI (wN s t k) ∧ wN s t k ≤ 99 := by
  have key : ∃ a, a ≤ 99 ∧ waS s t k = nI a := by
    unfold waS
    split
    · exact ⟨0, by decide, rfl⟩
    · exact wiM_n (M := 99) (by decide) _
  obtain ⟨a, ha, ea⟩ := key
  exact to_nN ea ha (by decide)
theorem LW_s {n m t : Nat} (R : RK s n m t) : LW (sN s m t) (wN s t) n := fun k hk => ⟨(sN_eq R hk).2, (wN_eq s t k).2⟩
theorem c_laySaid (h : Lay L σ) {p n m t : Nat} (hp : PL σ p) (hp2 : p + 17 < 55) (ta : TA σ p) : ∀ (r k : Nat) (F : Nat → Nat → Int32), PR F p s n → BR F p s m → TR F σ p s t → (∀ q, q < k → F 56 q = nI (sN s m t q) ∧ F 57 q = nI (wN s t q)) → k + r = n → ∃ F', Rn (d + 4) 47 (2, [.ref 55, .ref p, .int (nI k)], [], (F, J, σ)) = some (some (.int (nI (teN (aN s) (sN s m t) (wN s t) n))), (F', J, σ)) ∧ (∀ b, b < 56 ∨ 62 < b → F' b = F b) ∧ ∀ q, q < n → (F' 56 q = nI (sN s m t q) ∧ F' 57 q = nI (wN s t q)) ∧ F' 58 q = nI (bgN (aN s) (sN s m t) (wN s t) q) ∧ F' 59 q = nI (enN (aN s) (sN s m t) (wN s t) q)
  | 0, k, F, P, B, T, hs, e => by
    have ek : k = n := by omega
    subst ek
    have R := RK_of P B T
    have t5 : True ∧ 55 < 999999 := ⟨trivial, by decide⟩
    obtain ⟨F', g1, g2, g3⟩ := c_theEnd (d := d + 2) (J := J) h hp hp2 R (LW_s R) k 0 F P hs (fun q hq => absurd hq (by omega)) (by omega)
    have ce : cI (d + 3) 46 [.ref 55, .ref p] (F, J, σ) = some (nI (teN (aN s) (sN s m t) (wN s t) k), (F', J, σ)) := i_46 (d := d + 2) (by rw [q_46_0 (d + 2)]; exact g1)
    refine ⟨F', ?_, fun b hb => g2 b (by omega) (by omega), fun q hq => ⟨by rw [g2 56 (by decide) (by decide), g2 57 (by decide) (by decide)]; exact hs q hq, g3 q hq⟩⟩
    rw [q_47_2 (d + 3)]
    simp only [mS, mF, hp.y0, P.2.2.1, if_true, Y_55 h, if_pos t5, ce]
    rw [if_pos (Int32.le_refl _)]
    rfl
  | r + 1, k, F, P, B, T, hs, e => by
    have n10 := P.1
    have hk : k < n := by omega
    have R := RK_of P B T
    have t5 : True ∧ 55 < 999999 := ⟨trivial, by decide⟩
    have ib : inb (nI k) 10 := inb_nI (by omega) (by decide)
    obtain ⟨F1, a1, a2⟩ := c_says (d := d) (J := J) h hp ta P B T hk hp2
    obtain ⟨F2, eF2⟩ : ∃ F2, F2 = up1 F1 56 (up1 (F1 56) k (saS s m t k)) := ⟨_, rfl⟩
    have o2 : ∀ b, b ≠ 62 → b ≠ 56 → F2 b = F b := fun b h1 h2 => by rw [eF2, up1_ne _ _ h2, a2 b h1]
    have P2 : PR F2 p s n := PR_cg (fun a h1 h2 => o2 a (by omega) (by omega)) (fun j _ => rfl) P
    have B2 : BR F2 p s m := BR_cg (fun a h1 h2 => o2 a (by omega) (by omega)) (fun j _ => rfl) B
    have T2 : TR F2 σ p s t := TR_cg (fun a h1 h2 => o2 a (by omega) (by omega)) (fun a h1 h2 => o2 a (by omega) (by omega)) (fun j _ => rfl) T
    obtain ⟨F3, b1, b2⟩ := c_waits (d := d + 1) (J := J) h hp ta P2 B2 T2 hk
    obtain ⟨F4, eF4⟩ : ∃ F4, F4 = up1 F3 57 (up1 (F3 57) k (waS s t k)) := ⟨_, rfl⟩
    have o4 : ∀ b, b ≠ 62 → b ≠ 56 → b ≠ 57 → F4 b = F b := fun b h1 h2 h3 => by rw [eF4, up1_ne _ _ h3, b2 b h1, o2 b h1 h2]
    have g56 : F4 56 = up1 (F 56) k (saS s m t k) := by rw [eF4, up1_ne _ _ (by decide), b2 56 (by decide), eF2, up1_s, a2 56 (by decide)]
    have g57 : F4 57 = up1 (F 57) k (waS s t k) := by rw [eF4, up1_s, b2 57 (by decide), o2 57 (by decide) (by decide)]
    obtain ⟨F', g1, g2, g3⟩ := c_laySaid h hp hp2 ta r (k + 1) F4 (PR_cg (fun a h1 h2 => o4 a (by omega) (by omega) (by omega)) (fun j _ => rfl) P) (BR_cg (fun a h1 h2 => o4 a (by omega) (by omega) (by omega)) (fun j _ => rfl) B) (TR_cg (fun a h1 h2 => o4 a (by omega) (by omega) (by omega)) (fun a h1 h2 => o4 a (by omega) (by omega) (by omega)) (fun j _ => rfl) T) (fun q hq => by
      rw [g56, g57]
      by_cases eq : q = k
      · rw [eq, up1_s, up1_s]; exact ⟨(sN_eq R hk).1, (wN_eq s t k).1⟩
      · rw [up1_n _ _ eq, up1_n _ _ eq]; exact hs q (by omega)) (by omega)
    refine ⟨F', ?_, fun b hb => by rw [g2 b hb, o4 b (by omega) (by omega) (by omega)], g3⟩
    rw [q_47_2 (d + 3)]
    simp only [mS, mR, mF, hp.y0, hp.z0, hp.y1, P.2.2.1, if_true, Y_55 h, if_pos t5, ix_nI (show k < 2 ^ 31 by omega), hp.zk (show k < 10 by omega), a1, Option.bind_some, Z_55_0 h, Z_55_1 h, Y_56 h, Y_57 h, setF_up]
    rw [if_neg (nle hk (by omega)), if_pos ⟨by decide, by decide, ib⟩, if_pos ⟨trivial, ib⟩, if_pos ⟨by decide, by decide, ib⟩, ← eF2, b1, Option.bind_some]
    simp only [Y_57 h]
    rw [if_pos ⟨trivial, ib⟩, setF_up, ← eF4, nI_s]
    exact g1
theorem c_endSaid (h : Lay L σ) {p n m t : Nat} (hp : PL σ p) (hp2 : p + 17 < 55) (ta : TA σ p) (P : PR F p s n) (B : BR F p s m) (T : TR F σ p s t) : ∃ F', cI (d + 4) 47 [.ref 55, .ref p] (F, J, σ) = some (nI (teN (aN s) (sN s m t) (wN s t) n), (F', J, σ)) ∧ (∀ b, b < 56 ∨ 62 < b → F' b = F b) ∧ ∀ q, q < n → (F' 56 q = nI (sN s m t q) ∧ F' 57 q = nI (wN s t q)) ∧ F' 58 q = nI (bgN (aN s) (sN s m t) (wN s t) q) ∧ F' 59 q = nI (enN (aN s) (sN s m t) (wN s t) q) := by
  obtain ⟨F', g1, g2, g3⟩ := c_laySaid (d := d) (J := J) h hp hp2 ta n 0 F P B T (fun q hq => absurd hq (by omega)) (by omega)
  exact ⟨F', i_47 (d := d + 3) (by rw [q_47_0 (d + 3)]; exact g1), g2, g3⟩
theorem m_layWaits (h : Lay L σ) {n m t : Nat} : ∀ (r k : Nat) (F : Nat → Nat → Int32), RK (F 100) n m t → (∀ q, q < k → F 112 q = nI (wN (F 100) t q)) → k + r = n → ∃ F', Rn (d + 3) 152 (2, [.ref 99, .int (nI k)], [], (F, J, σ)) = some (none, (F', J, σ)) ∧ (∀ b, b ≠ 112 → b ≠ 118 → b ≠ 119 → F' b = F b) ∧ ∀ q, q < n → F' 112 q = nI (wN (F 100) t q)
  | 0, k, F, R, hs, e => by
    have ek : k = n := by omega
    subst ek
    refine ⟨F, ?_, fun b _ _ _ => rfl, hs⟩
    rw [q_152_2 (d + 2)]
    simp only [mS, mR, Y_99 h, Z_99_0 h, if_true, show rdI (F, J, σ) 100 0 = some (F 100 0) from rd_100 (i := 0) h (by decide), R.1.2.1, Option.bind_some]
    rw [if_pos (Int32.le_refl _)]
  | r + 1, k, F, R, hs, e => by
    have n10 := R.1.1
    have hk : k < n := by omega
    have t9 : True ∧ 99 < 999999 := ⟨trivial, by decide⟩
    have ib : inb (nI k) 10 := inb_nI (by omega) (by decide)
    obtain ⟨F1, a1, a2⟩ := m_waits (d := d) (J := J) h R hk
    obtain ⟨F2, eF2⟩ : ∃ F2, F2 = up1 F1 112 (up1 (F1 112) k (waS (F 100) t k)) := ⟨_, rfl⟩
    have o2 : ∀ b, b ≠ 112 → b ≠ 118 → b ≠ 119 → F2 b = F b := fun b h1 h2 h3 => by rw [eF2, up1_ne _ _ h1, a2 b h2 h3]
    have o100 := o2 100 (by decide) (by decide) (by decide)
    have ih := m_layWaits h r (k + 1) F2 (by rw [o100]; exact R) (fun q hq => by
      rw [o100, eF2, up1_s]
      by_cases eq : q = k
      · rw [eq, up1_s]; exact (wN_eq (F 100) t k).1
      · rw [up1_n _ _ eq, a2 112 (by decide) (by decide)]; exact hs q (by omega)) (by omega)
    rw [o100] at ih
    obtain ⟨F', g1, g2, g3⟩ := ih
    refine ⟨F', ?_, fun b h1 h2 h3 => by rw [g2 b h1 h2 h3, o2 b h1 h2 h3], g3⟩
    rw [q_152_2 (d + 2)]
    simp only [mS, mR, Y_99 h, Z_99_0 h, Z_99_13 h, Y_112 h, if_true, if_pos t9, show rdI (F, J, σ) 100 0 = some (F 100 0) from rd_100 (i := 0) h (by decide), R.1.2.1, Option.bind_some, a1, setF_up, ix_nI (show k < 2 ^ 31 by omega)]
    rw [if_neg (nle hk (by omega)), if_pos ⟨trivial, ib⟩, ← eF2, nI_s]
    exact g1
theorem m_laySaid (h : Lay L σ) {n m t : Nat} : ∀ (r k : Nat) (F : Nat → Nat → Int32), RK (F 100) n m t → (∀ q, q < k → F 111 q = nI (sN (F 100) m t q)) → k + r = n → ∃ F', Rn (d + 4) 153 (6, [.ref 99, .int (nI k)], [], (F, J, σ)) = some (none, (F', J, σ)) ∧ (∀ b, b ≠ 111 → b ≠ 118 → b ≠ 119 → F' b = F b) ∧ ∀ q, q < n → F' 111 q = nI (sN (F 100) m t q)
  | 0, k, F, R, hs, e => by
    have ek : k = n := by omega
    subst ek
    refine ⟨F, ?_, fun b _ _ _ => rfl, hs⟩
    rw [q_153_6 (d + 3)]
    simp only [mS, mR, Y_99 h, Z_99_0 h, if_true, show rdI (F, J, σ) 100 0 = some (F 100 0) from rd_100 (i := 0) h (by decide), R.1.2.1, Option.bind_some]
    rw [if_pos (Int32.le_refl _)]
  | r + 1, k, F, R, hs, e => by
    have n10 := R.1.1
    have hk : k < n := by omega
    have t9 : True ∧ 99 < 999999 := ⟨trivial, by decide⟩
    have ib : inb (nI k) 10 := inb_nI (by omega) (by decide)
    obtain ⟨F1, a1, a2⟩ := m_says (d := d + 1) (J := J) h R hk
    obtain ⟨F2, eF2⟩ : ∃ F2, F2 = up1 F1 111 (up1 (F1 111) k (saS (F 100) m t k)) := ⟨_, rfl⟩
    have o2 : ∀ b, b ≠ 111 → b ≠ 118 → b ≠ 119 → F2 b = F b := fun b h1 h2 h3 => by rw [eF2, up1_ne _ _ h1, a2 b h2 h3]
    have o100 := o2 100 (by decide) (by decide) (by decide)
    have ih := m_laySaid h r (k + 1) F2 (by rw [o100]; exact R) (fun q hq => by
      rw [o100, eF2, up1_s]
      by_cases eq : q = k
      · rw [eq, up1_s]; exact (sN_eq R hk).1
      · rw [up1_n _ _ eq, a2 111 (by decide) (by decide)]; exact hs q (by omega)) (by omega)
    rw [o100] at ih
    obtain ⟨F', g1, g2, g3⟩ := ih
    refine ⟨F', ?_, fun b h1 h2 h3 => by rw [g2 b h1 h2 h3, o2 b h1 h2 h3], g3⟩
    rw [q_153_6 (d + 3)]
    simp only [mS, mR, Y_99 h, Z_99_0 h, Z_99_12 h, Y_111 h, if_true, if_pos t9, show rdI (F, J, σ) 100 0 = some (F 100 0) from rd_100 (i := 0) h (by decide), R.1.2.1, Option.bind_some, a1, setF_up, ix_nI (show k < 2 ^ 31 by omega)]
    rw [if_neg (nle hk (by omega)), if_pos ⟨trivial, ib⟩, ← eF2, nI_s]
    exact g1
theorem m_laySaid0 (h : Lay L σ) {n m t : Nat} (R : RK (F 100) n m t) : ∃ F', cV (d + 4) 153 [.ref 99] (F, J, σ) = some (F', J, σ) ∧ (∀ b, b < 111 ∨ 119 < b ∨ (112 < b ∧ b < 118) → F' b = F b) ∧ ∀ q, q < n → F' 111 q = nI (sN (F 100) m t q) ∧ F' 112 q = nI (wN (F 100) t q) := by
  obtain ⟨F1, a1, a2, a3⟩ := m_layWaits (d := d) (J := J) h n 0 F R (fun q hq => absurd hq (by omega)) (by omega)
  have o100 := a2 100 (by decide) (by decide) (by decide)
  obtain ⟨F2, b1, b2, b3⟩ := m_laySaid (d := d) (J := J) h n 0 F1 (by rw [o100]; exact R) (fun q hq => absurd hq (by omega)) (by omega)
  have t9 : True ∧ 99 < 999999 := ⟨trivial, by decide⟩
  have cw : cV (d + 3) 152 [.ref 99] (F, J, σ) = some (F1, J, σ) := i_152 (d := d + 2) (v := none) (by rw [q_152_0 (d + 2)]; exact a1)
  refine ⟨F2, ?_, fun b hb => by rw [b2 b (by omega) (by omega) (by omega), a2 b (by omega) (by omega) (by omega)], fun q hq => ⟨by rw [b3 q hq, o100], by rw [b2 112 (by decide) (by decide) (by decide)]; exact a3 q hq⟩⟩
  refine i_153 (d := d + 3) (v := none) ?_
  rw [q_153_0 (d + 3)]
  simp only [mS, Y_99 h, if_pos t9, cw, Option.bind_some]
  exact b1
theorem m_endBy0 (h : Lay L σ) {n m t : Nat} (hb : LW ln wt n) (R : RK (F 100) n m t) (hl : ∀ q, q < n → F 111 q = nI (ln q) ∧ F 112 q = nI (wt q)) : ∃ F', cI (d + 1) 154 [.ref 99] (F, J, σ) = some (nI (teN (aN (F 100)) ln wt n), (F', J, σ)) ∧ (∀ b, b ≠ 113 → F' b = F b) ∧ ∀ q, q < n → F' 113 q = nI (bgN (aN (F 100)) ln wt q) := by
  obtain ⟨F', g1, g2, g3⟩ := m_endBy (d := d) (J := J) h hb n 0 F un un R hl (fun q hq => absurd hq (by omega)) (by omega)
  exact ⟨F', i_154 (d := d) (by rw [q_154_0 d]; exact g1), g2, g3⟩
theorem m_endSaid (h : Lay L σ) {n m t : Nat} (R : RK (F 100) n m t) : ∃ F', cI (d + 5) 155 [.ref 99] (F, J, σ) = some (nI (teN (aN (F 100)) (sN (F 100) m t) (wN (F 100) t) n), (F', J, σ)) ∧ (∀ b, b < 111 ∨ 119 < b ∨ (113 < b ∧ b < 118) → F' b = F b) ∧ ∀ q, q < n → (F' 111 q = nI (sN (F 100) m t q) ∧ F' 112 q = nI (wN (F 100) t q)) ∧ F' 113 q = nI (bgN (aN (F 100)) (sN (F 100) m t) (wN (F 100) t) q) := by
  obtain ⟨F1, a1, a2, a3⟩ := m_laySaid0 (d := d) (J := J) h R
  have o100 := a2 100 (by omega)
  obtain ⟨F2, b1, b2, b3⟩ := m_endBy0 (d := d + 3) (J := J) (F := F1) h (LW_s R) (by rw [o100]; exact R) a3
  rw [o100] at b1 b3
  have t9 : True ∧ 99 < 999999 := ⟨trivial, by decide⟩
  refine ⟨F2, ?_, fun b hb => by rw [b2 b (by omega), a2 b (by omega)], fun q hq => ⟨by rw [b2 111 (by decide), b2 112 (by decide)]; exact a3 q hq, b3 q hq⟩⟩
  refine i_155 (d := d + 4) ?_
  rw [q_155_0 (d + 4)]
  simp only [mS, Y_99 h, if_pos t9, a1, Option.bind_some, b1]
/-- rows of its own that a call may leave otherwise: on both sides -/
theorem IV_scr {q : Nat} (I : IV L xs q F σ) (hF : ∀ b, b ≤ 36 ∨ (67 ≤ b ∧ b ≤ 101) ∨ (103 ≤ b ∧ b ≤ 110) ∨ b = 117 ∨ b = 122 ∨ 124 ≤ b → F' b = F b) : IV L xs (q + 1) F' σ := by
  refine IV_row I (fun a ha => hF a (by omega)) (by unfold k99; rw [hF 99 (by omega)]; exact ⟨rfl, rfl, rfl⟩) ?_
  rw [hF 100 (by omega)]
  exact RW_cg (fun a _ _ => hF a (by omega)) (fun a _ _ => hF a (by omega)) (fun j _ => rfl) I.rw
theorem op_end : OpI (Inv L xs) 94 171 0 := op0 fun q F J σ hq I => by
  have h := I.lay
  have hp := PL_1 h
  obtain ⟨n, m, t, P, B, T, z⟩ := I.rw
  obtain ⟨F1, a1, a2, -⟩ := c_endSaid (d := 95) (J := J) h hp (by decide) I.ta.1 P B T
  have o100 := a2 100 (by omega)
  have R := RK_of P B T
  obtain ⟨F2, b1, b2, -⟩ := m_endSaid (d := 94) (F := F1) (J := J) h (by rw [o100]; exact R)
  rw [o100] at b1
  have t5 : True ∧ 55 < 999999 := ⟨trivial, by decide⟩
  have t9 : True ∧ 99 < 999999 := ⟨trivial, by decide⟩
  refine ⟨nI (teN (aN (F 100)) (sN (F 100) m t) (wN (F 100) t) n), F1, J, σ, F2, J, σ, ?_, h, a2 _ (by omega), ?_, IV_scr I (fun b hb => by rw [b2 b (by omega), a2 b (by omega)])⟩
  · refine i_94 (d := 99) ?_
    rw [q_94_0 99]
    simp only [mS, mR, Y_0 h, Z_0_0 h, Z_0_4 h, Y_55 h, if_true, if_pos t5, a1, Option.bind_some]
  · refine i_171 (d := 99) ?_
    rw [q_171_0 99]
    simp only [mS, Y_99 h, if_pos t9, b1, Option.bind_some]
theorem op_together : OpI (Inv L xs) 93 170 0 := op0 fun q F J σ hq I => by
  have h := I.lay
  have hp := PL_1 h
  obtain ⟨n, m, t, P, B, T, z⟩ := I.rw
  have n10 := P.1
  have R := RK_of P B T
  have t5 : True ∧ 55 < 999999 := ⟨trivial, by decide⟩
  have t9 : True ∧ 99 < 999999 := ⟨trivial, by decide⟩
  have cl : ∀ r k G x, (∀ b, b ≠ 62 → G b = F b) → k + r = n → ∃ G', Rn 99 53 (4, [.ref 55, .ref 1, .int x, .int (nI k)], [], (G, J, σ)) = some (some (.int (iter (fun i a => a + saS (F 100) m t i) k r x)), (G', J, σ)) ∧ ∀ b, b ≠ 62 → G' b = F b := by
    intro r
    induction r with
    | zero =>
      intro k G x hG e
      refine ⟨G, ?_, hG⟩
      rw [q_53_4 98]
      simp only [mS, mF, hp.y0, if_true]
      rw [hG 1 (by decide), P.2.2.1, if_pos (yle (by omega) (by omega))]
      rfl
    | succ r ih =>
      intro k G x hG e
      have P2 : PR G 1 (F 100) n := PR_cg (fun a h1 h2 => hG a (by omega)) (fun j _ => rfl) P
      have B2 : BR G 1 (F 100) m := BR_cg (fun a h1 h2 => hG a (by omega)) (fun j _ => rfl) B
      have T2 : TR G σ 1 (F 100) t := TR_cg (fun a h1 h2 => hG a (by omega)) (fun a h1 h2 => hG a (by omega)) (fun j _ => rfl) T
      obtain ⟨F1, a1, a2⟩ := c_says (d := 95) (J := J) h hp I.ta.1 P2 B2 T2 (show k < n by omega) (by decide)
      obtain ⟨G', g1, g2⟩ := ih (k + 1) F1 (x + saS (F 100) m t k) (fun b hb => by rw [a2 b hb, hG b hb]) (by omega)
      refine ⟨G', ?_, g2⟩
      rw [q_53_4 98]
      simp only [mS, mR, mF, hp.y0, hp.z0, hp.y1, P2.2.2.1, if_true, Y_55 h, if_pos t5, ix_nI (show k < 2 ^ 31 by omega), hp.zk (show k < 10 by omega)]
      rw [if_neg (nle (by omega) (by omega)), if_pos ⟨by decide, by decide, inb_nI (by omega) (by decide)⟩, a1, Option.bind_some, nI_s]
      exact g1
  have ml : ∀ r k G x, G 100 = F 100 → k + r = n → ∃ G', Rn 100 170 (4, [.ref 99, .int x, .int (nI k)], [], (G, J, σ)) = some (some (.int (iter (fun i a => a + saS (F 100) m t i) k r x)), (G', J, σ)) ∧ ∀ b, b ≠ 118 → b ≠ 119 → G' b = G b := by
    intro r
    induction r with
    | zero =>
      intro k G x hG e
      refine ⟨G, ?_, fun b _ _ => rfl⟩
      rw [q_170_4 99]
      simp only [mS, mR, Y_99 h, Z_99_0 h, if_true, show rdI (G, J, σ) 100 0 = some (G 100 0) from rd_100 (i := 0) h (by decide), hG, P.2.1, Option.bind_some]
      rw [if_pos (yle (by omega) (by omega))]
      rfl
    | succ r ih =>
      intro k G x hG e
      obtain ⟨F1, a1, a2⟩ := m_says (d := 97) (F := G) (J := J) h (by rw [hG]; exact R) (show k < n by omega)
      rw [hG] at a1
      obtain ⟨G', g1, g2⟩ := ih (k + 1) F1 (x + saS (F 100) m t k) (by rw [a2 100 (by decide) (by decide), hG]) (by omega)
      refine ⟨G', ?_, fun b h1 h2 => by rw [g2 b h1 h2, a2 b h1 h2]⟩
      rw [q_170_4 99]
      simp only [mS, mR, Y_99 h, Z_99_0 h, if_true, if_pos t9, show rdI (G, J, σ) 100 0 = some (G 100 0) from rd_100 (i := 0) h (by decide), hG, P.2.1, Option.bind_some]
      rw [if_neg (nle (by omega) (by omega)), a1, Option.bind_some, nI_s]
      exact g1
  obtain ⟨F1, a1, a2⟩ := cl n 0 F 0 (fun b _ => rfl) (by omega)
  obtain ⟨F2, b1, b2⟩ := ml n 0 F1 0 (a2 100 (by decide)) (by omega)
  refine ⟨iter (fun i a => a + saS (F 100) m t i) 0 n 0, F1, J, σ, F2, J, σ, ?_, h, a2 _ (by decide), ?_, IV_scr I (fun b hb => by rw [b2 b (by omega) (by omega), a2 b (by omega)])⟩
  · refine i_93 (d := 99) ?_
    rw [q_93_0 99]
    have ce : cI 99 53 [.ref 55, .ref 1] (F, J, σ) = some (iter (fun i a => a + saS (F 100) m t i) 0 n 0, (F1, J, σ)) := i_53 (d := 98) (by rw [q_53_0 98]; exact a1)
    simp only [mS, mR, Y_0 h, Z_0_0 h, Z_0_4 h, Y_55 h, if_true, if_pos t5, ce, Option.bind_some]
  · refine i_170 (d := 99) ?_
    rw [q_170_0 99]
    exact b1
end ENDS
