/-! PART, DEAL. -/
section OPC
variable {L d : Nat} {F F' : Nat → Nat → Int32} {J : Nat → Nat → Int64} {σ : aSg} {μ : aMem} {s s' xs : Nat → Int32}
def paS (n : Nat) (a b c e : Int32) : Int32 := if PtK a b c e then (if n = 10 then -1000000003 else nI n) else -1000000001
theorem c_part (h : Lay L σ) {n : Nat} (hn : F 1 1 = nI n) (h10 : n ≤ 10) (a b c e : Int32) : cI 100 82 [.ref 0, .int a, .int b, .int c, .int e] (F, J, σ) = some (paS n a b c e, (if PtK a b c e ∧ n ≠ 10 then up1 (up1 F (1 + 8 + n) (up1 (up1 (up1 (up1 (up1 (F (1 + 8 + n)) 0 a) 1 b) 2 c) 3 e) 4 0)) 1 (up1 (F 1) 1 (nI (n + 1))) else F, J, σ)) := by
  have hp := PL_1 h
  refine i_82 (d := 99) ?_
  rw [q_82_0 99, c_isKind (d := 98)]
  simp only [c_within, c_isSort (d := 98), Option.bind_some, b2i_0, mS, mR, mF, Y_0 h, Z_0_0 h, hp.y0]
  unfold paS
  by_cases hk : PtK a b c e
  · have hk' := hk
    obtain ⟨k1, k2, k3, k4⟩ := hk'
    rw [if_neg (not_not_intro k1), if_neg (not_not_intro k2), if_neg (not_not_intro k3), if_neg (not_not_intro k4), if_pos trivial, if_pos ⟨trivial, by decide⟩, if_pos hk]
    by_cases e10 : n = 10
    · subst e10
      rw [c_addPart_full hp hn, if_pos rfl, if_neg (fun q => q.2 rfl)]
      rfl
    · rw [c_addPart hp hn (by omega), if_neg e10, if_pos ⟨hk, e10⟩]
      rfl
  · rw [if_neg hk, if_neg (fun q : PtK a b c e ∧ n ≠ 10 => hk q.1)]
    by_cases k1 : 0 ≤ a ∧ a ≤ 5
    · rw [if_neg (not_not_intro k1)]
      by_cases k2 : 0 ≤ b ∧ b ≤ 99
      · rw [if_neg (not_not_intro k2)]
        by_cases k3 : 0 ≤ c ∧ c ≤ 10
        · rw [if_neg (not_not_intro k3), if_pos (fun k4 => hk ⟨k1, k2, k3, k4⟩)]
        · rw [if_pos k3]
      · rw [if_pos k2]
    · rw [if_pos k1]
theorem m_part (h : Lay L σ) {n : Nat} (hn : F 100 0 = nI n) (h10 : n ≤ 10) (a b c e : Int32) : cI 100 146 [.ref 99, .int a, .int b, .int c, .int e] (F, J, σ) = some (paS n a b c e, (if PtK a b c e ∧ n ≠ 10 then up1 F 100 (coS (F 100) n a b c e) else F, J, σ)) := by
  refine i_146 (d := 99) ?_
  rw [q_146_0 99, m_in_0_5]
  have n0 : ∀ G : Nat → Nat → Int32, rdI (G, J, σ) 100 0 = some (G 100 0) := fun G => rd_100 (i := 0) h (by decide)
  simp only [m_in_0_99, m_in_0_10, m_isSort, Option.bind_some, b2i_0, mS, mR, mF, Y_99 h, Z_99_0 h, n0, hn]
  unfold paS
  by_cases hk : PtK a b c e
  · have hk' := hk
    obtain ⟨k1, k2, k3, k4⟩ := hk'
    rw [if_neg (not_not_intro k1), if_neg (not_not_intro k2), if_neg (not_not_intro k3), if_neg (not_not_intro k4), if_pos trivial, if_pos hk]
    by_cases e10 : n = 10
    · subst e10
      rw [if_pos (by decide), if_pos rfl, if_neg (fun q => q.2 rfl)]
    · rw [if_neg (fun q : nI n = (10 : Int32) => e10 ((nI_eq (a := n) (b := 10) (by omega) (by decide)).mp q)), if_pos ⟨trivial, by decide⟩, m_comes h hn (by omega), if_neg e10, if_pos ⟨hk, e10⟩]
      simp only [Option.bind_some, mS, mR, Y_99 h, Z_99_0 h, n0, if_true, up1_s, (coS_k).1, show nI (n + 1) - 1 = nI n from pk_sub (a := n + 1) (b := 1) (by omega)]
  · rw [if_neg hk, if_neg (fun q : PtK a b c e ∧ n ≠ 10 => hk q.1)]
    by_cases k1 : 0 ≤ a ∧ a ≤ 5
    · rw [if_neg (not_not_intro k1)]
      by_cases k2 : 0 ≤ b ∧ b ≤ 99
      · rw [if_neg (not_not_intro k2)]
        by_cases k3 : 0 ≤ c ∧ c ≤ 10
        · rw [if_neg (not_not_intro k3), if_pos (fun k4 => hk ⟨k1, k2, k3, k4⟩)]
        · rw [if_pos k3]
      · rw [if_pos k2]
    · rw [if_pos k1]
theorem op_part : OpI (Inv L xs) 82 146 4 := op4 fun q F J σ a b c e hq I => by
  obtain ⟨n, m, t, P, B, T, z⟩ := I.rw
  have hn := P.1
  have e1 := c_part (J := J) I.lay P.2.2.1 P.1 a b c e
  by_cases hk : PtK a b c e ∧ n ≠ 10
  · rw [if_pos hk] at e1
    have hF : ∀ x, x ≠ 1 → x ≠ 1 + 8 + n → up1 (up1 F (1 + 8 + n) (up1 (up1 (up1 (up1 (up1 (F (1 + 8 + n)) 0 a) 1 b) 2 c) 3 e) 4 0)) 1 (up1 (F 1) 1 (nI (n + 1))) x = F x := fun x h1 h2 => by rw [up1_ne _ _ h1, up1_ne _ _ h2]
    have e100 := hF 100 (by omega) (by omega)
    have e2 := m_part (F := up1 (up1 F (1 + 8 + n) (up1 (up1 (up1 (up1 (up1 (F (1 + 8 + n)) 0 a) 1 b) 2 c) 3 e) 4 0)) 1 (up1 (F 1) 1 (nI (n + 1)))) (J := J) I.lay (by rw [e100]; exact P.2.1) P.1 a b c e
    rw [if_pos hk, e100] at e2
    refine ⟨_, _, _, _, _, _, _, e1, I.lay, by rw [hF _ (by omega) (by omega)], e2, ?_⟩
    refine IV_row I (fun x hx => by rw [up1_ne _ _ (by omega), hF x (by omega) (by omega)]) (by unfold k99; rw [up1_ne _ _ (by decide), hF 99 (by omega) (by omega)]; exact ⟨rfl, rfl, rfl⟩) ?_
    rw [up1_s]
    exact RW_up (RW_part (by decide) P B T z (by omega) hk.1) (by omega) (by omega)
  · have e2 := m_part (J := J) I.lay P.2.1 P.1 a b c e
    rw [if_neg hk] at e1 e2
    exact ⟨_, F, J, σ, F, J, σ, e1, I.lay, rfl, e2, I.up⟩
/-! deal -/
def drZ (z : Int32) : Int32 := z * 1103515245 + 12345
def drV (z : Int32) : Int32 := ((drZ z).toUInt32 >>> ((8 : Int32).toUInt32 &&& Int32.toUInt32 31)).toInt32
theorem bv_nI {x : Int32} {k : Nat} (h : x.toBitVec.toNat = k) : x = nI k := by
  apply Int32.toBitVec_inj.mp
  apply BitVec.eq_of_toNat_eq
  have : k < 2 ^ 32 := by rw [← h]; exact x.toBitVec.isLt
  rw [h, pk_tn this]
theorem drV_n (z : Int32) : ∃ k, k < 2 ^ 24 ∧ drV z = nI k := by
  refine ⟨(drZ z).toBitVec.toNat / 2 ^ 8, ?_, bv_nI (pk_ushr (drZ z) 8 8 (by decide))⟩
  have := (drZ z).toBitVec.isLt
  omega
theorem rem_in (z : Int32) {b : Nat} (h0 : 0 < b) (hb : b < 1000) : 0 ≤ drV z - drV z / nI b * nI b ∧ drV z - drV z / nI b * nI b ≤ nI (b - 1) := by
  obtain ⟨k, hk, e⟩ := drV_n z
  rw [e, pk_rem (by omega) h0 (by omega)]
  have := Nat.mod_lt k h0
  exact ⟨yle (a := 0) (by omega) (by omega), yle (by omega) (by omega)⟩
/-- a part is drawn -/
def dlS (s : Nat → Int32) (n : Nat) : Nat → Int32 := coS (up1 s 3 (drZ (drZ (drZ (drZ (s 3)))))) n (drV (s 3) - drV (s 3) / 6 * 6) (drV (drZ (s 3)) - drV (drZ (s 3)) / 20 * 20) (drV (drZ (drZ (s 3))) - drV (drZ (drZ (s 3))) / 11 * 11) (drV (drZ (drZ (drZ (s 3)))) - drV (drZ (drZ (drZ (s 3)))) / 3 * 3)
theorem dl_K (z : Int32) : PtK (drV z - drV z / 6 * 6) (drV (drZ z) - drV (drZ z) / 20 * 20) (drV (drZ (drZ z)) - drV (drZ (drZ z)) / 11 * 11) (drV (drZ (drZ (drZ z))) - drV (drZ (drZ (drZ z))) / 3 * 3) := ⟨rem_in z (b := 6) (by decide) (by decide), ⟨(rem_in (drZ z) (b := 20) (by decide) (by decide)).1, Int32.le_trans (rem_in (drZ z) (b := 20) (by decide) (by decide)).2 (by decide)⟩, rem_in (drZ (drZ z)) (b := 11) (by decide) (by decide), rem_in (drZ (drZ (drZ z))) (b := 3) (by decide) (by decide)⟩
theorem c_draw {p : Nat} (hp : PL σ p) : cI d 17 [.ref p] (F, J, σ) = some (drV (F p 6), (up1 F p (up1 (F p) 6 (drZ (F p 6))), J, σ)) := by
  refine i_17 ?_
  rw [q_17_0]
  simp only [mS, mF, hp.y0, setF_up, up1_s, if_true]
  rfl
theorem m_drawn (h : Lay L σ) : cI d 143 [.ref 99] (F, J, σ) = some (drV (F 100 3), (up1 F 100 (up1 (F 100) 3 (drZ (F 100 3))), J, σ)) := by
  refine i_143 ?_
  rw [q_143_0]
  have n0 : ∀ G : Nat → Nat → Int32, rdI (G, J, σ) 100 3 = some (G 100 3) := fun G => rd_100 (i := 3) h (by decide)
  simp only [mS, mR, Y_99 h, Z_99_0 h, Y_100 h, n0, setF_up, up1_s, Option.bind_some, ix_3, if_true]
  rw [if_pos ⟨trivial, by decide⟩]
  rfl
/-- z of the plan and of the row become another -/
theorem RW_z {p n m t : Nat} (hp : p + 17 < 100) (P : PR F p s n) (B : BR F p s m) (T : TR F σ p s t) (z : Int32) : PR (up1 F p (up1 (F p) 6 z)) p (up1 s 3 z) n ∧ BR (up1 F p (up1 (F p) 6 z)) p (up1 s 3 z) m ∧ TR (up1 F p (up1 (F p) 6 z)) σ p (up1 s 3 z) t ∧ up1 F p (up1 (F p) 6 z) p 6 = up1 s 3 z 3 := by
  have hs : ∀ j, j ≠ 3 → up1 s 3 z j = s j := fun j e => up1_n _ _ e
  refine ⟨?_, ?_, ?_, ?_⟩
  · obtain ⟨p1, p2, p3, p4, p5⟩ := P
    refine ⟨p1, (hs 0 (by omega)).trans p2, by rw [up1_s, up1_n _ _ (by omega)]; exact p3, fun k hk j hj => ?_, fun k hk => ?_⟩
    · rw [up1_ne _ _ (by omega), hs _ (by omega)]; exact p4 k hk j hj
    · have := p5 k hk
      unfold PK at this ⊢
      rw [hs _ (by omega), hs _ (by omega), hs _ (by omega), hs _ (by omega), hs _ (by omega)]
      exact this
  · obtain ⟨b1, b2, b3, b4⟩ := B
    refine ⟨b1, (hs 1 (by omega)).trans b2, by rw [up1_ne _ _ (by omega)]; exact b3, fun i hi => ?_⟩
    rw [hs _ (by omega), hs _ (by omega), hs _ (by omega), up1_ne _ _ (by omega), up1_ne _ _ (by omega), up1_ne _ _ (by omega)]
    exact b4 i hi
  · obtain ⟨t1, t2, t3, t4, t5⟩ := T
    refine ⟨t1, (hs 2 (by omega)).trans t2, by rw [up1_s, up1_n _ _ (by omega)]; exact t3, fun i hi => TX_cg (fun x h1 h2' => up1_ne _ _ (by omega)) (fun j hj => hs _ (by omega)) (t4 i hi), fun k' hk' => ?_⟩
    rw [up1_ne _ _ (by omega), t5 k' hk', cntS_cg t _ (fun i hi => hs _ (by omega))]
  · rw [up1_s, up1_s, up1_s]
theorem c_drawPart {p n m t : Nat} (hp : PL σ p) (hp2 : p + 17 < 100) (P : PR F p s n) (B : BR F p s m) (T : TR F σ p s t) (z : F p 6 = s 3) (h10 : n < 10) : ∃ F', cV (d + 1) 18 [.ref p] (F, J, σ) = some (F', J, σ) ∧ RW F' σ p (dlS s n) ∧ F' p 1 = nI (n + 1) ∧ ∀ x, x < p ∨ p + 17 < x → F' x = F x := by
  obtain ⟨P', B', T', z'⟩ := RW_z hp2 P B T (drZ (drZ (drZ (drZ (s 3)))))
  refine ⟨_, ?_, RW_part hp2 P' B' T' z' h10 (dl_K (s 3)), ?_, ?_⟩
  · refine i_18 (v := none) ?_
    rw [q_18_0]
    simp only [mS, hp.y0, c_draw hp, up1_s, up1_up1, Option.bind_some, z]
    have hpl := hp.lt
    have hlt : p < 999999 := by omega
    have hn : up1 F p (up1 (F p) 6 (drZ (drZ (drZ (drZ (s 3)))))) p 1 = nI n := P'.2.2.1
    rw [if_pos ⟨trivial, hlt⟩, if_pos ⟨trivial, hlt⟩, if_pos ⟨trivial, hlt⟩, if_pos ⟨trivial, hlt⟩, if_pos ⟨trivial, hlt⟩, c_addPart hp hn h10]
    simp only [Option.bind_some, up1_s]
  · rw [up1_s, up1_s]
  · intro x hx
    rw [up1_ne _ _ (by omega), up1_ne _ _ (by omega), up1_ne _ _ (by omega)]
theorem dlS_0 {n : Nat} : dlS s n 0 = nI (n + 1) := coS_k.1
def dlN (s : Nat → Int32) (n : Nat) : Nat → Nat → Int32
  | 0 => s
  | k + 1 => dlN (dlS s n) (n + 1) k
theorem PR_n {p n n' : Nat} (P : PR F p s n) (h : s 0 = nI n') (hn' : n' ≤ 10) : n = n' := by
  have := P.1
  have e := P.2.1
  rw [h] at e
  exact ((nI_eq (by omega) (by omega)).mp e).symm
theorem c_dealL (h : Lay L σ) {x : Int32} {came : Nat} (hc : came ≤ 10) : ∀ (k i n : Nat) (F : Nat → Nat → Int32) (s : Nat → Int32), RW F σ 1 s → s 0 = nI n → n + k ≤ 10 → i + k = came → ∃ F', Rn 100 91 (30, [.ref 0, .int x, .int (nI came), .int (nI i)], [], (F, J, σ)) = some (some (.int (nI came)), (F', J, σ)) ∧ RW F' σ 1 (dlN s n k) ∧ ∀ a, a < 1 ∨ 1 + 17 < a → F' a = F a
  | 0, i, n, F, s, R, hs, hn, hi => by
    refine ⟨F, ?_, R, fun a _ => rfl⟩
    rw [q_91_30 99, show i = came by omega, if_pos (Int32.le_refl _)]
  | k + 1, i, n, F, s, R, hs, hn, hi => by
    have hp := PL_1 h
    obtain ⟨n', m, t, P, B, T, z⟩ := R
    have en := PR_n P hs (by omega)
    subst en
    obtain ⟨F1, e1, R1, -, f1⟩ := c_drawPart (d := 98) (J := J) hp (by decide) P B T z (by omega)
    obtain ⟨F2, e2, R2, f2⟩ := c_dealL h hc k (i + 1) (n' + 1) F1 (dlS s n') R1 dlS_0 (by omega) (by omega)
    refine ⟨F2, ?_, R2, fun a ha => (f2 a ha).trans (f1 a ha)⟩
    rw [q_91_30 99, if_neg (nle (by omega) (by omega))]
    simp only [mS, mR, Y_0 h, Z_0_0 h, hp.y0]
    rw [if_pos trivial, if_pos ⟨trivial, by decide⟩, e1, Option.bind_some, nI_s]
    exact e2
theorem m_dealL (h : Lay L σ) {x : Nat} (hx : x ≤ 10) : ∀ (k i n : Nat) (F : Nat → Nat → Int32) (w3 w4 w5 : Value), F 100 0 = nI n → n + k ≤ 10 → i + k ≤ x → (i + k = x ∨ n + k = 10) → Rn 100 168 (17, [.ref 99, .int (nI x), .int (nI i), w3, w4, w5], [], (F, J, σ)) = some (some (.int (nI (i + k))), (up1 F 100 (dlN (F 100) n k), J, σ))
  | 0, i, n, F, w3, w4, w5, hn, h1, h2, h3 => by
    have n0 : rdI (F, J, σ) 100 0 = some (F 100 0) := rd_100 (i := 0) h (by decide)
    rw [q_168_17 99]
    have eF : up1 F 100 (dlN (F 100) n 0) = F := by
      funext a
      unfold up1
      by_cases ha : a = 100
      · rw [if_pos ha, ha]; rfl
      · rw [if_neg ha]
    rw [eF]
    by_cases hix : x ≤ i
    · rw [if_pos (yle hix (by omega)), Nat.add_zero]
    · rw [if_neg (nle (by omega) (by omega))]
      simp only [mS, mR, Y_99 h, Z_99_0 h, n0, hn, Option.bind_some]
      rw [if_pos trivial, if_pos (show (10 : Int32) ≤ nI n from yle (a := 10) (by omega) (by omega)), Nat.add_zero]
  | k + 1, i, n, F, w3, w4, w5, hn, h1, h2, h3 => by
    have n0 : rdI (F, J, σ) 100 0 = some (F 100 0) := rd_100 (i := 0) h (by decide)
    rw [q_168_17 99, if_neg (nle (by omega) (by omega))]
    have hn' : up1 F 100 (up1 (F 100) 3 (drZ (drZ (drZ (drZ (F 100 3)))))) 100 0 = nI n := by rw [up1_s, up1_n _ _ (by decide)]; exact hn
    simp only [mS, mR, Y_99 h, Z_99_0 h, n0, hn, Option.bind_some, m_drawn h, up1_s, up1_up1]
    rw [if_pos trivial, if_neg (show ¬ (10 : Int32) ≤ nI n from nle (a := 10) (by omega) (by decide)), if_pos ⟨trivial, by decide⟩, if_pos ⟨trivial, by decide⟩, if_pos ⟨trivial, by decide⟩, if_pos ⟨trivial, by decide⟩, if_pos ⟨trivial, by decide⟩, m_comes h hn' (by omega), Option.bind_some, nI_s, up1_s, up1_up1]
    rw [m_dealL h hx k (i + 1) (n + 1) _ _ _ _ (by rw [up1_s]; exact coS_k.1) (by omega) (by omega) (by omega), up1_s, up1_up1, show i + 1 + k = i + (k + 1) by omega]
    rfl
def deK (x : Int32) (n : Nat) : Nat := if 10 - n < x.toInt.toNat then 10 - n else x.toInt.toNat
def deS (x : Int32) (n : Nat) : Int32 := if 1 ≤ x ∧ x ≤ 10 then nI (deK x n) else -1000000001
theorem one10 {x : Int32} (h : 1 ≤ x ∧ x ≤ 10) : ∃ k, 1 ≤ k ∧ k ≤ 10 ∧ x = nI k := by
  obtain ⟨k, hk, e⟩ := (nI_ex (p := x) (n := 11) (by decide)).mp ⟨Int32.le_trans (by decide) h.1, by have e5 : x.toInt ≤ 10 := Int32.le_iff_toInt_le.mp h.2; rw [Int32.lt_iff_toInt_lt]; show x.toInt < 11; omega⟩
  refine ⟨k, ?_, by omega, e⟩
  have := Int32.le_iff_toInt_le.mp h.1
  rw [e, nI_toInt (by omega)] at this
  have h1 : (1 : Int32).toInt = 1 := rfl
  omega
theorem op_deal : OpI (Inv L xs) 91 168 1 := op1 fun q F J σ x hq I => by
  have h := I.lay
  have hp := PL_1 h
  by_cases hx : 1 ≤ x ∧ x ≤ 10
  · obtain ⟨k, hk1, hk2, rfl⟩ := one10 hx
    obtain ⟨n, m, t, P, B, T, z⟩ := I.rw
    have hn := P.1
    have ek : ∃ K, (if 10 - n < k then 10 - n else k) = K := ⟨_, rfl⟩
    obtain ⟨K, eK⟩ := ek
    have hK : K ≤ k ∧ n + K ≤ 10 ∧ (K = k ∨ n + K = 10) := by
      by_cases c : 10 - n < k
      · rw [if_pos c] at eK; omega
      · rw [if_neg c] at eK; omega
    obtain ⟨F1, e1, R1, f1⟩ := c_dealL (J := J) (x := nI k) h (show K ≤ 10 by omega) K 0 n F (F 100) I.rw P.2.1 hK.2.1 (by omega)
    have e100 : F1 100 = F 100 := f1 100 (by omega)
    have e2 := m_dealL (J := J) h hk2 K 0 n F1 un un un (by rw [e100]; exact P.2.1) hK.2.1 (by omega) (by omega)
    rw [e100, Nat.zero_add] at e2
    refine ⟨nI K, F1, J, σ, up1 F1 100 (dlN (F 100) n K), J, σ, ?_, h, by rw [f1 _ (by omega)], ?_, ?_⟩
    · refine i_91 (d := 99) ?_
      rw [q_91_0 99, c_within]
      simp only [Option.bind_some, b2i_0, mS, mR, mF, Y_0 h, Z_0_0 h, hp.y0, P.2.2.1]
      rw [if_neg (not_not_intro hx), if_pos trivial, if_pos trivial, show (10 : Int32) - nI n = nI (10 - n) from pk_sub (a := 10) (by omega)]
      have : (if nI (10 - n) < nI k then nI (10 - n) else nI k) = nI K := by
        by_cases c : 10 - n < k
        · rw [if_pos (ylt c (by omega))]; rw [if_pos c] at eK; rw [eK]
        · rw [if_neg (nlt (by omega) (by omega))]; rw [if_neg c] at eK; rw [eK]
      rw [this]
      exact e1
    · refine i_168 (d := 99) ?_
      rw [q_168_0 99, show cI 99 133 [.long (nI k).toInt64, .long 1, .long 10] (F1, J, σ) = _ from m_in (nI k) 1 10]
      simp only [Option.bind_some, b2i_0]
      rw [if_neg (not_not_intro hx)]
      exact e2
    · refine IV_row I (fun a ha => by rw [up1_ne _ _ (by omega), f1 a (by omega)]) (by unfold k99; rw [up1_ne _ _ (by decide), f1 99 (by omega)]; exact ⟨rfl, rfl, rfl⟩) ?_
      rw [up1_s]
      exact RW_up R1 (by omega) (by omega)
  · refine ⟨-1000000001, F, J, σ, F, J, σ, ?_, h, rfl, ?_, I.up⟩
    · refine i_91 (d := 99) ?_
      rw [q_91_0 99, c_within]
      simp only [Option.bind_some, b2i_0]
      rw [if_pos hx]
    · refine i_168 (d := 99) ?_
      rw [q_168_0 99, show cI 99 133 [.long x.toInt64, .long 1, .long 10] (F, J, σ) = _ from m_in x 1 10]
      simp only [Option.bind_some, b2i_0]
      rw [if_pos hx]
end OPC
