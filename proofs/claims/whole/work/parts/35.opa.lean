/-! PAIRS OF CALLS, the first ones. -/
section OPA
variable {L d : Nat} {F F' : Nat → Nat → Int32} {J : Nat → Nat → Int64} {σ : aSg} {μ : aMem} {s s' xs : Nat → Int32}
def OpR (L : Nat) (xs : Nat → Int32) (q y y' : Nat) (as : List Value) (F : Nat → Nat → Int32) (J : Nat → Nat → Int64) (σ : aSg) : Prop := ∃ r F1 J1 σ1 F2 J2 σ2, cI 100 y (.ref 0 :: as) (F, J, σ) = some (r, (F1, J1, σ1)) ∧ Lay L σ1 ∧ F1 1000014 = F 1000014 ∧ cI 100 y' (.ref 99 :: as) (F1, J1, σ1) = some (r, (F2, J2, σ2)) ∧ IV L xs (q + 1) F2 σ2
theorem OpR.mk {q y y' : Nat} {as : List Value} (I : IV L xs q F σ) (H : OpR L xs q y y' as F J σ) : ∃ (r : Int32) (μ1 μ2 : aMem), cI 100 y (.ref 0 :: as) (F, J, σ) = some (r, μ1) ∧ (mS μ1 99).1 = 9 ∧ mS μ1 1000014 = mS (F, J, σ) 1000014 ∧ mF μ1 1000014 = mF (F, J, σ) 1000014 ∧ cI 100 y' (.ref 99 :: as) μ1 = some (r, μ2) ∧ Inv L xs (q + 1) μ2 := by
  obtain ⟨r, F1, J1, σ1, F2, J2, σ2, h1, h2, h3, h4, h5⟩ := H
  exact ⟨r, (F1, J1, σ1), (F2, J2, σ2), h1, congrArg Prod.fst (Y_99 h2), h2.2.2.1.trans I.lay.2.2.1.symm, h3, h4, h5⟩
theorem op0 {y y' : Nat} (H : ∀ q F J σ, q < 64 → IV L xs q F σ → OpR L xs q y y' [] F J σ) : OpI (Inv L xs) y y' 0 := by
  intro q μ as hl hq I
  match as, hl with
  | [], _ => exact OpR.mk I (H q μ.1 μ.2.1 μ.2.2 hq I)
theorem op1 {y y' : Nat} (H : ∀ q F J σ a, q < 64 → IV L xs q F σ → OpR L xs q y y' [.int a] F J σ) : OpI (Inv L xs) y y' 1 := by
  intro q μ as hl hq I
  match as, hl with
  | [a], _ => exact OpR.mk I (H q μ.1 μ.2.1 μ.2.2 a hq I)
theorem op2 {y y' : Nat} (H : ∀ q F J σ a b, q < 64 → IV L xs q F σ → OpR L xs q y y' [.int a, .int b] F J σ) : OpI (Inv L xs) y y' 2 := by
  intro q μ as hl hq I
  match as, hl with
  | [a, b], _ => exact OpR.mk I (H q μ.1 μ.2.1 μ.2.2 a b hq I)
theorem op3 {y y' : Nat} (H : ∀ q F J σ a b c, q < 64 → IV L xs q F σ → OpR L xs q y y' [.int a, .int b, .int c] F J σ) : OpI (Inv L xs) y y' 3 := by
  intro q μ as hl hq I
  match as, hl with
  | [a, b, c], _ => exact OpR.mk I (H q μ.1 μ.2.1 μ.2.2 a b c hq I)
theorem op4 {y y' : Nat} (H : ∀ q F J σ a b c e, q < 64 → IV L xs q F σ → OpR L xs q y y' [.int a, .int b, .int c, .int e] F J σ) : OpI (Inv L xs) y y' 4 := by
  intro q μ as hl hq I
  match as, hl with
  | [a, b, c, e], _ => exact OpR.mk I (H q μ.1 μ.2.1 μ.2.2 a b c e hq I)
theorem op5 {y y' : Nat} (H : ∀ q F J σ a b c e g, q < 64 → IV L xs q F σ → OpR L xs q y y' [.int a, .int b, .int c, .int e, .int g] F J σ) : OpI (Inv L xs) y y' 5 := by
  intro q μ as hl hq I
  match as, hl with
  | [a, b, c, e, g], _ => exact OpR.mk I (H q μ.1 μ.2.1 μ.2.2 a b c e g hq I)
theorem op_line : OpI (Inv L xs) 89 166 2 := op2 fun q F J σ a b hq I => by
  obtain ⟨n, m, t, P, B, T, z⟩ := I.rw
  exact ⟨_, F, J, σ, F, J, σ, c_line I.lay B a b, I.lay, rfl, m_line I.lay B a b, I.up⟩
theorem op_as : OpI (Inv L xs) 84 160 2 := op2 fun q F J σ a b hq I => by
  obtain ⟨n, m, t, P, B, T, z⟩ := I.rw
  exact ⟨_, F, J, σ, F, J, σ, c_as I.lay P a b, I.lay, rfl, m_as I.lay P a b, I.up⟩
theorem op_factor : OpI (Inv L xs) 90 167 1 := op1 fun q F J σ a hq I => by
  obtain ⟨n, m, t, P, B, T, z⟩ := I.rw
  exact ⟨_, F, J, σ, F, J, σ, c_factor I.lay B a, I.lay, rfl, m_factor I.lay B.1 B.2.1 a, I.up⟩
/-- a row with one of its first places changed, as the class's plan has it too -/
theorem RW_set {n m t k j : Nat} {v : Int32} (P : PR F 1 (F 100) n) (B : BR F 1 (F 100) m) (T : TR F σ 1 (F 100) t) (z : F 1 6 = F 100 3) (hk : k < n) (hj : j < 5) (hv : PK (up1 (F 100) (4 + 5 * k + j) v) k) : RW (cF F k j v) σ 1 (cF F k j v 100) := by
  have hn := P.1
  have hG : ∀ x, 124 ≤ x → x < 1000000 → cF F k j v x = F x := fun x h1 h2 => cF_out (by omega) (by omega)
  have hs : ∀ i, i < 4 ∨ 54 ≤ i → cF F k j v 100 i = F 100 i := fun i hi => by rw [cF_100 (by omega), up1_n _ _ (by omega)]
  refine ⟨n, m, t, PR_set P hk hj hv, ?_, ?_, ?_⟩
  · obtain ⟨b1, b2, b3, b4⟩ := B
    refine ⟨b1, (hs 1 (by omega)).trans b2, by rw [cF_out (by omega) (by omega)]; exact b3, fun i hi => ?_⟩
    rw [hs _ (by omega), hs _ (by omega), hs _ (by omega), cF_out (by omega) (by omega), cF_out (by omega) (by omega), cF_out (by omega) (by omega)]
    exact b4 i hi
  · obtain ⟨t1, t2, t3, t4, t5⟩ := T
    refine ⟨t1, (hs 2 (by omega)).trans t2, by rw [cF_out (by omega) (by omega)]; exact t3, fun i hi => TX_cg hG (fun j hj => hs _ (by omega)) (t4 i hi), fun k' hk' => ?_⟩
    rw [cF_out (by omega) (by omega), t5 k' hk', cntS_cg t _ (fun i hi => hs _ (by omega))]
  · rw [cF_out (by omega) (by omega), hs 3 (by omega)]
    exact z
theorem cF_kpt {k j : Nat} {v : Int32} (hk : k < 10) : ∀ a, kpt a → cF F k j v a = F a := fun a ha => cF_out (by omega) (by omega)
theorem cF_k99 {k j : Nat} {v : Int32} (hk : k < 10) : k99 (cF F k j v) F := by
  have : cF F k j v 99 = F 99 := cF_out (by omega) (by omega)
  unfold k99
  rw [this]
  exact ⟨rfl, rfl, rfl⟩
theorem IV_set {q k j n m t : Nat} {v : Int32} (I : IV L xs q F σ) (P : PR F 1 (F 100) n) (B : BR F 1 (F 100) m) (T : TR F σ 1 (F 100) t) (z : F 1 6 = F 100 3) (hk : k < n) (hj : j < 5) (hv : PK (up1 (F 100) (4 + 5 * k + j) v) k) : IV L xs (q + 1) (cF F k j v) σ := IV_row I (cF_kpt (by have := P.1; omega)) (cF_k99 (by have := P.1; omega)) (RW_set P B T z hk hj hv)
theorem PK_at {k j : Nat} {v : Int32} (h : PK s k) (hv : (j = 0 → 0 ≤ v ∧ v < 6) ∧ (j = 1 → 0 ≤ v ∧ v ≤ 99) ∧ (j = 2 → 0 ≤ v ∧ v ≤ 10) ∧ (j = 3 → 0 ≤ v ∧ v ≤ 2) ∧ (j = 4 → 0 ≤ v ∧ v < nI (2 ^ k))) (hj : j < 5) : PK (up1 s (4 + 5 * k + j) v) k := by
  obtain ⟨h0, h1, h2, h3, h4⟩ := h
  obtain ⟨v0, v1, v2, v3, v4⟩ := hv
  unfold PK
  match j, hj with
  | 0, _ =>
    rw [Nat.add_zero, up1_s, up1_n _ _ (by omega), up1_n _ _ (by omega), up1_n _ _ (by omega), up1_n _ _ (by omega)]
    exact ⟨v0 rfl, h1, h2, h3, h4⟩
  | 1, _ =>
    rw [up1_s, up1_n _ _ (by omega), up1_n _ _ (by omega), up1_n _ _ (by omega), up1_n _ _ (by omega)]
    exact ⟨h0, v1 rfl, h2, h3, h4⟩
  | 2, _ =>
    rw [up1_s, up1_n _ _ (by omega), up1_n _ _ (by omega), up1_n _ _ (by omega), up1_n _ _ (by omega)]
    exact ⟨h0, h1, v2 rfl, h3, h4⟩
  | 3, _ =>
    rw [up1_s, up1_n _ _ (by omega), up1_n _ _ (by omega), up1_n _ _ (by omega), up1_n _ _ (by omega)]
    exact ⟨h0, h1, h2, v3 rfl, h4⟩
  | 4, _ =>
    rw [up1_s, up1_n _ _ (by omega), up1_n _ _ (by omega), up1_n _ _ (by omega), up1_n _ _ (by omega)]
    exact ⟨h0, h1, h2, h3, v4 rfl⟩
theorem uF_ne (F : Nat → Nat → Int32) {a b : Nat} (k : Nat) (v : Int32) (h : b ≠ a) (j : Nat) : uF F a k v b j = F b j := by rw [uF_n _ _ _ h]
theorem op_turns : OpI (Inv L xs) 85 161 2 := op2 fun q F J σ x y hq I => by
  obtain ⟨n, m, t, P, B, T, z⟩ := I.rw
  have hn := P.1
  have hc := c_turns (J := J) I.lay P x y
  by_cases h1 : 0 ≤ x ∧ x < nI n
  · by_cases h2 : 0 ≤ y ∧ y ≤ 5
    · simp only [if_pos h1, if_pos h2] at hc
      obtain ⟨k, hk, rfl⟩ := (nI_ex (by omega)).mp h1
      rw [nI_toInt (show k < 2 ^ 31 by omega), Int.toNat_natCast] at hc
      have e : uF F (1 + 8 + k) 0 y 100 = F 100 := uF_n _ _ _ (by omega)
      have hm := m_turns (F := uF F (1 + 8 + k) 0 y) (J := J) (n := n) I.lay (by rw [e]; exact P.2.1) P.1 (nI k) y
      simp only [if_pos h1, if_pos h2, e] at hm
      rw [nI_toInt (show k < 2 ^ 31 by omega), Int.toNat_natCast] at hm
      refine ⟨_, _, _, _, _, _, _, hc, I.lay, by rw [uF_n _ _ _ (by omega)], hm, ?_⟩
      have h6 : y < 6 := by
        have := Int32.le_iff_toInt_le.mp h2.2
        rw [Int32.lt_iff_toInt_lt]
        have e5 : y.toInt ≤ 5 := this
        show y.toInt < 6
        omega
      exact IV_set (j := 0) I P B T z hk (by decide) (PK_at (P.2.2.2.2 k hk) ⟨fun _ => ⟨h2.1, h6⟩, fun h => absurd h (by decide), fun h => absurd h (by decide), fun h => absurd h (by decide), fun h => absurd h (by decide)⟩ (by decide))
    · have hm := m_turns (J := J) I.lay P.2.1 P.1 x y
      simp only [if_pos h1, if_neg h2] at hc hm
      exact ⟨_, F, J, σ, F, J, σ, hc, I.lay, rfl, hm, I.up⟩
  · have hm := m_turns (J := J) I.lay P.2.1 P.1 x y
    simp only [if_neg h1] at hc hm
    exact ⟨_, F, J, σ, F, J, σ, hc, I.lay, rfl, hm, I.up⟩
theorem op_set : OpI (Inv L xs) 86 162 3 := op3 fun q F J σ x w v hq I => by
  obtain ⟨n, m, t, P, B, T, z⟩ := I.rw
  have hn := P.1
  have hc := c_set (J := J) I.lay P x w v
  by_cases h1 : 0 ≤ x ∧ x < nI n
  · by_cases h2 : seK w v
    · simp only [if_pos h1, if_pos h2] at hc
      obtain ⟨k, hk, rfl⟩ := (nI_ex (by omega)).mp h1
      obtain ⟨j, hj, rfl⟩ : ∃ j, (j = 1 ∨ j = 2 ∨ j = 3) ∧ w = nI j := by
        rcases h2 with h | h | h
        · exact ⟨1, by decide, h.1⟩
        · exact ⟨2, by decide, h.1⟩
        · exact ⟨3, by decide, h.1⟩
      rw [nI_toInt (show k < 2 ^ 31 by omega), Int.toNat_natCast, nI_toInt (show j < 2 ^ 31 by omega), Int.toNat_natCast] at hc
      have e : uF F (1 + 8 + k) j v 100 = F 100 := uF_n _ _ _ (by omega)
      have hm := m_set (F := uF F (1 + 8 + k) j v) (J := J) (n := n) I.lay (by rw [e]; exact P.2.1) P.1 (nI k) (nI j) v
      simp only [if_pos h1, if_pos h2, e] at hm
      rw [nI_toInt (show k < 2 ^ 31 by omega), Int.toNat_natCast, nI_toInt (show j < 2 ^ 31 by omega), Int.toNat_natCast] at hm
      refine ⟨_, _, _, _, _, _, _, hc, I.lay, by rw [uF_n _ _ _ (by omega)], hm, ?_⟩
      refine IV_set (j := j) I P B T z hk (by omega) (PK_at (P.2.2.2.2 k hk) ?_ (by omega))
      have hj1 : ∀ i, i < 10 → (nI j = nI i ↔ j = i) := fun i hi => nI_eq (by omega) (by omega)
      refine ⟨fun h => by omega, fun h => ?_, fun h => ?_, fun h => ?_, fun h => by omega⟩
      · rcases h2 with g | g | g
        · exact g.2
        · exact absurd ((hj1 2 (by decide)).mp g.1) (by omega)
        · exact absurd ((hj1 3 (by decide)).mp g.1) (by omega)
      · rcases h2 with g | g | g
        · exact absurd ((hj1 1 (by decide)).mp g.1) (by omega)
        · exact g.2
        · exact absurd ((hj1 3 (by decide)).mp g.1) (by omega)
      · rcases h2 with g | g | g
        · exact absurd ((hj1 1 (by decide)).mp g.1) (by omega)
        · exact absurd ((hj1 2 (by decide)).mp g.1) (by omega)
        · exact g.2
    · have hm := m_set (J := J) I.lay P.2.1 P.1 x w v
      simp only [if_pos h1, if_neg h2] at hc hm
      exact ⟨_, F, J, σ, F, J, σ, hc, I.lay, rfl, hm, I.up⟩
  · have hm := m_set (J := J) I.lay P.2.1 P.1 x w v
    simp only [if_neg h1] at hc hm
    exact ⟨_, F, J, σ, F, J, σ, hc, I.lay, rfl, hm, I.up⟩
theorem ahV_in : ∀ k, k < 10 → ∀ w, w < 2 ^ k → ∀ x, x < k → ∀ v, v < 2 → 0 ≤ ahV (nI w) (nI x) (nI v) ∧ ahV (nI w) (nI x) (nI v) < nI (2 ^ k) := by decide +kernel
theorem op_ahead : OpI (Inv L xs) 87 163 3 := op3 fun q F J σ x y v hq I => by
  obtain ⟨n, m, t, P, B, T, z⟩ := I.rw
  have hn := P.1
  have hc := c_ahead (J := J) I.lay P x y v
  by_cases h1 : ahK n x y v
  · simp only [if_pos h1] at hc
    have h1' := h1
    obtain ⟨hx, hy, hxy, hv⟩ := h1'
    obtain ⟨i, hi, rfl⟩ := (nI_ex (by omega)).mp hx
    obtain ⟨k, hk, rfl⟩ := (nI_ex (by omega)).mp hy
    obtain ⟨u, hu, rfl⟩ : ∃ u, u < 2 ∧ v = nI u := (nI_ex (n := 2) (by decide)).mp ⟨hv.1, by have := Int32.le_iff_toInt_le.mp hv.2; rw [Int32.lt_iff_toInt_lt]; have e5 : v.toInt ≤ 1 := this; show v.toInt < 2; omega⟩
    rw [nI_toInt (show k < 2 ^ 31 by omega), Int.toNat_natCast] at hc
    have e : uF F (1 + 8 + k) 4 (ahV (F 100 (4 + 5 * k + 4)) (nI i) (nI u)) 100 = F 100 := uF_n _ _ _ (by omega)
    have hm := m_ahead (F := uF F (1 + 8 + k) 4 (ahV (F 100 (4 + 5 * k + 4)) (nI i) (nI u))) (J := J) (n := n) I.lay (by rw [e]; exact P.2.1) P.1 (nI i) (nI k) (nI u)
    simp only [if_pos h1, e] at hm
    rw [nI_toInt (show k < 2 ^ 31 by omega), Int.toNat_natCast] at hm
    refine ⟨_, _, _, _, _, _, _, hc, I.lay, by rw [uF_n _ _ _ (by omega)], hm, ?_⟩
    have hik : i < k := (nI_ltI (a := i) (b := k) (by omega) (by omega)).mp hxy
    have pk := P.2.2.2.2 k hk
    obtain ⟨w, hw, ew⟩ := (nI_ex (n := 2 ^ k) (by have : 2 ^ k ≤ 2 ^ 10 := Nat.pow_le_pow_right (by decide) (by omega); omega)).mp pk.2.2.2.2
    refine IV_set (j := 4) I P B T z hk (by omega) (PK_at pk ⟨fun h => by omega, fun h => by omega, fun h => by omega, fun h => by omega, fun _ => ?_⟩ (by omega))
    rw [ew]
    exact ahV_in k (by omega) w hw i hik u hu
  · have hm := m_ahead (J := J) I.lay P.2.1 P.1 x y v
    simp only [if_neg h1] at hc hm
    exact ⟨_, F, J, σ, F, J, σ, hc, I.lay, rfl, hm, I.up⟩
theorem op_seed : OpI (Inv L xs) 92 169 1 := op1 fun q F J σ v hq I => by
  obtain ⟨n, m, t, P, B, T, z⟩ := I.rw
  have hm := m_seed (F := uF F 1 6 v) (J := J) I.lay v
  rw [uF_ne _ _ _ (show 100 ≠ 1 by decide), ← z] at hm
  refine ⟨_, _, _, _, _, _, _, c_seed I.lay v, I.lay, by rw [uF_n _ _ _ (by omega)], hm, ?_⟩
  have h1 : uF (uF F 1 6 v) 100 3 v 100 = up1 (F 100) 3 v := by rw [uF_a, uF_n _ _ _ (by omega)]
  have h2 : ∀ a, a ≠ 1 → a ≠ 100 → uF (uF F 1 6 v) 100 3 v a = F a := fun a e1 e2 => by rw [uF_n _ _ _ e2, uF_n _ _ _ e1]
  have h3 : ∀ j, j ≠ 6 → uF (uF F 1 6 v) 100 3 v 1 j = F 1 j := fun j e => by rw [uF_n _ _ _ (by omega), uF_k _ _ _ e]
  refine IV_row I (fun a ha => h2 a (by omega) (by omega)) (by unfold k99; rw [h2 99 (by decide) (by decide)]; exact ⟨rfl, rfl, rfl⟩) ?_
  rw [h1]
  have hs : ∀ j, j ≠ 3 → up1 (F 100) 3 v j = F 100 j := fun j e => up1_n _ _ e
  refine ⟨n, m, t, ?_, ?_, ?_, ?_⟩
  · obtain ⟨p1, p2, p3, p4, p5⟩ := P
    refine ⟨p1, (hs 0 (by omega)).trans p2, (h3 1 (by omega)).trans p3, fun k hk j hj => ?_, fun k hk => ?_⟩
    · rw [h2 _ (by omega) (by omega), hs _ (by omega)]; exact p4 k hk j hj
    · have := p5 k hk
      unfold PK at this ⊢
      rw [hs _ (by omega), hs _ (by omega), hs _ (by omega), hs _ (by omega), hs _ (by omega)]
      exact this
  · obtain ⟨b1, b2, b3, b4⟩ := B
    refine ⟨b1, (hs 1 (by omega)).trans b2, by rw [h2 _ (by omega) (by omega)]; exact b3, fun i hi => ?_⟩
    rw [hs _ (by omega), hs _ (by omega), hs _ (by omega), h2 _ (by omega) (by omega), h2 _ (by omega) (by omega), h2 _ (by omega) (by omega)]
    exact b4 i hi
  · obtain ⟨t1, t2, t3, t4, t5⟩ := T
    refine ⟨t1, (hs 2 (by omega)).trans t2, (h3 4 (by omega)).trans t3, fun i hi => TX_cg (fun x h1 h2' => h2 x (by omega) (by omega)) (fun j hj => hs _ (by omega)) (t4 i hi), fun k' hk' => ?_⟩
    rw [h2 _ (by omega) (by omega), t5 k' hk', cntS_cg t _ (fun i hi => hs _ (by omega))]
  · rw [uF_n _ _ _ (by omega), uF_s, up1_s]
end OPA
