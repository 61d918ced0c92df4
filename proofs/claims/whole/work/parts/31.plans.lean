/-! PLANS by their first cell; the factor. -/
section PLANS
variable {L d : Nat} {F : Nat → Nat → Int32} {J : Nat → Nat → Int64} {σ : aSg} {μ : aMem}
theorem nI_s (i : Nat) : nI i + 1 = nI (i + 1) := by rw [show (1 : Int32) = nI 1 from rfl, nI_add]
theorem i3_ (i : Nat) : (54 : Int32) + 3 * nI i = nI (54 + 3 * i) := by rw [show (54 : Int32) = nI 54 from rfl, show (3 : Int32) = nI 3 from rfl, pk_mul, nI_add]
theorem i5_ (i : Nat) : (4 : Int32) + 5 * nI i = nI (4 + 5 * i) := by rw [show (4 : Int32) = nI 4 from rfl, show (5 : Int32) = nI 5 from rfl, pk_mul, nI_add]
theorem nI_2 (i : Nat) : nI i + 2 = nI (i + 2) := by rw [show (2 : Int32) = nI 2 from rfl, nI_add]
theorem nI_3 (i : Nat) : nI i + 3 = nI (i + 3) := by rw [show (3 : Int32) = nI 3 from rfl, nI_add]
theorem nI_4 (i : Nat) : nI i + 4 = nI (i + 4) := by rw [show (4 : Int32) = nI 4 from rfl, nI_add]
theorem rd_100 (h : Lay L σ) {i : Nat} (hi : i < 3114) : rdI (F, J, σ) 100 (nI i) = some (F 100 i) := rdI_nI (Y_100 h) hi (by decide)
theorem nle {a b : Nat} (h : b < a) (hb : a < 2 ^ 31) : ¬ nI a ≤ nI b := fun q => absurd ((Int32.le_iff_toInt_le).mp q) (by rw [nI_toInt (by omega), nI_toInt (by omega)]; omega)
theorem yle {a b : Nat} (h : a ≤ b) (hb : b < 2 ^ 31) : nI a ≤ nI b := (Int32.le_iff_toInt_le).mpr (by rw [nI_toInt (by omega), nI_toInt (by omega)]; omega)
theorem nlt {a b : Nat} (h : b ≤ a) (hb : a < 2 ^ 31) : ¬ nI a < nI b := fun q => absurd ((Int32.lt_iff_toInt_lt).mp q) (by rw [nI_toInt (by omega), nI_toInt (by omega)]; omega)
theorem ylt {a b : Nat} (h : a < b) (hb : b < 2 ^ 31) : nI a < nI b := (Int32.lt_iff_toInt_lt).mpr (by rw [nI_toInt (by omega), nI_toInt (by omega)]; omega)
/-- the cells of a plan at p -/
def PL (σ : aSg) (p : Nat) : Prop := p < 100 ∧ σ.2.1 p = (2, 7) ∧ (σ.1 p 0 = p + 1 ∧ σ.1 p 2 = p + 2 ∧ σ.1 p 3 = p + 6 ∧ σ.1 p 5 = p + 7) ∧ σ.2.1 (p + 1) = (12, 10) ∧ σ.2.1 (p + 2) = (0, 4) ∧ (σ.1 (p + 2) 0 = p + 3 ∧ σ.1 (p + 2) 1 = p + 4 ∧ σ.1 (p + 2) 2 = p + 5) ∧ (σ.2.1 (p + 3) = (10, 20) ∧ σ.2.1 (p + 4) = (10, 20) ∧ σ.2.1 (p + 5) = (10, 20)) ∧ σ.2.1 (p + 6) = (15, 14) ∧ σ.2.1 (p + 7) = (10, 3) ∧ (∀ k, k < 10 → σ.1 (p + 1) k = p + 8 + k) ∧ ∀ k, k < 10 → σ.2.1 (p + 8 + k) = (1, 5)
theorem PL.lt {p : Nat} (h : PL σ p) : p < 100 := h.1
theorem PL.y0 {p : Nat} (h : PL σ p) : σ.2.1 p = (2, 7) := h.2.1
theorem PL.z0 {p : Nat} (h : PL σ p) : σ.1 p 0 = p + 1 := h.2.2.1.1
theorem PL.z2 {p : Nat} (h : PL σ p) : σ.1 p 2 = p + 2 := h.2.2.1.2.1
theorem PL.z3 {p : Nat} (h : PL σ p) : σ.1 p 3 = p + 6 := h.2.2.1.2.2.1
theorem PL.z5 {p : Nat} (h : PL σ p) : σ.1 p 5 = p + 7 := h.2.2.1.2.2.2
theorem PL.y1 {p : Nat} (h : PL σ p) : σ.2.1 (p + 1) = (12, 10) := h.2.2.2.1
theorem PL.y2 {p : Nat} (h : PL σ p) : σ.2.1 (p + 2) = (0, 4) := h.2.2.2.2.1
theorem PL.b0 {p : Nat} (h : PL σ p) : σ.1 (p + 2) 0 = p + 3 := h.2.2.2.2.2.1.1
theorem PL.b1 {p : Nat} (h : PL σ p) : σ.1 (p + 2) 1 = p + 4 := h.2.2.2.2.2.1.2.1
theorem PL.b2 {p : Nat} (h : PL σ p) : σ.1 (p + 2) 2 = p + 5 := h.2.2.2.2.2.1.2.2
theorem PL.y3 {p : Nat} (h : PL σ p) : σ.2.1 (p + 3) = (10, 20) := h.2.2.2.2.2.2.1.1
theorem PL.y4 {p : Nat} (h : PL σ p) : σ.2.1 (p + 4) = (10, 20) := h.2.2.2.2.2.2.1.2.1
theorem PL.y5 {p : Nat} (h : PL σ p) : σ.2.1 (p + 5) = (10, 20) := h.2.2.2.2.2.2.1.2.2
theorem PL.y6 {p : Nat} (h : PL σ p) : σ.2.1 (p + 6) = (15, 14) := h.2.2.2.2.2.2.2.1
theorem PL.y7 {p : Nat} (h : PL σ p) : σ.2.1 (p + 7) = (10, 3) := h.2.2.2.2.2.2.2.2.1
theorem PL.zk {p k : Nat} (h : PL σ p) (hk : k < 10) : σ.1 (p + 1) k = p + 8 + k := h.2.2.2.2.2.2.2.2.2.1 k hk
theorem PL.yk {p k : Nat} (h : PL σ p) (hk : k < 10) : σ.2.1 (p + 8 + k) = (1, 5) := h.2.2.2.2.2.2.2.2.2.2 k hk
theorem PL_1 (h : Lay L σ) : PL σ 1 := ⟨by decide, Y_1 h, ⟨Z_1_0 h, Z_1_2 h, Z_1_3 h, Z_1_5 h⟩, Y_2 h, Y_3 h, ⟨Z_3_0 h, Z_3_1 h, Z_3_2 h⟩, ⟨Y_4 h, Y_5 h, Y_6 h⟩, Y_7 h, Y_8 h, (fun k hk => match k, hk with
  | 0, _ => Z_2_0 h
  | 1, _ => Z_2_1 h
  | 2, _ => Z_2_2 h
  | 3, _ => Z_2_3 h
  | 4, _ => Z_2_4 h
  | 5, _ => Z_2_5 h
  | 6, _ => Z_2_6 h
  | 7, _ => Z_2_7 h
  | 8, _ => Z_2_8 h
  | 9, _ => Z_2_9 h), (fun k hk => match k, hk with
  | 0, _ => Y_9 h
  | 1, _ => Y_10 h
  | 2, _ => Y_11 h
  | 3, _ => Y_12 h
  | 4, _ => Y_13 h
  | 5, _ => Y_14 h
  | 6, _ => Y_15 h
  | 7, _ => Y_16 h
  | 8, _ => Y_17 h
  | 9, _ => Y_18 h)⟩
theorem PL_19 (h : Lay L σ) : PL σ 19 := ⟨by decide, Y_19 h, ⟨Z_19_0 h, Z_19_2 h, Z_19_3 h, Z_19_5 h⟩, Y_20 h, Y_21 h, ⟨Z_21_0 h, Z_21_1 h, Z_21_2 h⟩, ⟨Y_22 h, Y_23 h, Y_24 h⟩, Y_25 h, Y_26 h, (fun k hk => match k, hk with
  | 0, _ => Z_20_0 h
  | 1, _ => Z_20_1 h
  | 2, _ => Z_20_2 h
  | 3, _ => Z_20_3 h
  | 4, _ => Z_20_4 h
  | 5, _ => Z_20_5 h
  | 6, _ => Z_20_6 h
  | 7, _ => Z_20_7 h
  | 8, _ => Z_20_8 h
  | 9, _ => Z_20_9 h), (fun k hk => match k, hk with
  | 0, _ => Y_27 h
  | 1, _ => Y_28 h
  | 2, _ => Y_29 h
  | 3, _ => Y_30 h
  | 4, _ => Y_31 h
  | 5, _ => Y_32 h
  | 6, _ => Y_33 h
  | 7, _ => Y_34 h
  | 8, _ => Y_35 h
  | 9, _ => Y_36 h)⟩
theorem PL_37 (h : Lay L σ) : PL σ 37 := ⟨by decide, Y_37 h, ⟨Z_37_0 h, Z_37_2 h, Z_37_3 h, Z_37_5 h⟩, Y_38 h, Y_39 h, ⟨Z_39_0 h, Z_39_1 h, Z_39_2 h⟩, ⟨Y_40 h, Y_41 h, Y_42 h⟩, Y_43 h, Y_44 h, (fun k hk => match k, hk with
  | 0, _ => Z_38_0 h
  | 1, _ => Z_38_1 h
  | 2, _ => Z_38_2 h
  | 3, _ => Z_38_3 h
  | 4, _ => Z_38_4 h
  | 5, _ => Z_38_5 h
  | 6, _ => Z_38_6 h
  | 7, _ => Z_38_7 h
  | 8, _ => Z_38_8 h
  | 9, _ => Z_38_9 h), (fun k hk => match k, hk with
  | 0, _ => Y_45 h
  | 1, _ => Y_46 h
  | 2, _ => Y_47 h
  | 3, _ => Y_48 h
  | 4, _ => Y_49 h
  | 5, _ => Y_50 h
  | 6, _ => Y_51 h
  | 7, _ => Y_52 h
  | 8, _ => Y_53 h
  | 9, _ => Y_54 h)⟩
def facF (s : Nat → Int32) (x : Int32) (i : Nat) (a : Int32 × Int32) : Int32 × Int32 := if x < 0 ∨ s (54 + 3 * i) = x then (a.1 + s (54 + 3 * i + 1), a.2 + s (54 + 3 * i + 2)) else a
def hol (v : Int32) : Int32 := if 1 ≤ v then (if v ≤ 999 then v else 999) else 1
def facS (s : Nat → Int32) (m : Nat) (x : Int32) : Int32 := if (iter (facF s x) 0 m (0, 0)).1 = 0 then 100 else hol (100 * (iter (facF s x) 0 m (0, 0)).2 / (iter (facF s x) 0 m (0, 0)).1)
theorem c_held {lo hi : Int32} (hl : lo ≤ hi) (v : Int32) : cI d 123 [.int v, .int lo, .int hi] μ = some (if lo < (if v < hi then v else hi) then (if v < hi then v else hi) else lo, μ) := by
  refine i_123 ?_
  rw [q_123_0]
  by_cases h1 : lo ≤ v
  · rw [if_pos h1]
    by_cases h2 : v ≤ hi
    · rw [if_pos h2]
      have e : (if v < hi then v else hi) = v := by
        by_cases h3 : v < hi
        · rw [if_pos h3]
        · rw [if_neg h3]; exact Int32.le_antisymm (Int32.not_lt.mp h3) h2
      rw [e]
      by_cases h4 : lo < v
      · rw [if_pos h4]
      · rw [if_neg h4, Int32.le_antisymm h1 (Int32.not_lt.mp h4)]
    · rw [if_neg h2, if_neg (fun h3 : v < hi => h2 (Int32.le_of_lt h3))]
      by_cases h4 : lo < hi
      · rw [if_pos h4]
      · rw [if_neg h4, Int32.le_antisymm hl (Int32.not_lt.mp h4)]
  · rw [if_neg h1, if_pos (Int32.lt_of_lt_of_le (Int32.not_le.mp h1) hl), if_neg (fun h4 : lo < v => h1 (Int32.le_of_lt h4))]
theorem hol_c (v : Int32) : (if (1 : Int32) < (if v < 999 then v else 999) then (if v < 999 then v else 999) else 1) = hol v := by
  unfold hol
  by_cases h1 : v < 999
  · rw [if_pos h1]
    by_cases h2 : (1 : Int32) < v
    · rw [if_pos h2, if_pos (Int32.le_of_lt h2), if_pos (Int32.le_of_lt h1)]
    · rw [if_neg h2]
      by_cases h3 : 1 ≤ v
      · rw [if_pos h3, if_pos (Int32.le_of_lt h1)]
        exact Int32.le_antisymm h3 (Int32.not_lt.mp h2)
      · rw [if_neg h3]
  · rw [if_neg h1, if_pos (by decide), if_pos (Int32.le_trans (by decide) (Int32.not_lt.mp h1))]
    by_cases h2 : v ≤ 999
    · rw [if_pos h2]
      exact Int32.le_antisymm (Int32.not_lt.mp h1) h2
    · rw [if_neg h2]
theorem c_fac {p m : Nat} {s : Nat → Int32} (hp : PL σ p) (B : BR F p s m) {x : Int32} (hx : x = -1 ∨ 0 ≤ x) : cI (d + 1) 3 [.ref (p + 2), .int x] (F, J, σ) = some (facS s m x, (F, J, σ)) := by
  obtain ⟨b1, b2, b3, b4⟩ := B
  refine i_3 ?_
  rw [q_3_0]
  have st : ∀ (i : Nat) (a : Int32 × Int32), i < m → Rn (d + 1) 3 (7, [.ref (p + 2), .int x, .int a.1, .int a.2, .int (nI i)], [], (F, J, σ)) = Rn (d + 1) 3 (7, [.ref (p + 2), .int x, .int (facF s x i a).1, .int (facF s x i a).2, .int (nI (i + 1))], [], (F, J, σ)) := by
    intro i a hi
    obtain ⟨g0, g1, g2, -⟩ := b4 i hi
    rw [q_3_7]
    simp only [mS, mR, mF, hp.y2, hp.b0, hp.b1, hp.b2, b3]
    rw [if_pos trivial, if_neg (nle hi (by omega)), rdI_nI hp.y3 (by omega) (by decide), rdI_nI hp.y4 (by omega) (by decide), rdI_nI hp.y5 (by omega) (by decide), g0, g1, g2, nI_s]
    simp only [Option.bind_some]
    unfold facF
    rcases hx with h1 | h1
    · rw [if_pos h1, if_pos (Or.inl (by rw [h1]; decide))]
    · have h2 : ¬ x = -1 := fun e => by rw [e] at h1; exact absurd h1 (by decide)
      rw [if_neg h2]
      by_cases h3 : x = s (54 + 3 * i)
      · rw [if_pos h3, if_pos (Or.inr h3.symm)]
      · rw [if_neg h3, if_neg (fun q => q.elim (fun e => (Int32.not_le.mpr e) h1) (fun e => h3 e.symm))]
  have e0 := loop_it (fun i (a : Int32 × Int32) => Rn (d + 1) 3 (7, [.ref (p + 2), .int x, .int a.1, .int a.2, .int (nI i)], [], (F, J, σ))) (facF s x) m st m 0 (0, 0) (by omega)
  refine (show _ = _ from e0).trans ?_
  rw [q_3_7]
  simp only [mS, mR, mF, hp.y2, b3]
  rw [if_pos trivial, if_pos (Int32.le_refl _)]
  unfold facS
  by_cases h1 : (iter (facF s x) 0 m (0, 0)).1 = 0
  · rw [if_pos h1, if_pos h1]
  · rw [if_neg h1, if_pos h1, if_neg h1, c_held (lo := 1) (hi := 999) (by decide), hol_c]
    rfl
theorem m_fac (h : Lay L σ) {m : Nat} (b1 : m ≤ 20) (b2 : F 100 1 = nI m) (x : Int32) : cI d 147 [.ref 99, .int x] (F, J, σ) = some (facS (F 100) m x, (F, J, σ)) := by
  refine i_147 ?_
  rw [q_147_0]
  have st : ∀ (i : Nat) (a : Int32 × Int32), i < m → ∀ w, ∃ w', Rn d 147 (7, [.ref 99, .int x, .int a.2, .int a.1, .int (nI i), w], [], (F, J, σ)) = Rn d 147 (7, [.ref 99, .int x, .int (facF (F 100) x i a).2, .int (facF (F 100) x i a).1, .int (nI (i + 1)), w'], [], (F, J, σ)) := by
    intro i a hi w
    refine ⟨.int (nI (54 + 3 * i)), ?_⟩
    rw [q_147_7]
    simp only [mS, mR, Y_99 h, Z_99_0 h]
    rw [if_pos trivial, show rdI (F, J, σ) 100 1 = some (F 100 1) from rd_100 (i := 1) h (by decide), b2, Option.bind_some, if_neg (nle hi (by omega)), i3_, nI_s, nI_s, nI_2, rd_100 h (by omega), rd_100 h (by omega), rd_100 h (by omega)]
    simp only [Option.bind_some]
    unfold facF
    by_cases h1 : x < 0
    · rw [if_pos h1, if_pos (Or.inl h1)]
    · rw [if_neg h1]
      by_cases h2 : F 100 (54 + 3 * i) = x
      · rw [if_pos h2, if_pos (Or.inr h2)]
      · rw [if_neg h2, if_neg (fun q => q.elim h1 h2)]
  have all : ∀ n i a w, i + n = m → ∃ w', Rn d 147 (7, [.ref 99, .int x, .int a.2, .int a.1, .int (nI i), w], [], (F, J, σ)) = Rn d 147 (7, [.ref 99, .int x, .int (iter (facF (F 100) x) i n a).2, .int (iter (facF (F 100) x) i n a).1, .int (nI m), w'], [], (F, J, σ)) := by
    intro n
    induction n with
    | zero => intro i a w e; rw [show i = m by omega]; exact ⟨w, rfl⟩
    | succ n ih =>
      intro i a w e
      obtain ⟨w1, e1⟩ := st i a (by omega) w
      obtain ⟨w2, e2⟩ := ih (i + 1) (facF (F 100) x i a) w1 (by omega)
      exact ⟨w2, e1.trans e2⟩
  obtain ⟨w', e0⟩ := all m 0 (0, 0) un (by omega)
  refine (show _ = _ from e0).trans ?_
  rw [q_147_7]
  simp only [mS, mR, Y_99 h, Z_99_0 h]
  rw [if_pos trivial, show rdI (F, J, σ) 100 1 = some (F 100 1) from rd_100 (i := 1) h (by decide), b2, Option.bind_some, if_pos (Int32.le_refl _)]
  unfold facS hol
  by_cases h1 : (iter (facF (F 100) x) 0 m (0, 0)).1 = 0
  · rw [if_pos h1, if_pos h1]
    rfl
  · rw [if_neg h1, if_pos h1, if_neg h1]
    by_cases h2 : 1 ≤ 100 * (iter (facF (F 100) x) 0 m (0, 0)).2 / (iter (facF (F 100) x) 0 m (0, 0)).1
    · rw [if_pos h2, if_pos h2]
      by_cases h3 : 100 * (iter (facF (F 100) x) 0 m (0, 0)).2 / (iter (facF (F 100) x) 0 m (0, 0)).1 ≤ 999
      · rw [if_pos h3, if_pos h3]
      · rw [if_neg h3, if_neg h3]
    · rw [if_neg h2, if_neg h2]
def faS (s : Nat → Int32) (m : Nat) (x : Int32) : Int32 := if -1 ≤ x ∧ x ≤ 2 then facS s m x else -1000000001
theorem m_factor (h : Lay L σ) {m : Nat} (b1 : m ≤ 20) (b2 : F 100 1 = nI m) (x : Int32) : cI 100 167 [.ref 99, .int x] (F, J, σ) = some (faS (F 100) m x, (F, J, σ)) := by
  refine i_167 (d := 99) ?_
  rw [q_167_0 99, show cI 99 133 [.long x.toInt64, .long (-1), .long 2] (F, J, σ) = _ from m_in x (-1) 2]
  simp only [Option.bind_some, b2i_0]
  unfold faS
  by_cases h1 : -1 ≤ x ∧ x ≤ 2
  · simp only [mS, Y_99 h]
    rw [if_neg (not_not_intro h1), if_pos h1, if_pos ⟨trivial, by decide⟩, m_fac h b1 b2]
    rfl
  · rw [if_pos h1, if_neg h1]
theorem c_factor (h : Lay L σ) {m : Nat} {s : Nat → Int32} (B : BR F 1 s m) (x : Int32) : cI 100 90 [.ref 0, .int x] (F, J, σ) = some (faS s m x, (F, J, σ)) := by
  refine i_90 (d := 99) ?_
  rw [q_90_0 99]
  have hp := PL_1 h
  simp only [mS, mR, Y_0 h, Z_0_0 h, hp.y0, hp.z2, hp.y2]
  unfold faS
  by_cases h1 : x = -1
  · rw [if_pos h1, if_pos trivial, if_pos trivial, if_pos ⟨trivial, by decide⟩, c_fac (d := 98) hp B (Or.inl h1), if_pos (by rw [h1]; decide)]
    rfl
  · rw [if_neg h1, c_isSort (d := 98)]
    simp only [Option.bind_some, b2i_0, mS, mR, Y_0 h, Z_0_0 h, hp.y0, hp.z2, hp.y2]
    have hq : (-1 ≤ x ∧ x ≤ 2) ↔ (0 ≤ x ∧ x ≤ 2) := by
      refine ⟨fun q => ⟨?_, q.2⟩, fun q => ⟨Int32.le_trans (by decide) q.1, q.2⟩⟩
      have q1 := Int32.le_iff_toInt_le.mp q.1
      have q2 : ¬ x.toInt = -1 := fun e => h1 (Int32.toInt_inj.mp e)
      rw [Int32.le_iff_toInt_le]
      have q3 : (-1 : Int) ≤ x.toInt := q1
      show (0 : Int) ≤ x.toInt
      omega
    by_cases h2 : 0 ≤ x ∧ x ≤ 2
    · rw [if_neg (not_not_intro h2), if_pos trivial, if_pos trivial, if_pos ⟨trivial, by decide⟩, c_fac (d := 98) hp B (Or.inr h2.1), if_pos (hq.mpr h2)]
      rfl
    · rw [if_pos h2, if_neg (fun e => h2 (hq.mp e))]
end PLANS
