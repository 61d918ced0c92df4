/-! CHANCES: sums of the class. -/
section CHO
variable {L d : Nat} {F F' : Nat → Nat → Int32} {J J' : Nat → Nat → Int64} {σ : aSg} {μ : aMem} {s : Nat → Int32} {A wt g tl ln : Nat → Nat} {φ ψ : Nat → Nat}
theorem setJ_up (F : Nat → Nat → Int32) (J : Nat → Nat → Int64) (σ : aSg) (a k : Nat) (v : Int64) : setJ (F, J, σ) a k v = (F, up1 J a (up1 (J a) k v), σ) := rfl
def chN (s : Nat → Int32) (wt : Nat → Nat) (n e : Nat) : Nat := sR (phi s wt n e) (2 ^ n)
theorem c_fillJ {a n : Nat} (ha : σ.2.1 a = (11, n)) (hn : n < 2 ^ 31) (v : Int64) : cV d 232 [.ref a, .long v] (F, J, σ) = some (F, up1 J a (fun j => if j < n then v else J a j), σ) := by
  refine i_232 (v := none) ?_
  rw [q_232_0]
  have hl : ∀ K : Nat → Nat → Int64, rdL (F, K, σ) a = some (nI n) := fun K => by
    unfold rdL
    simp only [mS, ha]
    rw [if_pos (Or.inl ⟨by decide, by decide⟩)]
    rfl
  rw [hl, Option.bind_some]
  have go : ∀ k i, i + k = n → Rn d 232 (6, [.ref a, .long v, un, .int (nI i), .int (nI n)], [], (F, up1 J a (fun j => if j < i then v else J a j), σ)) = some (none, (F, up1 J a (fun j => if j < n then v else J a j), σ)) := by
    intro k
    induction k with
    | zero =>
      intro i e
      rw [q_232_6, if_pos (yle (by omega) (by omega)), show i = n by omega]
    | succ k ih =>
      intro i e
      rw [q_232_6, if_neg (nle (by omega) (by omega))]
      simp only [mS, ha, setJ_up, up1_s, up1_up1, ix_nI (show i < 2 ^ 31 by omega)]
      rw [if_pos ⟨trivial, inb_nI (by omega) hn⟩, nI_s]
      have e1 : up1 (fun j => if j < i then v else J a j) i v = fun j => if j < i + 1 then v else J a j := by
        funext j
        unfold up1
        by_cases c1 : j = i
        · rw [if_pos c1, if_pos (by omega)]
        · rw [if_neg c1]
          show (if j < i then v else J a j) = _
          by_cases c2 : j < i
          · rw [if_pos c2, if_pos (by omega)]
          · rw [if_neg c2, if_neg (by omega)]
      rw [e1]
      exact ih (i + 1) (by omega)
  have e0 : up1 J a (fun j => if j < 0 then v else J a j) = J := by
    have : (fun j => if j < 0 then v else J a j) = J a := by
      funext j
      rw [if_neg (by omega)]
    rw [this, up1_self]
  have g := go n 0 (by omega)
  rw [e0] at g
  exact g
theorem c_waitsL (h : Lay L σ) (ta : TA σ 1) {n m t : Nat} : ∀ (r k : Nat) (F : Nat → Nat → Int32), PR F 1 s n → BR F 1 s m → TR F σ 1 s t → (∀ q, q < k → F 57 q = nI (wN s t q)) → k + r = n → ∃ F', Rn 98 59 (10, [.ref 55, .ref 1, .int (nI k)], [], (F, J, σ)) = Rn 98 59 (10, [.ref 55, .ref 1, .int (nI n)], [], (F', J, σ)) ∧ (∀ b, b ≠ 57 → b ≠ 62 → F' b = F b) ∧ ∀ q, q < n → F' 57 q = nI (wN s t q) := by
  have hp := PL_1 h
  have t5 : True ∧ 55 < 999999 := ⟨trivial, by decide⟩
  intro r
  induction r with
  | zero =>
    intro k F P B T hs e
    have ek : k = n := by omega
    subst ek
    exact ⟨F, rfl, fun _ _ _ => rfl, hs⟩
  | succ r ih =>
    intro k F P B T hs e
    have n10 := P.1
    have hk : k < n := by omega
    have ib : True ∧ inb (nI k) 10 := ⟨trivial, inb_nI (by omega) (by decide)⟩
    obtain ⟨F1, a1, a2⟩ := c_waits (d := 95) (J := J) h hp ta P B T hk
    obtain ⟨F2, eF2⟩ : ∃ F2, F2 = up1 F1 57 (up1 (F1 57) k (waS s t k)) := ⟨_, rfl⟩
    have o2 : ∀ b, b ≠ 57 → b ≠ 62 → F2 b = F b := fun b h1 h2 => by rw [eF2, up1_ne _ _ h1, a2 b h2]
    obtain ⟨F3, b1, b2, b3⟩ := ih (k + 1) F2 (PR_cg (fun a h1 h2 => o2 a (by omega) (by omega)) (fun j _ => rfl) P) (BR_cg (fun a h1 h2 => o2 a (by omega) (by omega)) (fun j _ => rfl) B) (TR_cg (fun a h1 h2 => o2 a (by omega) (by omega)) (fun a h1 h2 => o2 a (by omega) (by omega)) (fun j _ => rfl) T) (fun q hq => by
      rw [eF2, up1_s]
      by_cases eq : q = k
      · rw [eq, up1_s]; exact (wN_eq s t k).1
      · rw [up1_n _ _ eq, a2 57 (by decide)]; exact hs q (by omega)) (by omega)
    refine ⟨F3, ?_, fun b h1 h2 => by rw [b2 b h1 h2, o2 b h1 h2], b3⟩
    rw [q_59_10 97]
    simp only [mS, mR, mF, hp.y0, hp.z0, hp.y1, P.2.2.1, if_true, Y_55 h, if_pos t5, ix_nI (show k < 2 ^ 31 by omega), hp.zk (show k < 10 by omega), Z_55_1 h]
    rw [if_neg (nle hk (by omega)), if_pos ⟨by decide, by decide, ib.2⟩, a1, Option.bind_some]
    simp only [Y_57 h, setF_up]
    rw [if_pos ib, ← eF2, nI_s]
    exact b1
theorem c_fillChances (h : Lay L σ) (ta : TA σ 1) {n m t : Nat} (P : PR F 1 s n) (B : BR F 1 s m) (T : TR F σ 1 s t) : ∃ F' J', cV 98 59 [.ref 55, .ref 1] (F, J, σ) = some (F', J', σ) ∧ (∀ b, b < 56 ∨ 62 < b → F' b = F b) ∧ ∀ e, e ≤ 2980 → J' 63 e = lN (chN s (wN s t) n e) := by
  have hp := PL_1 h
  have n10 := P.1
  have R := RK_of P B T
  have t5 : True ∧ 55 < 999999 := ⟨trivial, by decide⟩
  have cf := c_fillJ (d := 97) (F := F) (J := J) (Y_63 h) (by decide) 0
  obtain ⟨J0, eJ0⟩ : ∃ J0, J0 = up1 J 63 (fun j => if j < 2981 then (0 : Int64) else J 63 j) := ⟨_, rfl⟩
  rw [← eJ0] at cf
  obtain ⟨F1, a1, a2, a3⟩ := c_waitsL (J := J0) h ta n 0 F P B T (fun q hq => absurd hq (by omega)) (by omega)
  have P1 : PR F1 1 s n := PR_cg (fun a h1 h2 => a2 a (by omega) (by omega)) (fun j _ => rfl) P
  obtain ⟨F2, J2, b1, b2, b3, b4, b5⟩ := c_spread (d := 96 - n) (wt := wN s t) h R (fun k => (wN_eq s t k).2) n 0 0 0 1 F1 J0 (by omega) (by decide) P1 a3 (fun q hq => absurd hq (by omega)) rfl rfl
  rw [show 96 - n + 1 + n = 97 by omega] at b1
  refine ⟨F2, J2, ?_, fun b hb => by rw [b2 b (by omega), a2 b (by omega) (by omega)], fun e he => ?_⟩
  · refine i_59 (d := 97) (v := none) ?_
    rw [q_59_0 97]
    simp only [mS, mR, Y_55 h, Z_55_7 h, if_true, cf, Option.bind_some]
    refine (show _ = _ from a1).trans ?_
    rw [q_59_10 97]
    simp only [mS, mF, hp.y0, P1.2.2.1, if_true, Y_55 h, if_pos t5]
    rw [if_pos (Int32.le_refl _), show cV 97 60 [.ref 55, .ref 1, .int 0, .int 0, .long 1] (F1, J0, σ) = _ from b1]
    rfl
  · rw [b5 e, eJ0, up1_s]
    show (if e < 2981 then (0 : Int64) else J 63 e) + _ = _
    rw [if_pos (by omega), sumC_0, Int64.zero_add]
    rfl
theorem c_all (h : Lay L σ) {n : Nat} (n10 : n ≤ 10) (hn : F 1 1 = nI n) : cJ d 61 [.ref 55, .ref 1] (F, J, σ) = some (lN (10 ^ n), (F, J, σ)) := by
  have hp := PL_1 h
  refine i_61 ?_
  rw [q_61_0]
  have go : ∀ r k, k + r = n → Rn d 61 (5, [.ref 55, .ref 1, .long (lN (10 ^ k)), un, .int (nI k)], [], (F, J, σ)) = some (some (.long (lN (10 ^ n))), (F, J, σ)) := by
    intro r
    induction r with
    | zero =>
      intro k e
      rw [q_61_5]
      simp only [mS, mF, hp.y0, hn, if_true]
      rw [if_pos (yle (by omega) (by omega)), show k = n by omega]
    | succ r ih =>
      intro k e
      rw [q_61_5]
      simp only [mS, mF, hp.y0, hn, if_true]
      rw [if_neg (nle (by omega) (by omega)), show lN (10 ^ k) * 10 = lN (10 ^ k * 10) from lN_mul _ 10, ← Nat.pow_succ, nI_s]
      exact ih (k + 1) (by omega)
  exact go n 0 (by omega)
theorem sR_s (φ : Nat → Nat) (j : Nat) : sR φ (j + 1) = sR φ j + φ j := rfl
theorem c_upTo (h : Lay L σ) {c : Nat → Nat} (hc : ∀ e, e ≤ 2980 → J 63 e = lN (c e)) {T M : Nat} (hT : T ≤ 9999) (hM : M = if T < 2980 then T + 1 else 2981) (F : Nat → Nat → Int32) : ∀ r k, k + r = M → Rn 99 62 (10, [.ref 55, .ref 1, .int (nI T), .long (lN (sR c k)), un, .int (nI k)], [], (F, J, σ)) = some (some (.long (lN (sR c M))), (F, J, σ)) := by
  have hM2 : M ≤ 2981 ∧ M ≤ T + 1 ∧ (M = T + 1 ∨ M = 2981) := by
    by_cases q : T < 2980
    · rw [if_pos q] at hM; omega
    · rw [if_neg q] at hM; omega
  intro r
  induction r with
  | zero =>
    intro k e
    have ek : k = M := by omega
    subst ek
    rw [q_62_10 98]
    by_cases q : T < k
    · rw [if_pos (ylt q (by omega))]
    · rw [if_neg (nlt (by omega) (by omega)), if_pos (show (2980 : Int32) < nI k from ylt (a := 2980) (by omega) (by omega))]
  | succ r ih =>
    intro k e
    rw [q_62_10 98, if_neg (nlt (by omega) (by omega)), if_neg (show ¬ (2980 : Int32) < nI k from nlt (a := 2980) (by omega) (by decide))]
    simp only [mS, mR, mJ, Y_55 h, Z_55_7 h, Y_63 h, if_true, ix_nI (show k < 2 ^ 31 by omega), hc k (by omega), lN_add, nI_s]
    rw [if_pos ⟨trivial, inb_nI (by omega) (by decide)⟩, ← sR_s]
    exact ih (k + 1) (by omega)
theorem c_spanL (h : Lay L σ) {c : Nat → Nat} (hc : ∀ e, e ≤ 2980 → J 63 e = lN (c e)) {W0 i0 : Nat} (hb : ∀ k, k ≤ 2980 → 100 * sR c (k + 1) < 2 ^ 63) (hW : W0 < 2 ^ 63) (hi : i0 ≤ 2980) (h0 : W0 ≤ 100 * sR c (i0 + 1)) (hl : ∀ j, j < i0 → ¬ W0 ≤ 100 * sR c (j + 1)) (F : Nat → Nat → Int32) (x : Int32) : ∀ r k, k + r = i0 → Rn 99 63 (20, [.ref 55, .ref 1, .int x, .long (lN W0), un, .long (lN (sR c k)), un, .int (nI k)], [], (F, J, σ)) = some (some (.int (nI i0)), (F, J, σ)) := by
  have cm : ∀ k, (100 : Int64) * lN (sR c (k + 1)) = lN (100 * sR c (k + 1)) := fun k => lN_mul 100 _
  intro r
  induction r with
  | zero =>
    intro k e
    have ek : k = i0 := by omega
    subst ek
    rw [q_63_20 98, if_neg (show ¬ (2980 : Int32) < nI k from nlt (a := 2980) (by omega) (by decide))]
    simp only [mS, mR, mJ, Y_55 h, Z_55_7 h, Y_63 h, if_true, ix_nI (show k < 2 ^ 31 by omega), hc k (by omega), lN_add, ← sR_s, cm, lg_lt]
    rw [if_pos ⟨trivial, inb_nI (by omega) (by decide)⟩, if_neg (fun q => by have := (pk_lLT (hb k hi) hW).mp q; omega)]
  | succ r ih =>
    intro k e
    rw [q_63_20 98, if_neg (show ¬ (2980 : Int32) < nI k from nlt (a := 2980) (by omega) (by decide))]
    simp only [mS, mR, mJ, Y_55 h, Z_55_7 h, Y_63 h, if_true, ix_nI (show k < 2 ^ 31 by omega), hc k (by omega), lN_add, ← sR_s, cm, lg_lt, nI_s]
    rw [if_pos ⟨trivial, inb_nI (by omega) (by decide)⟩, if_pos ((pk_lLT (hb k (by omega)) hW).mpr (by have := hl k (by omega); omega))]
    exact ih (k + 1) (by omega)
theorem c_meanL (h : Lay L σ) {c : Nat → Nat} (hc : ∀ e, e ≤ 2980 → J 63 e = lN (c e)) (F : Nat → Nat → Int32) : ∀ r k, k + r = 2981 → Rn 99 64 (10, [.ref 55, .ref 1, .long (lN (sR (fun i => c i * i) k)), un, .int (nI k)], [], (F, J, σ)) = some (some (.long (lN (sR (fun i => c i * i) 2981))), (F, J, σ)) := by
  intro r
  induction r with
  | zero =>
    intro k e
    rw [q_64_10 98, show k = 2981 by omega, if_pos (by decide)]
  | succ r ih =>
    intro k e
    rw [q_64_10 98, if_neg (show ¬ (2980 : Int32) < nI k from nlt (a := 2980) (by omega) (by decide))]
    simp only [mS, mR, mJ, Y_55 h, Z_55_7 h, Y_63 h, if_true, ix_nI (show k < 2 ^ 31 by omega), hc k (by omega), nI_lN (show k < 2 ^ 31 by omega), lN_mul, lN_add, nI_s]
    rw [if_pos ⟨trivial, inb_nI (by omega) (by decide)⟩]
    exact ih (k + 1) (by omega)
/-! what the sums are -/
theorem sR_le : ∀ n, (∀ j, j < n → φ j ≤ ψ j) → sR φ n ≤ sR ψ n
  | 0, _ => Nat.le_refl _
  | n + 1, h => by
    have := sR_le n (fun j hj => h j (by omega))
    have := h n (by omega)
    rw [sR_s, sR_s]
    omega
theorem sR_tail : ∀ n m, m ≤ n → (∀ j, m ≤ j → j < n → φ j = 0) → sR φ n = sR φ m
  | 0, m, h, _ => by rw [show m = 0 by omega]
  | n + 1, m, h, h0 => by
    by_cases e : m = n + 1
    · rw [e]
    · rw [sR_s, sR_tail n m (by omega) (fun j a b => h0 j a (by omega)), h0 n (by omega) (by omega), Nat.add_zero]
theorem ch_sum (s : Nat → Int32) (wt : Nat → Nat) (n m : Nat) : sR (chN s wt n) m = sR (fun S => if teN (aN s) (lS (gN s) S) wt n < m then tw (tlN s) S n else 0) (2 ^ n) := by
  have e : sR (chN s wt n) m = sR (fun i => sR (phi s wt n i) (2 ^ n)) m := rfl
  rw [e, sR_sw]
  refine sR_cg _ (fun S _ => ?_)
  exact sR_one m
theorem tw_sum (n : Nat) : sR (fun S => tw (tlN s) S n) (2 ^ n) = 10 ^ n := by
  rw [← sumC_0, sumC_all (fun k => tlN_le k) n n 0 0 (by omega) (by decide)]
  show 1 * _ = _
  rw [Nat.one_mul]
theorem ch_le (s : Nat → Int32) (wt : Nat → Nat) (n m : Nat) : sR (chN s wt n) m ≤ 10 ^ n := by
  rw [ch_sum, ← tw_sum (s := s) n]
  refine sR_le _ (fun S _ => ?_)
  split <;> omega
end CHO
