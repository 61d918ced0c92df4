/-! STAFFED: begun and next; the class. -/
section STG
variable {L d : Nat} {F F' : Nat → Nat → Int32} {J J' : Nat → Nat → Int64} {σ : aSg} {μ : aMem} {s xs : Nat → Int32} {A ln ov : Nat → Nat} {b D : Nat → Bool}
abbrev bSt : Type := (Nat → Bool) × (Nat → Nat) × Int32
/-- who begins in a week, of the first k -/
def bgK (A ln : Nat → Nat) (wk : Nat) (D : Nat → Bool) (i : bSt) : Nat → bSt
  | 0 => i
  | k + 1 => if ¬ (bgK A ln wk D i k).2.2 ≤ 0 ∧ (bgK A ln wk D i k).1 k = false ∧ D k = false ∧ sbs (A k) D then (up1 (bgK A ln wk D i k).1 k true, up1 (bgK A ln wk D i k).2.1 k (wk + ln k), (bgK A ln wk D i k).2.2 + (-1)) else bgK A ln wk D i k
theorem bgK_s (wk : Nat) (i : bSt) (k : Nat) : bgK A ln wk D i (k + 1) = if ¬ (bgK A ln wk D i k).2.2 ≤ 0 ∧ (bgK A ln wk D i k).1 k = false ∧ D k = false ∧ sbs (A k) D then (up1 (bgK A ln wk D i k).1 k true, up1 (bgK A ln wk D i k).2.1 k (wk + ln k), (bgK A ln wk D i k).2.2 + (-1)) else bgK A ln wk D i k := rfl
theorem bgK_no {wk : Nat} {i : bSt} {k : Nat} (h : (bgK A ln wk D i k).2.2 ≤ 0) : ∀ j, bgK A ln wk D i (k + j) = bgK A ln wk D i k
  | 0 => rfl
  | j + 1 => by
    have ih : bgK A ln wk D i (k + j) = bgK A ln wk D i k := bgK_no h j
    show bgK A ln wk D i (k + j + 1) = _
    rw [bgK_s, ih, if_neg (fun q => q.1 h)]
theorem orF (f g : Nat → Bool) (k : Nat) : ((fun k => f k || g k) k = true) ↔ ¬ (f k = false ∧ g k = false) := by
  show (f k || g k) = true ↔ _
  cases f k <;> cases g k <;> decide
theorem c_begunIn (h : Lay L σ) {n m t wk : Nat} (R : RK s n m t) (hwk : wk < 2 ^ 29) (pp : Int32) (hln : ∀ q, q < n → ln q ≤ 999) : ∀ (r k : Nat) (F : Nat → Nat → Int32) (w9 : Value) (b0 : Int32), PR F 1 s n → (∀ q, q < n → F 56 q = nI (ln q)) → ∀ (i : bSt), (∀ q, q < n → (bgK (aN s) ln wk D i k).1 q = true → F 61 q = nI ((bgK (aN s) ln wk D i k).2.1 q)) → k + r = n → ∃ F', Rn (d + 1) 57 (21, [.ref 55, .ref 1, .int (nI wk), .int b0, .int (MK D), .int pp, .int (MK (bgK (aN s) ln wk D i k).1), .int (bgK (aN s) ln wk D i k).2.2, .int (nI k), w9], [], (F, J, σ)) = some (some (.int (MK (bgK (aN s) ln wk D i n).1)), (F', J, σ)) ∧ (∀ c, c ≠ 61 → F' c = F c) ∧ ∀ q, q < n → (bgK (aN s) ln wk D i n).1 q = true → F' 61 q = nI ((bgK (aN s) ln wk D i n).2.1 q) := by
  have hp := PL_1 h
  have n10 := R.1.1
  have h10 : ¬ (1 : Int32) = 0 := by decide
  intro r
  induction r with
  | zero =>
    intro k F w9 b0 P h56 i h61 e
    have ek : k = n := by omega
    subst ek
    refine ⟨F, ?_, fun _ _ => rfl, h61⟩
    rw [q_57_21]
    simp only [mS, mF, hp.y0, P.2.2.1, if_true]
    rw [if_pos (Int32.le_refl _)]
  | succ r ih =>
    intro k F w9 b0 P h56 i h61 e
    have hk : k < n := by omega
    obtain ⟨a1, a2, a3⟩ := aN_eq R hk
    have f4 : F (1 + 8 + k) 4 = nI (aN s k) := (P.2.2.2.1 k hk 4 (by decide)).trans a1
    have ib : inb (nI k) 10 := inb_nI (by omega) (by decide)
    have tA : 12 ≤ 12 ∧ 12 < 16 ∧ inb (nI k) 10 := ⟨by decide, by decide, ib⟩
    have tB' : True ∧ inb (nI k) 10 := ⟨trivial, ib⟩
    have i1 := ih (k + 1)
    rw [q_57_21]
    simp only [mS, mR, mF, hp.y0, hp.z0, hp.y1, P.2.2.1, if_true, Y_55 h, Z_55_0 h, Z_55_5 h, Y_61 h, ix_nI (show k < 2 ^ 31 by omega), hp.zk (show k < 10 by omega), hp.yk (show k < 10 by omega), f4, rd_k (Y_56 h) (show k < 10 by omega) (by decide), h56 k hk, Option.bind_some, sbs_z a3, if_neg h10, MK_or, MK_bit _ (show k < 10 by omega), MK_or1 _ (show k < 10 by omega), nI_s, nI_add, if_pos tA, if_pos tB', setF_up]
    rw [if_neg (nle hk (by omega))]
    by_cases cf : (bgK (aN s) ln wk D i k).2.2 ≤ 0
    · rw [if_pos cf]
      have en : bgK (aN s) ln wk D i n = bgK (aN s) ln wk D i k := by
        have := bgK_no (A := aN s) (ln := ln) (D := D) cf (n - k)
        rw [show k + (n - k) = n by omega] at this
        exact this
      rw [en]
      exact ⟨F, rfl, fun _ _ => rfl, h61⟩
    · rw [if_neg cf]
      by_cases co : (bgK (aN s) ln wk D i k).1 k = false ∧ D k = false
      · have c1 : ¬ (((fun k_1 => (bgK (aN s) ln wk D i k).1 k_1 || D k_1) k) = true) := fun q => (orF _ _ k).mp q co
        rw [if_neg c1, if_pos rfl]
        by_cases cs : sbs (aN s k) D
        · have es : bgK (aN s) ln wk D i (k + 1) = (up1 (bgK (aN s) ln wk D i k).1 k true, up1 (bgK (aN s) ln wk D i k).2.1 k (wk + ln k), (bgK (aN s) ln wk D i k).2.2 + (-1)) := by rw [bgK_s, if_pos ⟨cf, co.1, co.2, cs⟩]
          rw [if_pos cs]
          obtain ⟨F', g1, g2, g3⟩ := i1 (up1 F 61 (up1 (F 61) k (nI (wk + ln k)))) (.int 1) b0 (PR_cg (fun a h1 h2 => up1_ne _ _ (by omega)) (fun j _ => rfl) P) (fun q hq => by rw [up1_ne _ _ (by decide)]; exact h56 q hq) i (fun q hq hb => by
            rw [es] at hb ⊢
            rw [up1_s]
            show up1 (F 61) k _ q = nI (up1 (bgK (aN s) ln wk D i k).2.1 k (wk + ln k) q)
            by_cases eq : q = k
            · rw [eq, up1_s, up1_s]
            · rw [up1_n _ _ eq, up1_n _ _ eq]
              have hb' : up1 (bgK (aN s) ln wk D i k).1 k true q = true := hb
              rw [up1_n _ _ eq] at hb'
              exact h61 q hq hb') (by omega)
          rw [es] at g1
          exact ⟨F', g1, fun c hc => by rw [g2 c hc, up1_ne _ _ hc], g3⟩
        · have es : bgK (aN s) ln wk D i (k + 1) = bgK (aN s) ln wk D i k := by rw [bgK_s, if_neg (fun q => cs q.2.2.2)]
          rw [if_neg cs]
          have := i1 F (.int 1) b0 P h56 i (by rw [es]; exact h61) (by omega)
          rw [es] at this
          exact this
      · have c1 : ((fun k_1 => (bgK (aN s) ln wk D i k).1 k_1 || D k_1) k) = true := (orF _ _ k).mpr co
        have es : bgK (aN s) ln wk D i (k + 1) = bgK (aN s) ln wk D i k := by rw [bgK_s, if_neg (fun q => co ⟨q.2.1, q.2.2.1⟩)]
        rw [if_pos c1, if_neg h10]
        have := i1 F (.int 0) b0 P h56 i (by rw [es]; exact h61) (by omega)
        rw [es] at this
        exact this
/-- the next week in which a running one is over -/
def nwK (rn : Nat → Bool) (ov : Nat → Nat) (x : Nat) : Nat → Nat
  | 0 => x
  | k + 1 => if rn k = true then (if ov k < nwK rn ov x k then ov k else nwK rn ov x k) else nwK rn ov x k
theorem nwK_s (rn : Nat → Bool) (ov : Nat → Nat) (x k : Nat) : nwK rn ov x (k + 1) = if rn k = true then (if ov k < nwK rn ov x k then ov k else nwK rn ov x k) else nwK rn ov x k := rfl
theorem nwK_le {rn : Nat → Bool} {x : Nat} : ∀ k, nwK rn ov x k ≤ x
  | 0 => Nat.le_refl _
  | k + 1 => by
    have : nwK rn ov x k ≤ x := nwK_le k
    rw [nwK_s]
    split
    · split <;> omega
    · exact this
theorem c_next (h : Lay L σ) {n wk hf : Nat} {rn : Nat → Bool} (n10 : n ≤ 10) (hn : F 1 1 = nI n) (h61 : ∀ q, q < n → rn q = true → F 61 q = nI (ov q) ∧ ov q < 2 ^ 30) (hwk : wk < 2 ^ 30) (hhf : hf < 2 ^ 30) : cI d 58 [.ref 55, .ref 1, .int (nI wk), .int (MK rn), .int (nI hf)] (F, J, σ) = some (nI (nwK rn ov (if hf ≤ wk then 1000000 else hf) n), (F, J, σ)) := by
  have hp := PL_1 h
  obtain ⟨x, ex⟩ : ∃ x, x = if hf ≤ wk then 1000000 else hf := ⟨_, rfl⟩
  have hx : x < 2 ^ 30 := by rw [ex]; split <;> omega
  have go : ∀ r k, k + r = n → Rn d 58 (18, [.ref 55, .ref 1, .int (nI wk), .int (MK rn), .int (nI hf), .int (nI (nwK rn ov x k)), .int (nI k)], [], (F, J, σ)) = some (some (.int (nI (nwK rn ov x n))), (F, J, σ)) := by
    intro r
    induction r with
    | zero =>
      intro k e
      rw [q_58_18]
      simp only [mS, mF, hp.y0, hn, if_true]
      rw [if_pos (yle (by omega) (by omega)), show k = n by omega]
    | succ r ih =>
      intro k e
      have hk : k < n := by omega
      have i1 := ih (k + 1) (by omega)
      rw [nwK_s] at i1
      have nl := nwK_le (rn := rn) (ov := ov) (x := x) k
      rw [q_58_18]
      simp only [mS, mR, mF, hp.y0, hn, if_true, Y_55 h, Z_55_5 h, MK_bit rn (show k < 10 by omega), rd_k (Y_61 h) (show k < 10 by omega) (by decide), Option.bind_some, nI_s]
      rw [if_neg (nle hk (by omega))]
      by_cases c : rn k = true
      · obtain ⟨o1, o2⟩ := h61 k hk c
        rw [if_pos c] at i1
        rw [if_pos c, if_neg (by decide), o1]
        by_cases c2 : ov k < nwK rn ov x k
        · rw [if_pos c2] at i1
          rw [if_pos (ylt c2 (by omega))]
          exact i1
        · rw [if_neg c2] at i1
          rw [if_neg (nlt (by omega) (by omega))]
          exact i1
      · rw [if_neg c] at i1
        rw [if_neg c, if_pos rfl]
        exact i1
  refine i_58 ?_
  rw [q_58_0, ← ex]
  by_cases c : hf ≤ wk
  · rw [if_pos (yle c (by omega))]
    rw [if_pos c] at ex
    rw [ex] at go ⊢
    exact go n 0 (by omega)
  · rw [if_neg (nle (by omega) (by omega))]
    rw [if_neg c] at ex
    rw [ex] at go ⊢
    exact go n 0 (by omega)
end STG
