/-! THE NET. -/
section NET
variable {L d : Nat} {F F' : Nat → Nat → Int32} {J : Nat → Nat → Int64} {σ : aSg} {μ : aMem} {s s' xs : Nat → Int32} {A ln wt : Nat → Nat}
/-- the greatest e q of those of the first k that w has -/
def bgS (e : Nat → Nat) (w : Nat) : Nat → Nat
  | 0 => 0
  | q + 1 => if w / 2 ^ q % 2 = 1 then (if bgS e w q < e q then e q else bgS e w q) else bgS e w q
def enF (A ln wt : Nat → Nat) : Nat → Nat → Nat
  | 0 => fun _ => 0
  | k + 1 => up1 (enF A ln wt k) k (bgS (enF A ln wt k) (A k) k + wt k + ln k)
/-- begins and ends of part k -/
def bgN (A ln wt : Nat → Nat) (k : Nat) : Nat := bgS (enF A ln wt k) (A k) k + wt k
def enN (A ln wt : Nat → Nat) (k : Nat) : Nat := bgN A ln wt k + ln k
def mxN (f : Nat → Nat) : Nat → Nat
  | 0 => 0
  | k + 1 => if mxN f k < f k then f k else mxN f k
def teN (A ln wt : Nat → Nat) (n : Nat) : Nat := mxN (enN A ln wt) n
theorem enF_at {k j : Nat} : j < k → enF A ln wt k j = enN A ln wt j := by
  induction k with
  | zero => intro h; omega
  | succ k ih =>
    intro h
    show up1 (enF A ln wt k) k _ j = _
    by_cases e : j = k
    · rw [e, up1_s]; rfl
    · rw [up1_n _ _ e]; exact ih (by omega)
theorem bgS_cg {e f : Nat → Nat} {w : Nat} : ∀ k, (∀ q, q < k → e q = f q) → bgS e w k = bgS f w k
  | 0, _ => rfl
  | k + 1, h => by
    unfold bgS
    rw [bgS_cg k (fun q hq => h q (by omega)), h k (by omega)]
theorem bgN_eq (k : Nat) : bgN A ln wt k = bgS (enN A ln wt) (A k) k + wt k := by
  unfold bgN
  rw [bgS_cg k (fun q hq => enF_at hq)]
theorem bgS_le {e : Nat → Nat} {w B : Nat} : ∀ k, (∀ q, q < k → e q ≤ B) → bgS e w k ≤ B
  | 0, _ => Nat.zero_le _
  | k + 1, h => by
    have ih := bgS_le (w := w) k (fun q hq => h q (by omega))
    have := h k (by omega)
    unfold bgS
    split
    · split <;> omega
    · omega
theorem mxN_le {f : Nat → Nat} {B : Nat} : ∀ k, (∀ q, q < k → f q ≤ B) → mxN f k ≤ B
  | 0, _ => Nat.zero_le _
  | k + 1, h => by
    have ih := mxN_le k (fun q hq => h q (by omega))
    have := h k (by omega)
    unfold mxN
    split <;> omega
theorem le_mxN {f : Nat → Nat} : ∀ k q, q < k → f q ≤ mxN f k
  | 0, q, h => absurd h (by omega)
  | k + 1, q, h => by
    unfold mxN
    by_cases e : q = k
    · subst e; split <;> omega
    · have := le_mxN (f := f) k q (by omega)
      split <;> omega
theorem mxN_at {f : Nat → Nat} : ∀ k, mxN f k = 0 ∨ ∃ q, q < k ∧ mxN f k = f q
  | 0 => Or.inl rfl
  | k + 1 => by
    unfold mxN
    split
    · exact Or.inr ⟨k, by omega, rfl⟩
    · rcases mxN_at k with h | ⟨q, h1, h2⟩
      · exact Or.inl h
      · exact Or.inr ⟨q, by omega, h2⟩
abbrev LW (ln wt : Nat → Nat) (n : Nat) : Prop := ∀ k, k < n → ln k ≤ 999 ∧ wt k ≤ 99
theorem enN_le {n : Nat} (hb : LW ln wt n) : ∀ k, k < n → enN A ln wt k ≤ 1098 * (k + 1) := by
  intro k
  induction k using Nat.strongRecOn with
  | ind k ih =>
    intro hk
    have h1 : bgS (enN A ln wt) (A k) k ≤ 1098 * k := bgS_le k (fun q hq => Nat.le_trans (ih q hq (by omega)) (by omega))
    have h2 := hb k hk
    unfold enN
    rw [bgN_eq]
    omega
theorem teN_le {n : Nat} (hb : LW ln wt n) : teN A ln wt n ≤ 1098 * n := mxN_le n (fun q hq => Nat.le_trans (enN_le hb q hq) (by omega))
/-- the bits of who is ahead -/
def aN (s : Nat → Int32) (k : Nat) : Nat := (s (4 + 5 * k + 4)).toInt.toNat
theorem aN_eq {n m t k : Nat} (R : RK s n m t) (hk : k < n) : s (4 + 5 * k + 4) = nI (aN s k) ∧ aN s k < 2 ^ k ∧ aN s k < 1024 := by
  obtain ⟨w, h1, h2, h3⟩ := ahd_n R hk
  have e : aN s k = w := by unfold aN; rw [h3, nI_toInt (by omega), Int.toNat_natCast]
  rw [e]
  exact ⟨h3, h1, h2⟩
theorem bit01 {w k : Nat} : (nI (w / 2 ^ k % 2) = 0 ↔ ¬ w / 2 ^ k % 2 = 1) ∧ (nI (w / 2 ^ k % 2) = 1 ↔ w / 2 ^ k % 2 = 1) := by
  rcases Nat.mod_two_eq_zero_or_one (w / 2 ^ k) with e | e
  · rw [e]; decide
  · rw [e]; decide
theorem c_beginOf (h : Lay L σ) {p n m t k : Nat} (hp : PL σ p) (P : PR F p s n) (R : RK s n m t) (hk : k < n) {e : Nat → Nat} {wk : Nat} (he : ∀ q, q < k → F 59 q = nI (e q) ∧ e q < 2 ^ 30) (hw : F 57 k = nI wk) (hwk : wk ≤ 99) : cI d 45 [.ref 55, .ref p, .int (nI k)] (F, J, σ) = some (nI (bgS e (aN s k) k + wk), (F, J, σ)) := by
  have n10 := P.1
  obtain ⟨a1, a2, a3⟩ := aN_eq R hk
  have f4 : F (p + 8 + k) 4 = nI (aN s k) := (P.2.2.2.1 k hk 4 (by decide)).trans a1
  refine i_45 ?_
  rw [q_45_0]
  simp only [mS, mR, mF, hp.y0, hp.z0, hp.y1, ix_nI (show k < 2 ^ 31 by omega), hp.zk (show k < 10 by omega), hp.yk (show k < 10 by omega), if_true, f4]
  rw [if_pos ⟨by decide, by decide, inb_nI (by omega) (by decide)⟩]
  have go : ∀ r q, q + r = k → Rn d 45 (16, [.ref 55, .ref p, .int (nI k), .int (nI (aN s k)), .int (nI (bgS e (aN s k) q)), .int (nI q)], [], (F, J, σ)) = some (some (.int (nI (bgS e (aN s k) k + wk))), (F, J, σ)) := by
    intro r
    induction r with
    | zero =>
      intro q eq
      have eqk : q = k := by omega
      subst eqk
      rw [q_45_16, if_pos (Int32.le_refl _)]
      simp only [mS, mR, Y_55 h, Z_55_1 h, if_true]
      rw [rd_k (Y_57 h) (by omega) (by decide), hw, Option.bind_some, nI_add]
    | succ r ih =>
      intro q eq
      have := ih (q + 1) (by omega)
      rw [show bgS e (aN s k) (q + 1) = if aN s k / 2 ^ q % 2 = 1 then (if bgS e (aN s k) q < e q then e q else bgS e (aN s k) q) else bgS e (aN s k) q from rfl] at this
      have hb : bgS e (aN s k) q < 2 ^ 30 + 1 := Nat.lt_succ_of_le (bgS_le q (fun j hj => Nat.le_of_lt (he j (by omega)).2))
      obtain ⟨e1, e2⟩ := he q (by omega)
      rw [q_45_16, if_neg (nle (by omega) (by omega)), bitI (by omega) (by omega)]
      simp only [mS, mR, Y_55 h, Z_55_3 h, if_true, rd_k (Y_59 h) (show q < 10 by omega) (by decide), e1, Option.bind_some, nI_s]
      by_cases c : aN s k / 2 ^ q % 2 = 1
      · rw [if_pos c] at this
        rw [if_neg (fun z => (bit01.1.mp z) c)]
        by_cases c2 : bgS e (aN s k) q < e q
        · rw [if_pos c2] at this
          rw [if_pos (ylt c2 (by omega))]
          exact this
        · rw [if_neg c2] at this
          rw [if_neg (nlt (by omega) (by omega))]
          exact this
      · rw [if_neg c] at this
        rw [if_pos (bit01.1.mpr c)]
        exact this
  exact go k 0 (by omega)
theorem c_theEnd (h : Lay L σ) {p n m t : Nat} (hp : PL σ p) (hp2 : p + 17 < 55) (R : RK s n m t) (hb : LW ln wt n) : ∀ (r k : Nat) (F : Nat → Nat → Int32), PR F p s n → (∀ q, q < n → F 56 q = nI (ln q) ∧ F 57 q = nI (wt q)) → (∀ q, q < k → F 58 q = nI (bgN (aN s) ln wt q) ∧ F 59 q = nI (enN (aN s) ln wt q)) → k + r = n → ∃ F', Rn (d + 1) 46 (4, [.ref 55, .ref p, .int (nI (mxN (enN (aN s) ln wt) k)), .int (nI k)], [], (F, J, σ)) = some (some (.int (nI (teN (aN s) ln wt n))), (F', J, σ)) ∧ (∀ b, b ≠ 58 → b ≠ 59 → F' b = F b) ∧ ∀ q, q < n → F' 58 q = nI (bgN (aN s) ln wt q) ∧ F' 59 q = nI (enN (aN s) ln wt q)
  | 0, k, F, P, hl, hs, e => by
    have ek : k = n := by omega
    subst ek
    refine ⟨F, ?_, fun b _ _ => rfl, hs⟩
    rw [q_46_4]
    simp only [mS, mF, hp.y0, P.2.2.1, if_true]
    rw [if_pos (Int32.le_refl _)]
    rfl
  | r + 1, k, F, P, hl, hs, e => by
    have n10 := P.1
    have hk : k < n := by omega
    have t5 : True ∧ 55 < 999999 := ⟨trivial, by decide⟩
    have ib : inb (nI k) 10 := inb_nI (by omega) (by decide)
    have hen : ∀ q, q < n → enN (aN s) ln wt q ≤ 10980 := fun q hq => Nat.le_trans (enN_le hb q hq) (by omega)
    have cb := c_beginOf (d := d) (J := J) h hp P R hk (e := enN (aN s) ln wt) (wk := wt k) (fun q hq => ⟨(hs q hq).2, by have := hen q (by omega); omega⟩) (hl k hk).2 (hb k hk).2
    rw [← bgN_eq] at cb
    obtain ⟨F1, eF1⟩ : ∃ F1, F1 = up1 (up1 F 58 (up1 (F 58) k (nI (bgN (aN s) ln wt k)))) 59 (up1 (F 59) k (nI (enN (aN s) ln wt k))) := ⟨_, rfl⟩
    have o : ∀ b, b ≠ 58 → b ≠ 59 → F1 b = F b := fun b h1 h2 => by rw [eF1, up1_ne _ _ h2, up1_ne _ _ h1]
    have g8 : F1 58 = up1 (F 58) k (nI (bgN (aN s) ln wt k)) := by rw [eF1]; rfl
    have g9 : F1 59 = up1 (F 59) k (nI (enN (aN s) ln wt k)) := by rw [eF1]; rfl
    obtain ⟨F', g1, g2, g3⟩ := c_theEnd h hp hp2 R hb r (k + 1) F1 (PR_cg (fun a h1 h2 => o a (by omega) (by omega)) (fun j _ => rfl) P) (fun q hq => by rw [o 56 (by decide) (by decide), o 57 (by decide) (by decide)]; exact hl q hq) (fun q hq => by
      rw [g8, g9]
      by_cases eq : q = k
      · rw [eq, up1_s, up1_s]; exact ⟨rfl, rfl⟩
      · rw [up1_n _ _ eq, up1_n _ _ eq]; exact hs q (by omega)) (by omega)
    refine ⟨F', ?_, fun b h1 h2 => by rw [g2 b h1 h2, o b h1 h2], g3⟩
    rw [q_46_4]
    simp only [mS, mR, mF, hp.y0, P.2.2.1, if_true, Y_55 h, if_pos t5, Z_55_0 h, Z_55_2 h, Z_55_3 h, Y_58 h, Y_59 h, cb, Option.bind_some, setF_up, ix_nI (show k < 2 ^ 31 by omega)]
    rw [if_neg (nle hk (by omega)), if_pos ⟨trivial, ib⟩, rd_k (Y_58 h) (by omega) (by decide), Option.bind_some, rd_k (Y_56 h) (by omega) (by decide), Option.bind_some, if_pos ⟨trivial, ib⟩, rd_k (Y_59 h) (by omega) (by decide), Option.bind_some]
    simp only [up1_s, up1_n _ _ (show 56 ≠ 58 by decide), up1_n _ _ (show 59 ≠ 58 by decide), (hl k hk).1, nI_add, nI_s]
    have em : (if nI (mxN (enN (aN s) ln wt) k) < nI (bgN (aN s) ln wt k + ln k) then nI (bgN (aN s) ln wt k + ln k) else nI (mxN (enN (aN s) ln wt) k)) = nI (mxN (enN (aN s) ln wt) (k + 1)) := by
      have h1 := hen k hk
      have h2 : mxN (enN (aN s) ln wt) k ≤ 10980 := mxN_le k (fun q hq => hen q (by omega))
      show (if nI (mxN (enN (aN s) ln wt) k) < nI (enN (aN s) ln wt k) then _ else _) = nI (if mxN (enN (aN s) ln wt) k < enN (aN s) ln wt k then enN (aN s) ln wt k else mxN (enN (aN s) ln wt) k)
      by_cases c : mxN (enN (aN s) ln wt) k < enN (aN s) ln wt k
      · rw [if_pos (ylt c (by omega)), if_pos c]; rfl
      · rw [if_neg (nlt (by omega) (by omega)), if_neg c]
    rw [em]
    rw [eF1] at g1
    exact g1
theorem m_beginL (h : Lay L σ) {n m t k : Nat} (R : RK (F 100) n m t) (hk : k < n) {e ln : Nat → Nat} {b : Nat → Nat} (he : ∀ q, q < k → F 113 q = nI (b q) ∧ F 111 q = nI (ln q) ∧ b q + ln q = e q ∧ e q < 2 ^ 30) (x : Int32) : ∀ r q, q + r = k → Rn (d + 1) 154 (19, [.ref 99, .int x, .int (nI k), .int (nI (bgS e (aN (F 100) k) q)), .int (nI q)], [], (F, J, σ)) = Rn (d + 1) 154 (19, [.ref 99, .int x, .int (nI k), .int (nI (bgS e (aN (F 100) k) k)), .int (nI k)], [], (F, J, σ)) := by
  have n10 := R.1.1
  obtain ⟨a1, a2, a3⟩ := aN_eq R hk
  have t9 : True ∧ 99 < 999999 := ⟨trivial, by decide⟩
  have o4 : cI d 139 [.ref 99, .int (nI k), .int 4] (F, J, σ) = some (nI (aN (F 100) k), (F, J, σ)) := by rw [← a1]; exact m_of (w := 4) h (by omega) (by decide)
  intro r
  induction r with
  | zero => intro q eq; rw [show q = k by omega]
  | succ r ih =>
    intro q eq
    have := ih (q + 1) (by omega)
    rw [show bgS e (aN (F 100) k) (q + 1) = if aN (F 100) k / 2 ^ q % 2 = 1 then (if bgS e (aN (F 100) k) q < e q then e q else bgS e (aN (F 100) k) q) else bgS e (aN (F 100) k) q from rfl] at this
    have hb : bgS e (aN (F 100) k) q < 2 ^ 30 + 1 := Nat.lt_succ_of_le (bgS_le q (fun j hj => Nat.le_of_lt (he j (by omega)).2.2.2))
    obtain ⟨e1, e2, e3, e4⟩ := he q (by omega)
    rw [q_154_19, if_neg (nle (by omega) (by omega))]
    simp only [mS, mR, Y_99 h, if_pos t9, o4, Option.bind_some, bitI (show aN (F 100) k < 2 ^ 31 by omega) (show q < 32 by omega), if_true, Z_99_14 h, Z_99_12 h, rd_k (Y_113 h) (show q < 10 by omega) (by decide), rd_k (Y_111 h) (show q < 10 by omega) (by decide), e1, e2, nI_add, e3, m_greater, nI_s]
    by_cases c : aN (F 100) k / 2 ^ q % 2 = 1
    · rw [if_pos c] at this
      rw [if_pos (bit01.2.mpr c)]
      by_cases c2 : bgS e (aN (F 100) k) q < e q
      · rw [if_pos c2] at this
        rw [if_pos (yle (by omega) (by omega))]
        exact this
      · rw [if_neg c2] at this
        by_cases c3 : bgS e (aN (F 100) k) q = e q
        · rw [if_pos (yle (by omega) (by omega)), ← c3]; exact this
        · rw [if_neg (nle (by omega) (by omega))]; exact this
    · rw [if_neg c] at this
      rw [if_neg (fun z => c (bit01.2.mp z))]
      exact this
theorem m_endBy (h : Lay L σ) {n m t : Nat} (hb : LW ln wt n) : ∀ (r k : Nat) (F : Nat → Nat → Int32) (w3 w4 : Value), RK (F 100) n m t → (∀ q, q < n → F 111 q = nI (ln q) ∧ F 112 q = nI (wt q)) → (∀ q, q < k → F 113 q = nI (bgN (aN (F 100)) ln wt q)) → k + r = n → ∃ F', Rn (d + 1) 154 (4, [.ref 99, .int (nI (mxN (enN (aN (F 100)) ln wt) k)), .int (nI k), w3, w4], [], (F, J, σ)) = some (some (.int (nI (teN (aN (F 100)) ln wt n))), (F', J, σ)) ∧ (∀ b, b ≠ 113 → F' b = F b) ∧ ∀ q, q < n → F' 113 q = nI (bgN (aN (F 100)) ln wt q)
  | 0, k, F, w3, w4, R, hl, hs, e => by
    have ek : k = n := by omega
    subst ek
    refine ⟨F, ?_, fun b _ => rfl, hs⟩
    rw [q_154_4]
    simp only [mS, mR, Y_99 h, Z_99_0 h, if_true, show rdI (F, J, σ) 100 0 = some (F 100 0) from rd_100 (i := 0) h (by decide), R.1.2.1, Option.bind_some]
    rw [if_pos (Int32.le_refl _)]
    rfl
  | r + 1, k, F, w3, w4, R, hl, hs, e => by
    have n10 := R.1.1
    have hk : k < n := by omega
    have ib : inb (nI k) 10 := inb_nI (by omega) (by decide)
    have hen : ∀ q, q < n → enN (aN (F 100)) ln wt q ≤ 10980 := fun q hq => Nat.le_trans (enN_le hb q hq) (by omega)
    have ml := m_beginL (d := d) (J := J) (x := nI (mxN (enN (aN (F 100)) ln wt) k)) h R hk (e := enN (aN (F 100)) ln wt) (ln := ln) (b := bgN (aN (F 100)) ln wt) (fun q hq => ⟨hs q hq, (hl q (by omega)).1, rfl, by have := hen q (by omega); omega⟩) k 0 (by omega)
    obtain ⟨F1, eF1⟩ : ∃ F1, F1 = up1 F 113 (up1 (F 113) k (nI (bgN (aN (F 100)) ln wt k))) := ⟨_, rfl⟩
    have o : ∀ b, b ≠ 113 → F1 b = F b := fun b h1 => by rw [eF1, up1_ne _ _ h1]
    have o100 := o 100 (by decide)
    have g3' : F1 113 = up1 (F 113) k (nI (bgN (aN (F 100)) ln wt k)) := by rw [eF1, up1_s]
    have ih := fun w3 w4 => m_endBy h hb r (k + 1) F1 w3 w4 (by rw [o100]; exact R) (fun q hq => by rw [o 111 (by decide), o 112 (by decide)]; exact hl q hq) (fun q hq => by
      rw [o100, g3']
      by_cases eq : q = k
      · rw [eq, up1_s]
      · rw [up1_n _ _ eq]; exact hs q (by omega)) (by omega)
    rw [o100] at ih
    obtain ⟨F', g1, g2, g3⟩ := ih (.int (nI (bgS (enN (aN (F 100)) ln wt) (aN (F 100) k) k))) (.int (nI k))
    refine ⟨F', ?_, fun b h1 => by rw [g2 b h1, o b h1], g3⟩
    rw [q_154_4]
    simp only [mS, mR, Y_99 h, Z_99_0 h, if_true, show rdI (F, J, σ) 100 0 = some (F 100 0) from rd_100 (i := 0) h (by decide), R.1.2.1, Option.bind_some]
    rw [if_neg (nle hk (by omega))]
    refine (show _ = _ from ml).trans ?_
    rw [q_154_19, if_pos (Int32.le_refl _)]
    simp only [mS, mR, Y_99 h, Z_99_12 h, Z_99_13 h, Z_99_14 h, Y_113 h, if_true, rd_k (Y_112 h) (show k < 10 by omega) (by decide), (hl k hk).2, Option.bind_some, nI_add, ← bgN_eq, setF_up, ix_nI (show k < 2 ^ 31 by omega)]
    rw [if_pos ⟨trivial, ib⟩, ← eF1, rd_k (Y_113 h) (by omega) (by decide), Option.bind_some, rd_k (Y_111 h) (by omega) (by decide), Option.bind_some, g3', up1_s, o 111 (by decide), (hl k hk).1, nI_add, m_greater, Option.bind_some]
    simp only [nI_s]
    have em : (if nI (mxN (enN (aN (F 100)) ln wt) k) ≤ nI (bgN (aN (F 100)) ln wt k + ln k) then nI (bgN (aN (F 100)) ln wt k + ln k) else nI (mxN (enN (aN (F 100)) ln wt) k)) = nI (mxN (enN (aN (F 100)) ln wt) (k + 1)) := by
      have h1 := hen k hk
      have h2 : mxN (enN (aN (F 100)) ln wt) k ≤ 10980 := mxN_le k (fun q hq => hen q (by omega))
      show (if nI (mxN (enN (aN (F 100)) ln wt) k) ≤ nI (enN (aN (F 100)) ln wt k) then nI (enN (aN (F 100)) ln wt k) else _) = nI (if mxN (enN (aN (F 100)) ln wt) k < enN (aN (F 100)) ln wt k then enN (aN (F 100)) ln wt k else mxN (enN (aN (F 100)) ln wt) k)
      by_cases c : mxN (enN (aN (F 100)) ln wt) k < enN (aN (F 100)) ln wt k
      · rw [if_pos (yle (by omega) (by omega)), if_pos c]
      · rw [if_neg c]
        by_cases c3 : mxN (enN (aN (F 100)) ln wt) k = enN (aN (F 100)) ln wt k
        · rw [if_pos (yle (by omega) (by omega)), c3]
        · rw [if_neg (nle (by omega) (by omega))]
    rw [em]
    exact g1
end NET
