/-! STAFFED: the weeks and what comes about in them. -/
section STI
variable {A ln ov : Nat → Nat} {b D : Nat → Bool} {n wk : Nat}
def pcF (f : Nat → Bool) : Nat → Nat
  | 0 => 0
  | k + 1 => pcF f k + (if f k = true then 1 else 0)
theorem pcF_s (f : Nat → Bool) (k : Nat) : pcF f (k + 1) = pcF f k + (if f k = true then 1 else 0) := rfl
theorem pcN_F (f : Nat → Bool) : ∀ k, k ≤ 10 → pcN (stN f 10) k = pcF f k
  | 0, _ => rfl
  | k + 1, h => by
    have ih : pcN (stN f 10) k = pcF f k := pcN_F f k (by omega)
    have hb := stN_bit (f := f) (p := k) 10 (by omega)
    show pcN (stN f 10) k + stN f 10 / 2 ^ k % 2 = _
    rw [pcF_s, ih]
    by_cases c : f k = true
    · rw [if_pos c, hb.mpr c]
    · rw [if_neg c]
      have : ¬ (stN f 10 / 2 ^ k % 2 = 1) := fun q => c (hb.mp q)
      omega
theorem cntB_F (f : Nat → Bool) : cntB f = pcF f 10 := pcN_F f 10 (by omega)
theorem pcF_up {f : Nat → Bool} {k : Nat} (h : f k = false) : ∀ j, pcF (up1 f k true) j = pcF f j + (if k < j then 1 else 0)
  | 0 => by rw [if_neg (by omega)]; rfl
  | j + 1 => by
    have ih : pcF (up1 f k true) j = pcF f j + (if k < j then 1 else 0) := pcF_up h j
    rw [pcF_s, pcF_s, ih]
    by_cases e : j = k
    · rw [e, up1_s, h, if_neg (show ¬ k < k by omega), if_pos (show k < k + 1 by omega), if_pos (show true = true from rfl), if_neg (show ¬ false = true by decide)]
    · rw [up1_n _ _ e]
      by_cases c : k < j
      · rw [if_pos c, if_pos (show k < j + 1 by omega)]; omega
      · rw [if_neg c, if_neg (show ¬ k < j + 1 by omega)]; omega
theorem pcF_ex {f : Nat → Bool} : ∀ j, 0 < pcF f j → ∃ k, k < j ∧ f k = true
  | 0, h => absurd h (Nat.lt_irrefl 0)
  | j + 1, h => by
    by_cases c : f j = true
    · exact ⟨j, by omega, c⟩
    · rw [pcF_s, if_neg c] at h
      obtain ⟨k, h1, h2⟩ := pcF_ex j h
      exact ⟨k, by omega, h2⟩
theorem pcF_le {f g : Nat → Bool} : ∀ j, (∀ k, k < j → f k = true → g k = true) → pcF f j ≤ pcF g j
  | 0, _ => Nat.le_refl _
  | j + 1, h => by
    have ih : pcF f j ≤ pcF g j := pcF_le j (fun k hk => h k (by omega))
    rw [pcF_s, pcF_s]
    by_cases c : f j = true
    · rw [if_pos c, if_pos (h j (by omega) c)]; omega
    · rw [if_neg c]; split <;> omega
theorem pcF_lt {f g : Nat → Bool} : ∀ j, (∀ k, k < j → f k = true → g k = true) → (∃ k, k < j ∧ f k = false ∧ g k = true) → pcF f j < pcF g j
  | 0, _, ⟨_, h, _⟩ => absurd h (Nat.not_lt_zero _)
  | j + 1, h, ⟨k, h1, h2, h3⟩ => by
    have hl : pcF f j ≤ pcF g j := pcF_le j (fun k hk => h k (by omega))
    rw [pcF_s, pcF_s]
    by_cases e : k = j
    · rw [← e, h2, h3, if_neg (by decide), if_pos rfl, e]; omega
    · have ih : pcF f j < pcF g j := pcF_lt j (fun k hk => h k (by omega)) ⟨k, by omega, h2, h3⟩
      by_cases c : f j = true
      · rw [if_pos c, if_pos (h j (by omega) c)]; omega
      · rw [if_neg c]; split <;> omega
theorem pcF_n (f : Nat → Bool) : ∀ j, pcF f j ≤ j
  | 0 => Nat.le_refl _
  | j + 1 => by
    have ih : pcF f j ≤ j := pcF_n f j
    rw [pcF_s]; split <;> omega
theorem dnK_mono {j : Nat} (h : D j = true) : ∀ k, dnK A ln ov wk b D k j = true
  | 0 => h
  | k + 1 => by
    have ih : dnK A ln ov wk b D k j = true := dnK_mono h k
    rw [dnK_s]
    split
    · by_cases e : j = k
      · rw [e, up1_s]
      · rw [up1_n _ _ e]; exact ih
    · exact ih
theorem dnK_get {k : Nat} (hk : k < n) (c : (b k = true ∧ ov k ≤ wk) ∨ (ln k = 0 ∧ sbs (A k) (dnK A ln ov wk b D k))) : dnK A ln ov wk b D n k = true := by
  have e1 := dnK_lo (A := A) (ln := ln) (ov := ov) (wk := wk) (b := b) (D := D) (show k < k + 1 by omega) (n - (k + 1))
  rw [show k + 1 + (n - (k + 1)) = n by omega] at e1
  rw [e1, dnK_s, if_pos c, up1_s]
theorem dnK_cl (hA : ∀ k, k < n → A k < 2 ^ k) {k : Nat} (hk : k < n) (h0 : ln k = 0) (hs : sbs (A k) (dnK A ln ov wk b D n)) : dnK A ln ov wk b D n k = true := by
  refine dnK_get hk (Or.inr ⟨h0, (sbs_lo (hA k hk) (fun j hj => ?_)).mp hs⟩)
  have e2 := dnK_lo (A := A) (ln := ln) (ov := ov) (wk := wk) (b := b) (D := D) hj (n - k)
  rw [show k + (n - k) = n by omega] at e2
  exact e2
theorem dnK_same (h : ∀ k, k < n → (b k = true ∧ ov k ≤ wk) ∨ (ln k = 0 ∧ sbs (A k) D) → D k = true) : ∀ k, k ≤ n → dnK A ln ov wk b D k = D
  | 0, _ => rfl
  | k + 1, hk => by
    have ih : dnK A ln ov wk b D k = D := dnK_same h k (by omega)
    rw [dnK_s, ih]
    split
    · rename_i c
      exact up1_id (h k (by omega) c)
    · rfl
variable {i : bSt}
theorem bgK_m0 {j : Nat} (h : i.1 j = true) : ∀ k, (bgK A ln wk D i k).1 j = true
  | 0 => h
  | k + 1 => by
    have ih : (bgK A ln wk D i k).1 j = true := bgK_m0 h k
    rw [bgK_s]
    split
    · show up1 _ k true j = true
      by_cases e : j = k
      · rw [e, up1_s]
      · rw [up1_n _ _ e]; exact ih
    · exact ih
theorem bgK_m {j k : Nat} (h : (bgK A ln wk D i k).1 j = true) : ∀ r, (bgK A ln wk D i (k + r)).1 j = true
  | 0 => h
  | r + 1 => by
    have ih : (bgK A ln wk D i (k + r)).1 j = true := bgK_m h r
    show (bgK A ln wk D i (k + r + 1)).1 j = true
    rw [bgK_s]
    split
    · show up1 _ (k + r) true j = true
      by_cases e : j = k + r
      · rw [e, up1_s]
      · rw [up1_n _ _ e]; exact ih
    · exact ih
theorem bgK_new {j : Nat} : ∀ k, (bgK A ln wk D i k).1 j = true → (i.1 j = true ∧ (bgK A ln wk D i k).2.1 j = i.2.1 j) ∨ (j < k ∧ D j = false ∧ sbs (A j) D ∧ (bgK A ln wk D i k).2.1 j = wk + ln j)
  | 0, h => Or.inl ⟨h, rfl⟩
  | k + 1, h => by
    rw [bgK_s] at h ⊢
    by_cases c : ¬ (bgK A ln wk D i k).2.2 ≤ 0 ∧ (bgK A ln wk D i k).1 k = false ∧ D k = false ∧ sbs (A k) D
    · rw [if_pos c] at h ⊢
      by_cases e : j = k
      · refine Or.inr ⟨by omega, by rw [e]; exact c.2.2.1, by rw [e]; exact c.2.2.2, ?_⟩
        show up1 _ k _ j = _
        rw [e, up1_s]
      · have h' : up1 (bgK A ln wk D i k).1 k true j = true := h
        rw [up1_n _ _ e] at h'
        have ih := bgK_new k h'
        show (_ ∧ up1 (bgK A ln wk D i k).2.1 k _ j = _) ∨ (_ ∧ _ ∧ _ ∧ up1 (bgK A ln wk D i k).2.1 k _ j = _)
        rw [up1_n _ _ e]
        rcases ih with q | q
        · exact Or.inl q
        · exact Or.inr ⟨by omega, q.2⟩
    · rw [if_neg c] at h ⊢
      rcases bgK_new k h with q | q
      · exact Or.inl q
      · exact Or.inr ⟨by omega, q.2⟩
theorem bgK_none (h : ¬ (bgK A ln wk D i n).2.2 ≤ 0) {k : Nat} (hk : k < n) : ¬ ((bgK A ln wk D i n).1 k = false ∧ D k = false ∧ sbs (A k) D) := fun q => by
  have hf : ¬ (bgK A ln wk D i k).2.2 ≤ 0 := fun z => h (by
    have := bgK_no (A := A) (ln := ln) (D := D) z (n - k)
    rw [show k + (n - k) = n by omega] at this
    rw [this]; exact z)
  have h0 : (bgK A ln wk D i k).1 k = false := by
    rw [Bool.eq_false_iff]
    intro z
    have := bgK_m z (n - k)
    rw [show k + (n - k) = n by omega, q.1] at this
    exact absurd this (by decide)
  have h1 : (bgK A ln wk D i (k + 1)).1 k = true := by
    rw [bgK_s, if_pos ⟨hf, h0, q.2⟩]
    exact up1_s _ _ _
  have := bgK_m h1 (n - (k + 1))
  rw [show k + 1 + (n - (k + 1)) = n by omega, q.1] at this
  exact absurd this (by decide)
theorem bgK_still (h : i.2.2 ≤ 0 ∨ ∀ k, k < n → ¬ (i.1 k = false ∧ D k = false ∧ sbs (A k) D)) : ∀ k, k ≤ n → bgK A ln wk D i k = i
  | 0, _ => rfl
  | k + 1, hk => by
    have ih : bgK A ln wk D i k = i := bgK_still h k (by omega)
    rw [bgK_s, ih, if_neg (fun q => ?_)]
    rcases h with z | z
    · exact q.1 z
    · exact z k (by omega) q.2
def sbt (b D : Nat → Bool) : Nat → Bool := fun k => b k && !D k
theorem sbt_t {b D : Nat → Bool} {k : Nat} : sbt b D k = true ↔ b k = true ∧ D k = false := by
  show (b k && !D k) = true ↔ _
  cases b k <;> cases D k <;> decide
theorem sbt_up {k : Nat} (h : D k = false) : sbt (up1 b k true) D = up1 (sbt b D) k true := by
  funext j
  by_cases e : j = k
  · show (up1 b k true j && !D j) = _
    rw [e, up1_s, up1_s, h]; rfl
  · show (up1 b k true j && !D j) = _
    rw [up1_n _ _ e, up1_n _ _ e]; rfl
theorem fr_s (x : Int32) (c : Nat) : x - nI c + (-1) = x - nI (c + 1) := by
  rw [← nI_s, Int32.sub_eq_add_neg, Int32.sub_eq_add_neg, Int32.neg_add, Int32.sub_eq_add_neg, Int32.add_assoc]
theorem bgK_free {pp : Int32} (hi : i.2.2 = pp - nI (cntB (sbt i.1 D))) : ∀ k, k ≤ 10 → (bgK A ln wk D i k).2.2 = pp - nI (cntB (sbt (bgK A ln wk D i k).1 D))
  | 0, _ => hi
  | k + 1, hk => by
    have ih : (bgK A ln wk D i k).2.2 = pp - nI (cntB (sbt (bgK A ln wk D i k).1 D)) := bgK_free hi k (by omega)
    rw [bgK_s]
    by_cases c : ¬ (bgK A ln wk D i k).2.2 ≤ 0 ∧ (bgK A ln wk D i k).1 k = false ∧ D k = false ∧ sbs (A k) D
    · rw [if_pos c]
      show (bgK A ln wk D i k).2.2 + (-1) = pp - nI (cntB (sbt (up1 (bgK A ln wk D i k).1 k true) D))
      have h0 : sbt (bgK A ln wk D i k).1 D k = false := by
        show ((bgK A ln wk D i k).1 k && _) = false
        rw [c.2.1]; rfl
      rw [sbt_up c.2.2.1, cntB_F, pcF_up h0, if_pos (by omega), ← cntB_F, ih, fr_s]
    · rw [if_neg c]; exact ih
theorem nwK_run {rn : Nat → Bool} {x k : Nat} (hr : rn k = true) : ∀ n, k < n → nwK rn ov x n ≤ ov k
  | 0, h => absurd h (Nat.not_lt_zero _)
  | n + 1, h => by
    rw [nwK_s]
    by_cases e : k = n
    · rw [← e, if_pos hr]; split <;> omega
    · have ih : nwK rn ov x n ≤ ov k := nwK_run hr n (by omega)
      split
      · split <;> omega
      · exact ih
theorem nwK_or {rn : Nat → Bool} {x : Nat} : ∀ n, nwK rn ov x n = x ∨ ∃ k, k < n ∧ rn k = true ∧ nwK rn ov x n = ov k
  | 0 => Or.inl rfl
  | n + 1 => by
    have ih : nwK rn ov x n = x ∨ ∃ k, k < n ∧ rn k = true ∧ nwK rn ov x n = ov k := nwK_or n
    have ih' : nwK rn ov x n = x ∨ ∃ k, k < n + 1 ∧ rn k = true ∧ nwK rn ov x n = ov k := by
      rcases ih with q | ⟨k, h1, h2⟩
      · exact Or.inl q
      · exact Or.inr ⟨k, by omega, h2⟩
    rw [nwK_s]
    by_cases c : rn n = true
    · rw [if_pos c]
      by_cases c2 : ov n < nwK rn ov x n
      · rw [if_pos c2]; exact Or.inr ⟨n, by omega, c, rfl⟩
      · rw [if_neg c2]; exact ih'
    · rw [if_neg c]; exact ih'
abbrev wSt : Type := (Nat → Bool) × (Nat → Nat) × (Nat → Bool)
def wDn (A ln : Nat → Nat) (n wk : Nat) (S : wSt) : Nat → Bool := dnK A ln S.2.1 wk S.1 S.2.2 n
def wBg (A ln : Nat → Nat) (n : Nat) (pp : Nat) (wk : Nat) (S : wSt) : bSt := bgK A ln wk (wDn A ln n wk S) (S.1, S.2.1, nI pp - nI (cntB (sbt S.1 (wDn A ln n wk S)))) n
def wSp (A ln : Nat → Nat) (n p p2 cl wk : Nat) (S : wSt) : wSt := if wk < cl then ((wBg A ln n p wk S).1, (wBg A ln n p wk S).2.1, wDn A ln n wk S) else if cl + 3 ≤ wk then ((wBg A ln n p2 wk S).1, (wBg A ln n p2 wk S).2.1, wDn A ln n wk S) else (S.1, S.2.1, wDn A ln n wk S)
def wNx (A ln : Nat → Nat) (n p p2 cl wk : Nat) (S : wSt) : Nat := nwK (sbt (wSp A ln n p p2 cl wk S).1 (wDn A ln n wk S)) (wSp A ln n p p2 cl wk S).2.1 (if cl + 3 ≤ wk then 1000000 else cl + 3) n
abbrev wAl (n : Nat) (f : Nat → Bool) : Prop := ∀ k, k < 10 → f k = decide (k < n)
def evT (A ln : Nat → Nat) (n p p2 cl : Nat) : Nat → wSt → Nat → Nat
  | 0, _, wk => wk
  | f + 1, S, wk => if wAl n (wDn A ln n wk S) then wk else evT A ln n p p2 cl f (wSp A ln n p p2 cl wk S) (wNx A ln n p p2 cl wk S)
theorem evT_s (A ln : Nat → Nat) (n p p2 cl f : Nat) (S : wSt) (wk : Nat) : evT A ln n p p2 cl (f + 1) S wk = if wAl n (wDn A ln n wk S) then wk else evT A ln n p p2 cl f (wSp A ln n p p2 cl wk S) (wNx A ln n p p2 cl wk S) := rfl
theorem evT_0 (A ln : Nat → Nat) (n p p2 cl : Nat) (S : wSt) (wk : Nat) : evT A ln n p p2 cl 0 S wk = wk := rfl
end STI
