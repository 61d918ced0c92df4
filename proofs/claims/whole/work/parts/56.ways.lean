/-! WAYS, LATEST, SLACK. -/
section WAYS
variable {L d : Nat} {F F' : Nat → Nat → Int32} {J : Nat → Nat → Int64} {σ : aSg} {μ : aMem} {s s' xs : Nat → Int32} {A ln wt W : Nat → Nat}
/-- the longest way on from k over the next j parts -/
def mw (A ln wt W : Nat → Nat) (k : Nat) : Nat → Nat
  | 0 => 0
  | j + 1 => if A (k + 1 + j) / 2 ^ k % 2 = 1 then (if mw A ln wt W k j < wt (k + 1 + j) + ln (k + 1 + j) + W (k + 1 + j) then wt (k + 1 + j) + ln (k + 1 + j) + W (k + 1 + j) else mw A ln wt W k j) else mw A ln wt W k j
def WS (A ln wt W : Nat → Nat) (n : Nat) : Prop := ∀ k, k < n → W k = mw A ln wt W k (n - 1 - k) ∧ W k ≤ 1098 * (n - 1 - k)
theorem mw_cg {W' : Nat → Nat} {k : Nat} : ∀ j, (∀ i, k < i → W i = W' i) → mw A ln wt W k j = mw A ln wt W' k j
  | 0, _ => rfl
  | j + 1, h => by
    unfold mw
    rw [mw_cg j h, h (k + 1 + j) (by omega)]
theorem mw_le {k B : Nat} : ∀ j, (∀ i, i < j → A (k + 1 + i) / 2 ^ k % 2 = 1 → wt (k + 1 + i) + ln (k + 1 + i) + W (k + 1 + i) ≤ B) → mw A ln wt W k j ≤ B
  | 0, _ => Nat.zero_le _
  | j + 1, h => by
    have ih := mw_le j (fun i hi => h i (by omega))
    unfold mw
    by_cases c : A (k + 1 + j) / 2 ^ k % 2 = 1
    · have := h j (by omega) c
      rw [if_pos c]
      split <;> omega
    · rw [if_neg c]; exact ih
theorem le_mw {k : Nat} : ∀ j i, i < j → A (k + 1 + i) / 2 ^ k % 2 = 1 → wt (k + 1 + i) + ln (k + 1 + i) + W (k + 1 + i) ≤ mw A ln wt W k j
  | 0, i, h, _ => absurd h (by omega)
  | j + 1, i, h, hb => by
    unfold mw
    by_cases e : i = j
    · subst e
      rw [if_pos hb]
      split <;> omega
    · have := le_mw j i (by omega) hb
      split
      · split <;> omega
      · exact this
theorem le_bgS {e : Nat → Nat} {w : Nat} : ∀ k q, q < k → w / 2 ^ q % 2 = 1 → e q ≤ bgS e w k
  | 0, q, h, _ => absurd h (by omega)
  | k + 1, q, h, hb => by
    unfold bgS
    by_cases eq : q = k
    · subst eq
      rw [if_pos hb]
      split <;> omega
    · have := le_bgS (e := e) k q (by omega) hb
      split
      · split <;> omega
      · exact this
theorem bgS_at {e : Nat → Nat} {w : Nat} : ∀ k, bgS e w k = 0 ∨ ∃ q, q < k ∧ w / 2 ^ q % 2 = 1 ∧ bgS e w k = e q
  | 0 => Or.inl rfl
  | k + 1 => by
    have ih := bgS_at (e := e) (w := w) k
    have up : (bgS e w k = 0 ∨ ∃ q, q < k ∧ w / 2 ^ q % 2 = 1 ∧ bgS e w k = e q) → (bgS e w k = 0 ∨ ∃ q, q < k + 1 ∧ w / 2 ^ q % 2 = 1 ∧ bgS e w k = e q) := fun z => by
      rcases z with z | ⟨q, z1, z2⟩
      · exact Or.inl z
      · exact Or.inr ⟨q, by omega, z2⟩
    unfold bgS
    by_cases c : w / 2 ^ k % 2 = 1
    · rw [if_pos c]
      split
      · exact Or.inr ⟨k, by omega, c, rfl⟩
      · exact up ih
    · rw [if_neg c]; exact up ih
theorem en_step {q i : Nat} (hq : q < i) (hb : A i / 2 ^ q % 2 = 1) : enN A ln wt q + wt i + ln i ≤ enN A ln wt i := by
  have := le_bgS (e := enN A ln wt) i q hq hb
  show _ ≤ bgN A ln wt i + ln i
  rw [bgN_eq]
  omega
theorem W_step {n q i : Nat} (hW : WS A ln wt W n) (hq : q < i) (hi : i < n) (hb : A i / 2 ^ q % 2 = 1) : wt i + ln i + W i ≤ W q := by
  have := le_mw (W := W) (A := A) (ln := ln) (wt := wt) (k := q) (n - 1 - q) (i - (q + 1)) (by omega) (by rw [show q + 1 + (i - (q + 1)) = i by omega]; exact hb)
  rw [show q + 1 + (i - (q + 1)) = i by omega] at this
  rw [(hW q (by omega)).1]
  exact this
theorem en_W {n : Nat} (hW : WS A ln wt W n) : ∀ r k, k + r = n → k < n → enN A ln wt k + W k ≤ teN A ln wt n := by
  intro r
  induction r using Nat.strongRecOn with
  | ind r ih =>
    intro k e hk
    have h0 : enN A ln wt k ≤ teN A ln wt n := le_mxN n k hk
    have h1 : mw A ln wt W k (n - 1 - k) ≤ teN A ln wt n - enN A ln wt k := mw_le _ (fun i hi hb => by
      have a := en_step (A := A) (ln := ln) (wt := wt) (show k < k + 1 + i by omega) hb
      have b := ih (r - 1 - i) (by omega) (k + 1 + i) (by omega) (by omega)
      omega)
    rw [(hW k hk).1]
    omega
/-- what all but p take -/
def sx (ln wt : Nat → Nat) (p : Nat) : Nat → Nat
  | 0 => 0
  | j + 1 => if j = p then sx ln wt p j else sx ln wt p j + (ln j + wt j)
theorem sx_mono {p : Nat} : ∀ b a, a ≤ b → sx ln wt p a ≤ sx ln wt p b
  | 0, a, h => by rw [show a = 0 by omega]; exact Nat.le_refl _
  | b + 1, a, h => by
    by_cases e : a = b + 1
    · rw [e]; exact Nat.le_refl _
    · have : sx ln wt p a ≤ sx ln wt p b := sx_mono b a (by omega)
      show _ ≤ if b = p then _ else _
      split <;> omega
theorem sx_le {p n : Nat} (hb : LW ln wt n) : ∀ j, j ≤ n → sx ln wt p j ≤ 1098 * (if p < j then j - 1 else j)
  | 0, _ => Nat.zero_le _
  | j + 1, h => by
    have ih := sx_le (p := p) hb j (by omega)
    have := hb j (by omega)
    show (if j = p then _ else _) ≤ _
    by_cases e : j = p
    · rw [if_pos e, if_pos (by omega)]
      rw [if_neg (by omega)] at ih
      omega
    · rw [if_neg e]
      by_cases c : p < j
      · rw [if_pos (by omega)]; rw [if_pos c] at ih; omega
      · rw [if_neg (by omega)]; rw [if_neg c] at ih; omega
theorem off_p {n p : Nat} (hW : WS A ln wt W n) (hp : p < n) : ∀ j, j < n → enN A ln wt j + W j ≤ enN A ln wt p + W p ∨ enN A ln wt j ≤ sx ln wt p (j + 1) := by
  intro j
  induction j using Nat.strongRecOn with
  | ind j ih =>
    intro hj
    by_cases e : j = p
    · subst e; exact Or.inl (Nat.le_refl _)
    · have hs : sx ln wt p (j + 1) = sx ln wt p j + (ln j + wt j) := if_neg e
      have he : enN A ln wt j = bgS (enN A ln wt) (A j) j + wt j + ln j := by
        show bgN A ln wt j + ln j = _
        rw [bgN_eq]
      rcases bgS_at (e := enN A ln wt) (w := A j) j with c | ⟨q, q1, q2, q3⟩
      · right; omega
      · rcases ih q q1 (by omega) with g | g
        · left
          have := W_step hW q1 hj q2
          omega
        · right
          have := sx_mono (ln := ln) (wt := wt) (p := p) j (q + 1) (by omega)
          omega
theorem slack_le {n p : Nat} (hW : WS A ln wt W n) (hb : LW ln wt n) (n10 : n ≤ 10) (hp : p < n) : teN A ln wt n - W p - enN A ln wt p ≤ 9999 := by
  rcases mxN_at (f := enN A ln wt) n with c | ⟨j, h1, h2⟩
  · have e : teN A ln wt n = 0 := c
    omega
  · have e : teN A ln wt n = enN A ln wt j := h2
    rcases off_p hW hp j h1 with g | g
    · omega
    · have a := sx_mono (ln := ln) (wt := wt) (p := p) n (j + 1) (by omega)
      have b := sx_le (p := p) hb n (Nat.le_refl _)
      rw [if_pos hp] at b
      omega
theorem c_wayI (h : Lay L σ) {p n m t k : Nat} (hp : PL σ p) (hp2 : p + 17 < 55) (R : RK s n m t) (hb : LW ln wt n) (hk : k < n) : ∀ (r j : Nat) (F : Nat → Nat → Int32), PR F p s n → (∀ q, q < n → F 56 q = nI (ln q) ∧ F 57 q = nI (wt q)) → (∀ i, k < i → i < n → F 60 i = nI (W i) ∧ W i ≤ 1098 * (n - 1 - i)) → F 60 k = nI (mw (aN s) ln wt W k j) → j + r = n - 1 - k → ∃ F' w, Rn d 50 (22, [.ref 55, .ref p, .int (nI k), .int (nI (k + 1 + j))], [], (F, J, σ)) = Rn d 50 (7, [.ref 55, .ref p, .int (nI k + (-1)), w], [], (F', J, σ)) ∧ (∀ b, b ≠ 60 → F' b = F b) ∧ (∀ i, i ≠ k → F' 60 i = F 60 i) ∧ F' 60 k = nI (mw (aN s) ln wt W k (n - 1 - k))
  | 0, j, F, P, hl, hw, hm, e => by
    have n10 := P.1
    refine ⟨F, .int (nI (k + 1 + j)), ?_, fun b _ => rfl, fun i _ => rfl, by rw [hm, show j = n - 1 - k by omega]⟩
    rw [q_50_22]
    simp only [mS, mF, hp.y0, P.2.2.1, if_true]
    rw [if_pos (yle (by omega) (by omega))]
  | r + 1, j, F, P, hl, hw, hm, e => by
    have n10 := P.1
    have hi : k + 1 + j < n := by omega
    have t5 : True ∧ 55 < 999999 := ⟨trivial, by decide⟩
    obtain ⟨a1, a2, a3⟩ := aN_eq R hi
    have f4 : F (p + 8 + (k + 1 + j)) 4 = nI (aN s (k + 1 + j)) := (P.2.2.2.1 _ hi 4 (by decide)).trans a1
    have hmb : mw (aN s) ln wt W k j ≤ 10980 := mw_le j (fun i hi2 _ => by have := (hw (k + 1 + i) (by omega) (by omega)).2; have := hb (k + 1 + i) (by omega); omega)
    obtain ⟨w1, w2⟩ := hw (k + 1 + j) (by omega) hi
    have hbi := hb (k + 1 + j) hi
    have mstep : mw (aN s) ln wt W k (j + 1) = if aN s (k + 1 + j) / 2 ^ k % 2 = 1 then (if mw (aN s) ln wt W k j < wt (k + 1 + j) + ln (k + 1 + j) + W (k + 1 + j) then wt (k + 1 + j) + ln (k + 1 + j) + W (k + 1 + j) else mw (aN s) ln wt W k j) else mw (aN s) ln wt W k j := rfl
    rw [q_50_22]
    simp only [mS, mR, mF, hp.y0, hp.z0, hp.y1, P.2.2.1, if_true, ix_nI (show k + 1 + j < 2 ^ 31 by omega), hp.zk (show k + 1 + j < 10 by omega), hp.yk (show k + 1 + j < 10 by omega), f4, bitI (show aN s (k + 1 + j) < 2 ^ 31 by omega) (show k < 32 by omega), Y_55 h, Z_55_0 h, Z_55_1 h, Z_55_4 h, Y_60 h, rd_k (Y_60 h) (show k < 10 by omega) (by decide), rd_k (Y_57 h) (show k + 1 + j < 10 by omega) (by decide), rd_k (Y_56 h) (show k + 1 + j < 10 by omega) (by decide), rd_k (Y_60 h) (show k + 1 + j < 10 by omega) (by decide), Option.bind_some, hm, (hl _ hi).1, (hl _ hi).2, w1, nI_add, nI_s, setF_up, ix_nI (show k < 2 ^ 31 by omega)]
    rw [if_neg (nle (by omega) (by omega)), if_pos ⟨by decide, by decide, inb_nI (by omega) (by decide)⟩]
    by_cases c : aN s (k + 1 + j) / 2 ^ k % 2 = 1
    · rw [if_neg (fun z => (bit01.1.mp z) c), if_pos ⟨trivial, inb_nI (by omega) (by decide)⟩]
      rw [if_pos c] at mstep
      have ev : (if nI (mw (aN s) ln wt W k j) < nI (wt (k + 1 + j) + ln (k + 1 + j) + W (k + 1 + j)) then nI (wt (k + 1 + j) + ln (k + 1 + j) + W (k + 1 + j)) else nI (mw (aN s) ln wt W k j)) = nI (mw (aN s) ln wt W k (j + 1)) := by
        rw [mstep]
        by_cases c2 : mw (aN s) ln wt W k j < wt (k + 1 + j) + ln (k + 1 + j) + W (k + 1 + j)
        · rw [if_pos (ylt c2 (by omega)), if_pos c2]
        · rw [if_neg (nlt (by omega) (by omega)), if_neg c2]
      rw [ev]
      obtain ⟨F', w, g1, g2, g3, g4⟩ := c_wayI h hp hp2 R hb hk r (j + 1) (up1 F 60 (up1 (F 60) k (nI (mw (aN s) ln wt W k (j + 1))))) (PR_cg (fun a h1 h2 => up1_ne _ _ (by omega)) (fun j _ => rfl) P) (fun q hq => by rw [up1_ne _ _ (by decide), up1_ne _ _ (by decide)]; exact hl q hq) (fun i h1 h2 => by rw [up1_s, up1_n _ _ (by omega)]; exact hw i h1 h2) (by rw [up1_s, up1_s]) (by omega)
      exact ⟨F', w, g1, fun b hb => by rw [g2 b hb, up1_ne _ _ hb], fun i hi => by rw [g3 i hi, up1_s, up1_n _ _ hi], g4⟩
    · rw [if_pos (bit01.1.mpr c)]
      rw [if_neg c] at mstep
      obtain ⟨F', w, g1, g2, g3, g4⟩ := c_wayI h hp hp2 R hb hk r (j + 1) F P hl hw (by rw [mstep]; exact hm) (by omega)
      exact ⟨F', w, g1, g2, g3, g4⟩
theorem c_wayO (h : Lay L σ) {p n m t : Nat} (hp : PL σ p) (hp2 : p + 17 < 55) (R : RK s n m t) (hb : LW ln wt n) : ∀ (r : Nat) (F : Nat → Nat → Int32) (W : Nat → Nat) (w : Value), r ≤ n → PR F p s n → (∀ q, q < n → F 56 q = nI (ln q) ∧ F 57 q = nI (wt q)) → (∀ i, r ≤ i → i < n → F 60 i = nI (W i) ∧ W i = mw (aN s) ln wt W i (n - 1 - i) ∧ W i ≤ 1098 * (n - 1 - i)) → ∃ F' W', Rn d 50 (7, [.ref 55, .ref p, .int (nI r + (-1)), w], [], (F, J, σ)) = some (none, (F', J, σ)) ∧ (∀ b, b ≠ 60 → F' b = F b) ∧ WS (aN s) ln wt W' n ∧ ∀ i, i < n → F' 60 i = nI (W' i)
  | 0, F, W, w, hr, P, hl, hw => by
    refine ⟨F, W, ?_, fun b _ => rfl, fun k hk => (hw k (by omega) hk).2, fun k hk => (hw k (by omega) hk).1⟩
    rw [q_50_7, if_pos (by decide)]
  | r + 1, F, W, w, hr, P, hl, hw => by
    have n10 := P.1
    have hk : r < n := by omega
    have ib : inb (nI r) 10 := inb_nI (by omega) (by decide)
    obtain ⟨F1, eF1⟩ : ∃ F1, F1 = up1 F 60 (up1 (F 60) r 0) := ⟨_, rfl⟩
    have o : ∀ b, b ≠ 60 → F1 b = F b := fun b hb => by rw [eF1, up1_ne _ _ hb]
    obtain ⟨F2, w2, g1, g2, g3, g4⟩ := c_wayI (d := d) (J := J) (W := W) h hp hp2 R hb hk (n - 1 - r) 0 F1 (PR_cg (fun a h1 h2 => o a (by omega)) (fun j _ => rfl) P) (fun q hq => by rw [o 56 (by decide), o 57 (by decide)]; exact hl q hq) (fun i h1 h2 => by rw [eF1, up1_s, up1_n _ _ (by omega)]; exact ⟨(hw i (by omega) h2).1, (hw i (by omega) h2).2.2⟩) (by rw [eF1, up1_s, up1_s]; rfl) (by omega)
    obtain ⟨W2, eW2⟩ : ∃ W2, W2 = up1 W r (mw (aN s) ln wt W r (n - 1 - r)) := ⟨_, rfl⟩
    have cg : ∀ k j, r ≤ k → mw (aN s) ln wt W2 k j = mw (aN s) ln wt W k j := fun k j hkr => mw_cg j (fun i hi => by rw [eW2, up1_n _ _ (by omega)])
    have bnd : mw (aN s) ln wt W r (n - 1 - r) ≤ 1098 * (n - 1 - r) := mw_le _ (fun i hi _ => by have := (hw (r + 1 + i) (by omega) (by omega)).2.2; have := hb (r + 1 + i) (by omega); omega)
    obtain ⟨F3, W3, k1, k2, k3, k4⟩ := c_wayO h hp hp2 R hb r F2 W2 w2 (by omega) (PR_cg (fun a h1 h2 => by rw [g2 a (by omega), o a (by omega)]) (fun j _ => rfl) P) (fun q hq => by rw [g2 56 (by decide), g2 57 (by decide), o 56 (by decide), o 57 (by decide)]; exact hl q hq) (fun i h1 h2 => by
      by_cases e : i = r
      · subst e
        rw [cg i _ (Nat.le_refl _), g4, eW2, up1_s]
        exact ⟨rfl, rfl, bnd⟩
      · rw [cg i _ h1, g3 i e, eF1, up1_s, up1_n _ _ e, eW2, up1_n _ _ e]
        exact hw i (by omega) h2)
    refine ⟨F3, W3, ?_, fun b hb => by rw [k2 b hb, g2 b hb, o b hb], k3, k4⟩
    rw [pk_m1, q_50_7, if_neg (show ¬ nI r < (0 : Int32) from nlt (b := 0) (by omega) (by omega))]
    simp only [mS, mR, Y_55 h, Z_55_4 h, Y_60 h, if_true, setF_up, ix_nI (show r < 2 ^ 31 by omega), nI_s]
    rw [if_pos ⟨trivial, ib⟩, ← eF1]
    exact g1.trans k1
theorem c_ways (h : Lay L σ) {p n m t : Nat} (hp : PL σ p) (hp2 : p + 17 < 55) (R : RK s n m t) (hb : LW ln wt n) (P : PR F p s n) (hl : ∀ q, q < n → F 56 q = nI (ln q) ∧ F 57 q = nI (wt q)) : ∃ F' W, cV d 50 [.ref 55, .ref p] (F, J, σ) = some (F', J, σ) ∧ (∀ b, b ≠ 60 → F' b = F b) ∧ WS (aN s) ln wt W n ∧ ∀ i, i < n → F' 60 i = nI (W i) := by
  obtain ⟨F', W, g1, g2⟩ := c_wayO (d := d) (J := J) h hp hp2 R hb n F (fun _ => 0) un (Nat.le_refl _) P hl (fun i h1 h2 => absurd h2 (by omega))
  refine ⟨F', W, ?_, g2⟩
  refine i_50 (v := none) ?_
  rw [q_50_0]
  simp only [mS, mF, hp.y0, P.2.2.1, if_true, Int32.sub_eq_add_neg]
  exact g1
/-! the model -/
theorem sub3 {a b c : Nat} (h : b + c ≤ a) (ha : a < 2 ^ 31) : nI a - nI b - nI c = nI (a - b - c) := by
  rw [pk_sub (by omega), pk_sub (by omega)]
theorem m_latI (h : Lay L σ) {n m t k E : Nat} (hb : LW ln wt n) (hk : k < n) (hE : E ≤ 10980) (x1 : Int32) (hwE : ∀ i, i < n → enN A ln wt i + W i ≤ E) : ∀ (r j : Nat) (F : Nat → Nat → Int32) (w4 : Value), RK (F 100) n m t → aN (F 100) = A → (∀ q, q < n → F 111 q = nI (ln q) ∧ F 112 q = nI (wt q)) → (∀ i, k < i → i < n → F 114 i = nI (E - W i)) → F 114 k = nI (E - mw A ln wt W k j) → j + r = n - 1 - k → ∃ F' w3 w4', Rn (d + 1) 156 (29, [.ref 99, .int x1, .int (nI k), .int (nI (k + 1 + j)), w4], [], (F, J, σ)) = Rn (d + 1) 156 (14, [.ref 99, .int x1, .int (nI k + (-1)), w3, w4'], [], (F', J, σ)) ∧ (∀ b, b ≠ 114 → F' b = F b) ∧ (∀ i, i ≠ k → F' 114 i = F 114 i) ∧ F' 114 k = nI (E - mw A ln wt W k (n - 1 - k))
  | 0, j, F, w4, R, hA, hl, hw, hm, e => by
    have n10 := R.1.1
    refine ⟨F, .int (nI (k + 1 + j)), w4, ?_, fun b _ => rfl, fun i _ => rfl, by rw [hm, show j = n - 1 - k by omega]⟩
    rw [q_156_29]
    simp only [mS, mR, Y_99 h, Z_99_0 h, if_true, show rdI (F, J, σ) 100 0 = some (F 100 0) from rd_100 (i := 0) h (by decide), R.1.2.1, Option.bind_some]
    rw [if_pos (yle (by omega) (by omega))]
  | r + 1, j, F, w4, R, hA, hl, hw, hm, e => by
    have n10 := R.1.1
    have hi : k + 1 + j < n := by omega
    have t9 : True ∧ 99 < 999999 := ⟨trivial, by decide⟩
    obtain ⟨a1, a2, a3⟩ := aN_eq R hi
    have o4 : cI d 139 [.ref 99, .int (nI (k + 1 + j)), .int 4] (F, J, σ) = some (nI (A (k + 1 + j)), (F, J, σ)) := by rw [← hA, ← a1]; exact m_of (w := 4) h (by omega) (by decide)
    rw [hA] at a3
    have hEi := hwE (k + 1 + j) hi
    have hEk := hwE k hk
    have hci : wt (k + 1 + j) + ln (k + 1 + j) ≤ enN A ln wt (k + 1 + j) := by
      show _ ≤ bgN A ln wt (k + 1 + j) + ln (k + 1 + j)
      rw [bgN_eq]
      omega
    have hmb : mw A ln wt W k j ≤ E := Nat.le_trans (mw_le (B := E) j (fun i hi2 _ => by
      have q1 := hwE (k + 1 + i) (by omega)
      have q2 : wt (k + 1 + i) + ln (k + 1 + i) ≤ enN A ln wt (k + 1 + i) := by
        show _ ≤ bgN A ln wt (k + 1 + i) + ln (k + 1 + i)
        rw [bgN_eq]
        omega
      omega)) (Nat.le_refl _)
    have mstep : mw A ln wt W k (j + 1) = if A (k + 1 + j) / 2 ^ k % 2 = 1 then (if mw A ln wt W k j < wt (k + 1 + j) + ln (k + 1 + j) + W (k + 1 + j) then wt (k + 1 + j) + ln (k + 1 + j) + W (k + 1 + j) else mw A ln wt W k j) else mw A ln wt W k j := rfl
    rw [q_156_29]
    simp only [mS, mR, Y_99 h, Z_99_0 h, Z_99_12 h, Z_99_13 h, Z_99_15 h, Y_114 h, if_true, if_pos t9, show rdI (F, J, σ) 100 0 = some (F 100 0) from rd_100 (i := 0) h (by decide), R.1.2.1, Option.bind_some, rd_k (Y_114 h) (show k + 1 + j < 10 by omega) (by decide), rd_k (Y_111 h) (show k + 1 + j < 10 by omega) (by decide), rd_k (Y_112 h) (show k + 1 + j < 10 by omega) (by decide), rd_k (Y_114 h) (show k < 10 by omega) (by decide), o4, bitI (show A (k + 1 + j) < 2 ^ 31 by omega) (show k < 32 by omega), hw _ (show k < k + 1 + j by omega) hi, hm, (hl _ hi).1, (hl _ hi).2, sub3 (show ln (k + 1 + j) + wt (k + 1 + j) ≤ E - W (k + 1 + j) by omega) (show E - W (k + 1 + j) < 2 ^ 31 by omega), nI_s, setF_up, ix_nI (show k < 2 ^ 31 by omega)]
    rw [if_neg (nle (by omega) (by omega))]
    have ib : True ∧ inb (nI k) 10 := ⟨trivial, inb_nI (by omega) (by decide)⟩
    have fin : ∀ (v : Nat) (w : Value), E - mw A ln wt W k (j + 1) = v → ∃ F' w3 w4', Rn (d + 1) 156 (29, [.ref 99, .int x1, .int (nI k), .int (nI (k + 1 + j + 1)), w], [], (up1 F 114 (up1 (F 114) k (nI v)), J, σ)) = Rn (d + 1) 156 (14, [.ref 99, .int x1, .int (nI k + (-1)), w3, w4'], [], (F', J, σ)) ∧ (∀ b, b ≠ 114 → F' b = F b) ∧ (∀ i, i ≠ k → F' 114 i = F 114 i) ∧ F' 114 k = nI (E - mw A ln wt W k (n - 1 - k)) := fun v w hv => by
      obtain ⟨F', w3, w4', g1, g2, g3, g4⟩ := m_latI h hb hk hE x1 hwE r (j + 1) (up1 F 114 (up1 (F 114) k (nI v))) w (by rw [up1_ne _ _ (by decide)]; exact R) (by rw [up1_ne _ _ (by decide)]; exact hA) (fun q hq => by rw [up1_ne _ _ (by decide), up1_ne _ _ (by decide)]; exact hl q hq) (fun i h1 h2 => by rw [up1_s, up1_n _ _ (by omega)]; exact hw i h1 h2) (by rw [up1_s, up1_s, hv]) (by omega)
      exact ⟨F', w3, w4', g1, fun b hb => by rw [g2 b hb, up1_ne _ _ hb], fun i hi => by rw [g3 i hi, up1_s, up1_n _ _ hi], g4⟩
    by_cases c : A (k + 1 + j) / 2 ^ k % 2 = 1
    · rw [if_pos c] at mstep
      rw [if_pos (bit01.2.mpr c)]
      by_cases c2 : mw A ln wt W k j < wt (k + 1 + j) + ln (k + 1 + j) + W (k + 1 + j)
      · rw [if_pos c2] at mstep
        rw [if_neg (nle (by omega) (by omega)), if_pos ib]
        exact fin _ _ (by omega)
      · rw [if_neg c2] at mstep
        rw [if_pos (yle (by omega) (by omega)), if_pos ib]
        exact fin _ _ (by omega)
    · rw [if_neg c] at mstep
      rw [if_neg (fun z => c (bit01.2.mp z)), if_pos ib]
      exact fin _ _ (by omega)
theorem m_latO (h : Lay L σ) {n m t E : Nat} (hb : LW ln wt n) (hW : WS A ln wt W n) (hE : E ≤ 10980) (hwE : ∀ i, i < n → enN A ln wt i + W i ≤ E) : ∀ (r : Nat) (F : Nat → Nat → Int32) (w3 w4 : Value), r ≤ n → RK (F 100) n m t → aN (F 100) = A → (∀ q, q < n → F 111 q = nI (ln q) ∧ F 112 q = nI (wt q)) → (∀ i, r ≤ i → i < n → F 114 i = nI (E - W i)) → ∃ F', Rn (d + 1) 156 (14, [.ref 99, .int (nI E), .int (nI r + (-1)), w3, w4], [], (F, J, σ)) = some (none, (F', J, σ)) ∧ (∀ b, b ≠ 114 → F' b = F b) ∧ ∀ i, i < n → F' 114 i = nI (E - W i)
  | 0, F, w3, w4, hr, R, hA, hl, hw => by
    refine ⟨F, ?_, fun b _ => rfl, fun i hi => hw i (by omega) hi⟩
    rw [q_156_14, if_pos (by decide)]
  | r + 1, F, w3, w4, hr, R, hA, hl, hw => by
    have n10 := R.1.1
    have hk : r < n := by omega
    have ib : inb (nI r) 10 := inb_nI (by omega) (by decide)
    obtain ⟨F1, eF1⟩ : ∃ F1, F1 = up1 F 114 (up1 (F 114) r (nI E)) := ⟨_, rfl⟩
    have o : ∀ b, b ≠ 114 → F1 b = F b := fun b hb => by rw [eF1, up1_ne _ _ hb]
    obtain ⟨F2, a3, a4, g1, g2, g3, g4⟩ := m_latI (d := d) (J := J) (W := W) h hb hk hE (nI E) hwE (n - 1 - r) 0 F1 w4 (by rw [o 100 (by decide)]; exact R) (by rw [o 100 (by decide)]; exact hA) (fun q hq => by rw [o 111 (by decide), o 112 (by decide)]; exact hl q hq) (fun i h1 h2 => by rw [eF1, up1_s, up1_n _ _ (by omega)]; exact hw i (by omega) h2) (by rw [eF1, up1_s, up1_s]; rfl) (by omega)
    obtain ⟨F3, k1, k2, k3⟩ := m_latO h hb hW hE hwE r F2 a3 a4 (by omega) (by rw [g2 100 (by decide), o 100 (by decide)]; exact R) (by rw [g2 100 (by decide), o 100 (by decide)]; exact hA) (fun q hq => by rw [g2 111 (by decide), g2 112 (by decide), o 111 (by decide), o 112 (by decide)]; exact hl q hq) (fun i h1 h2 => by
      by_cases e : i = r
      · subst e
        rw [g4, ← (hW i h2).1]
      · rw [g3 i e, eF1, up1_s, up1_n _ _ e]; exact hw i (by omega) h2)
    refine ⟨F3, ?_, fun b hb => by rw [k2 b hb, g2 b hb, o b hb], k3⟩
    rw [pk_m1, q_156_14, if_neg (show ¬ nI r < (0 : Int32) from nlt (b := 0) (by omega) (by omega))]
    simp only [mS, mR, Y_99 h, Z_99_15 h, Y_114 h, if_true, setF_up, ix_nI (show r < 2 ^ 31 by omega), nI_s]
    rw [if_pos ⟨trivial, ib⟩, ← eF1]
    exact g1.trans k1
theorem m_latest (h : Lay L σ) {n m t : Nat} (R : RK (F 100) n m t) (hW : WS (aN (F 100)) (sN (F 100) m t) (wN (F 100) t) W n) : ∃ F', cV (d + 6) 156 [.ref 99] (F, J, σ) = some (F', J, σ) ∧ (∀ b, b < 111 ∨ 119 < b ∨ (114 < b ∧ b < 118) → F' b = F b) ∧ ∀ q, q < n → F' 111 q = nI (sN (F 100) m t q) ∧ F' 113 q = nI (bgN (aN (F 100)) (sN (F 100) m t) (wN (F 100) t) q) ∧ F' 114 q = nI (teN (aN (F 100)) (sN (F 100) m t) (wN (F 100) t) n - W q) := by
  obtain ⟨F1, a1, a2, a3⟩ := m_endSaid (d := d) (J := J) h R
  have n10 := R.1.1
  have o100 := a2 100 (by omega)
  have hE := teN_le (A := aN (F 100)) (LW_s R)
  obtain ⟨F2, b1, b2, b3⟩ := m_latO (d := d + 5) (J := J) h (LW_s R) hW (show teN (aN (F 100)) (sN (F 100) m t) (wN (F 100) t) n ≤ 10980 by omega) (fun i hi => en_W hW (n - i) i (by omega) hi) n F1 un un (Nat.le_refl _) (by rw [o100]; exact R) (by rw [o100]) (fun q hq => (a3 q hq).1) (fun i h1 h2 => absurd h2 (by omega))
  have t9 : True ∧ 99 < 999999 := ⟨trivial, by decide⟩
  refine ⟨F2, ?_, fun b hb => by rw [b2 b (by omega), a2 b (by omega)], fun q hq => ⟨by rw [b2 111 (by decide)]; exact (a3 q hq).1.1, by rw [b2 113 (by decide)]; exact (a3 q hq).2, b3 q hq⟩⟩
  refine i_156 (d := d + 5) (v := none) ?_
  rw [q_156_0 (d + 5)]
  simp only [mS, mR, Y_99 h, Z_99_0 h, if_pos t9, a1, Option.bind_some, if_true, show rdI (F1, J, σ) 100 0 = some (F1 100 0) from rd_100 (i := 0) h (by decide), o100, R.1.2.1, Int32.sub_eq_add_neg]
  exact b1
end WAYS
