/-! TELL, TRIM, FEED. -/
section OPD
variable {L d : Nat} {F F' : Nat → Nat → Int32} {J : Nat → Nat → Int64} {σ : aSg} {μ : aMem} {s s' xs : Nat → Int32}
theorem TPE_cg (h1 : F' 0 7 = F 0 7) (h2 : F' 99 20 = F 99 20) (h3 : F' 67 = F 67) (h4 : F' 117 = F 117) (T : TPE F) : TPE F' := by
  unfold TPE
  rw [h1, h2, h3, h4]
  exact T
theorem WTE_cg (h1 : F' 0 9 = F 0 9) (h2 : F' 99 36 = F 99 36) (h3 : F' 68 = F 68) (h4 : F' 122 = F 122) (T : WTE F) : WTE F' := by
  unfold WTE
  rw [h1, h2, h3, h4]
  exact T
theorem SH_cg {i : Nat} (h1 : F' (70 + 2 * i) = F (70 + 2 * i)) (h2 : F' (71 + 2 * i) = F (71 + 2 * i)) (h3 : F' 103 = F 103) (h4 : F' 104 = F 104) (h5 : F' 105 = F 105) (T : SH F i) : SH F' i := by
  unfold SH
  rw [h1, h2, h3, h4, h5]
  exact T
theorem SL_cg {i : Nat} (h : ∀ a, (79 + 4 * i ≤ a ∧ a ≤ 82 + 4 * i) ∨ (106 ≤ a ∧ a ≤ 110) → F' a = F a) (T : SL F i) : SL F' i := by
  unfold SL
  rw [h (79 + 4 * i) (by omega), h (80 + 4 * i) (by omega), h (81 + 4 * i) (by omega), h (82 + 4 * i) (by omega), h 106 (by omega), h 107 (by omega), h 108 (by omega), h 109 (by omega), h 110 (by omega)]
  exact T
theorem IM_cg (h1 : F' 0 3 = F 0 3) (h2 : F' 99 3 = F 99 3) (h3 : ∀ a, (19 ≤ a ∧ a ≤ 36) ∨ a = 101 ∨ (124 ≤ a ∧ a < 1000000) → F' a = F a) (T : IM F σ) : IM F' σ := by
  obtain ⟨i1, i2, i3⟩ := T
  unfold IM
  rw [h1, h2, h3 101 (by omega)]
  exact ⟨i1, i2, fun e => RW_cg (fun a h1 h2 => h3 a (by omega)) (fun a h1 h2 => h3 a (by omega)) (fun j hj => rfl) (i3 e)⟩
/-- a memory in which the rows of a call's own are changed, and no others -/
theorem IV_mk {q : Nat} (I : IV L xs q F σ) (hF : ∀ a, (1 ≤ a ∧ a ≤ 36) ∨ (a = 100 ∨ a = 101) ∨ 124 ≤ a → F' a = F a) (h3 : F' 0 3 = F 0 3 ∧ F' 99 3 = F 99 3) (tp : TPE F') (wt : WTE F') (sh : ∀ i, i < 4 → SH F' i) (sl : ∀ i, i < 5 → SL F' i) : IV L xs (q + 1) F' σ := by
  refine ⟨⟨I.lay, by rw [hF 1000014 (by omega)]; exact I.xz, by have := I.nn; omega, by have := I.nn; omega⟩, ?_, IM_cg h3.1 h3.2 (fun a ha => hF a (by omega)) I.im, tp, wt, sh, sl, I.ta⟩
  rw [hF 100 (by omega)]
  exact RW_cg (fun a h1 h2 => hF a (by omega)) (fun a h1 h2 => hF a (by omega)) (fun j hj => rfl) I.rw
def teS (w : Nat) : Int32 := if w = 60 then -1000000003 else nI (w + 1)
theorem c_tell (h : Lay L σ) {w : Nat} (hw : F 0 9 = nI w) (h60 : w ≤ 60) (x : Int32) : cI d 117 [.ref 0, .int x] (F, J, σ) = some (teS w, (if w = 60 then F else up1 (up1 F 68 (up1 (F 68) w x)) 0 (up1 (F 0) 9 (nI (w + 1))), J, σ)) := by
  refine i_117 ?_
  rw [q_117_0]
  simp only [mS, mR, mF, Y_0 h, Z_0_8 h, Y_68 h, hw, setF_up, up1_s, up1_up1, if_true, ix_nI (show w < 2 ^ 31 by omega), up1_n _ _ (show 0 ≠ 68 by decide)]
  unfold teS
  by_cases e : w = 60
  · subst e
    rw [if_neg (by decide), if_pos rfl, if_pos rfl]
  · rw [if_pos (show nI w < (60 : Int32) from ylt (b := 60) (by omega) (by decide)), if_pos ⟨trivial, inb_nI (by omega) (by decide)⟩, if_neg e, if_neg e, nI_s]
theorem m_tell (h : Lay L σ) {w : Nat} (hw : F 99 36 = nI w) (h60 : w ≤ 60) (x : Int32) : cI d 224 [.ref 99, .int x] (F, J, σ) = some (teS w, (if w = 60 then F else up1 (up1 F 122 (up1 (F 122) w x)) 99 (up1 (F 99) 36 (nI (w + 1))), J, σ)) := by
  refine i_224 ?_
  rw [q_224_0]
  simp only [mS, mR, mF, Y_99 h, Z_99_35 h, Y_122 h, hw, setF_up, up1_s, up1_up1, if_true, ix_nI (show w < 2 ^ 31 by omega), up1_n _ _ (show 99 ≠ 122 by decide)]
  unfold teS
  by_cases e : w = 60
  · subst e
    rw [if_pos (by decide), if_pos rfl, if_pos rfl]
  · rw [if_neg (fun q : nI w = (60 : Int32) => e ((nI_eq (a := w) (b := 60) (by omega) (by decide)).mp q)), if_pos ⟨trivial, inb_nI (by omega) (by decide)⟩, if_neg e, if_neg e, nI_s]
theorem op_tell : OpI (Inv L xs) 117 224 1 := op1 fun q F J σ x hq I => by
  have h := I.lay
  obtain ⟨w, w1, w2, w3, w4⟩ := I.wt
  have e1 := c_tell (d := 100) (J := J) h w2 w1 x
  by_cases e : w = 60
  · have e2 := m_tell (d := 100) (J := J) h w3 w1 x
    rw [if_pos e] at e1 e2
    exact ⟨_, F, J, σ, F, J, σ, e1, h, rfl, e2, I.up⟩
  · rw [if_neg e] at e1
    have f1 : ∀ a, a ≠ 0 → a ≠ 68 → up1 (up1 F 68 (up1 (F 68) w x)) 0 (up1 (F 0) 9 (nI (w + 1))) a = F a := fun a h1 h2 => by rw [up1_ne _ _ h1, up1_ne _ _ h2]
    have e2 := m_tell (d := 100) (J := J) (F := up1 (up1 F 68 (up1 (F 68) w x)) 0 (up1 (F 0) 9 (nI (w + 1)))) (w := w) h (by rw [f1 99 (by decide) (by decide)]; exact w3) w1 x
    rw [if_neg e, f1 99 (by decide) (by decide), f1 122 (by decide) (by decide)] at e2
    refine ⟨_, _, _, _, _, _, _, e1, h, f1 _ (by decide) (by decide), e2, ?_⟩
    have f2 : ∀ a, a ≠ 0 → a ≠ 68 → a ≠ 99 → a ≠ 122 → up1 (up1 (up1 (up1 F 68 (up1 (F 68) w x)) 0 (up1 (F 0) 9 (nI (w + 1)))) 122 (up1 (F 122) w x)) 99 (up1 (F 99) 36 (nI (w + 1))) a = F a := fun a h1 h2 h3 h4 => by rw [up1_ne _ _ h3, up1_ne _ _ h4, f1 a h1 h2]
    refine IV_mk I (fun a ha => f2 a (by omega) (by omega) (by omega) (by omega)) ⟨rfl, rfl⟩ (TPE_cg rfl rfl rfl rfl I.tp) ?_ (fun i hi => SH_cg (f2 _ (by omega) (by omega) (by omega) (by omega)) (f2 _ (by omega) (by omega) (by omega) (by omega)) rfl rfl rfl (I.sh i hi)) (fun i hi => SL_cg (fun a ha => f2 a (by omega) (by omega) (by omega) (by omega)) (I.sl i hi))
    refine ⟨w + 1, by omega, rfl, rfl, fun i hi => ?_⟩
    show up1 (F 68) w x i = up1 (F 122) w x i
    by_cases ei : i = w
    · rw [ei, up1_s, up1_s]
    · rw [up1_n _ _ ei, up1_n _ _ ei]
      exact w4 i (by omega)
theorem op_trim : OpI (Inv L xs) 104 191 1 := op1 fun q F J σ x hq I => by
  have h := I.lay
  obtain ⟨l, t1, t2, t3, t4⟩ := I.tp
  by_cases hx : 0 ≤ x ∧ x ≤ nI l
  · refine ⟨x, up1 F 0 (up1 (F 0) 7 x), J, σ, up1 (up1 F 0 (up1 (F 0) 7 x)) 99 (up1 (F 99) 20 x), J, σ, ?_, h, up1_ne _ _ (by decide), ?_, ?_⟩
    · refine i_104 (d := 99) ?_
      rw [q_104_0 99]
      simp only [mS, mF, Y_0 h, t2, c_within, Option.bind_some, b2i_0, setF_up, if_true]
      rw [if_neg (not_not_intro hx)]
    · refine i_191 (d := 99) ?_
      rw [q_191_0 99]
      have : up1 F 0 (up1 (F 0) 7 x) 99 = F 99 := up1_ne _ _ (by decide)
      simp only [mS, mF, Y_99 h, this, t3]
      rw [if_pos trivial, show cI 99 133 [.long x.toInt64, .long 0, .long (nI l).toInt64] (up1 F 0 (up1 (F 0) 7 x), J, σ) = _ from m_in x 0 (nI l)]
      simp only [Option.bind_some, b2i_0, mS, Y_99 h, setF_up, this, if_true]
      rw [if_neg (not_not_intro hx)]
    · have f2 : ∀ a, a ≠ 0 → a ≠ 99 → up1 (up1 F 0 (up1 (F 0) 7 x)) 99 (up1 (F 99) 20 x) a = F a := fun a h1 h2 => by rw [up1_ne _ _ h2, up1_ne _ _ h1]
      refine IV_mk I (fun a ha => f2 a (by omega) (by omega)) ⟨rfl, rfl⟩ ?_ (WTE_cg rfl rfl rfl rfl I.wt) (fun i hi => SH_cg (f2 _ (by omega) (by omega)) (f2 _ (by omega) (by omega)) rfl rfl rfl (I.sh i hi)) (fun i hi => SL_cg (fun a ha => f2 a (by omega) (by omega)) (I.sl i hi))
      have hk := nI_fo hx.1
      have hle : x.toInt.toNat ≤ l := by
        have h1 := Int32.le_iff_toInt_le.mp hx.2
        rw [nI_toInt (by omega)] at h1
        omega
      exact ⟨x.toInt.toNat, by omega, hk, hk, fun i hi => t4 i (by omega)⟩
  · refine ⟨-1000000001, F, J, σ, F, J, σ, ?_, h, rfl, ?_, I.up⟩
    · refine i_104 (d := 99) ?_
      rw [q_104_0 99]
      simp only [mS, mF, Y_0 h, t2, c_within, Option.bind_some, b2i_0, if_true]
      rw [if_pos hx]
    · refine i_191 (d := 99) ?_
      rw [q_191_0 99]
      simp only [mS, mF, Y_99 h, t3]
      rw [if_pos trivial, show cI 99 133 [.long x.toInt64, .long 0, .long (nI l).toInt64] (F, J, σ) = _ from m_in x 0 (nI l)]
      simp only [Option.bind_some, b2i_0]
      rw [if_pos hx]
/-! feed -/
def byI (v : Int32) (j : Nat) : Int32 := nI (v.toBitVec.toNat / 2 ^ (24 - 8 * j) % 256)
theorem by_u (v s2 : Int32) (k : Nat) (h2 : ((s2.toUInt32 &&& Int32.toUInt32 31).toBitVec % 32).toNat = k) : ((v.toUInt32 >>> (s2.toUInt32 &&& Int32.toUInt32 31)).toInt32) &&& 255 = nI (v.toBitVec.toNat / 2 ^ k % 256) := by
  rw [pk_and _ 8 rfl, pk_ushr v s2 k h2]
theorem bv_cond (x : Int32) : x.toInt = if 2 * x.toBitVec.toNat < 2 ^ 32 then (x.toBitVec.toNat : Int) else (x.toBitVec.toNat : Int) - 2 ^ 32 := BitVec.toInt_eq_toNat_cond x.toBitVec
theorem by_s (v s1 : Int32) (k : Nat) (hk : k = 0 ∨ k = 8 ∨ k = 16 ∨ k = 24) (h1 : (s1.toBitVec.smod 32).toNat = k) : (v >>> s1) &&& 255 = nI (v.toBitVec.toNat / 2 ^ k % 256) := by
  rw [pk_and _ 8 rfl]
  have e := pk_shr v s1 k h1
  rw [Int.shiftRight_eq_div_pow, bv_cond, bv_cond v] at e
  have b1 := (v >>> s1).toBitVec.isLt
  have b2 := v.toBitVec.isLt
  refine congrArg nI ?_
  rcases hk with rfl | rfl | rfl | rfl
  · split at e <;> split at e <;> omega
  · split at e <;> split at e <;> omega
  · split at e <;> split at e <;> omega
  · split at e <;> split at e <;> omega
def by4 (f : Nat → Int32) (l : Nat) (v : Int32) : Nat → Int32 := up1 (up1 (up1 (up1 f l (byI v 0)) (l + 1) (byI v 1)) (l + 2) (byI v 2)) (l + 3) (byI v 3)
theorem by4_o {f : Nat → Int32} {l j : Nat} {v : Int32} (h : j < l) : by4 f l v j = f j := by
  unfold by4
  rw [up1_n _ _ (by omega), up1_n _ _ (by omega), up1_n _ _ (by omega), up1_n _ _ (by omega)]
theorem by4_at {f : Nat → Int32} {l : Nat} {v : Int32} : ∀ j, j < 4 → by4 f l v (l + j) = byI v j
  | 0, _ => by unfold by4; rw [up1_n _ _ (by omega), up1_n _ _ (by omega), up1_n _ _ (by omega), Nat.add_zero, up1_s]
  | 1, _ => by unfold by4; rw [up1_n _ _ (by omega), up1_n _ _ (by omega), up1_s]
  | 2, _ => by unfold by4; rw [up1_n _ _ (by omega), up1_s]
  | 3, _ => by unfold by4; rw [up1_s]
theorem c_feedFour (h : Lay L σ) {l : Nat} (hl : F 0 7 = nI l) (hm : l + 4 ≤ 96) (v : Int32) : cV d 129 [.ref 0, .int v] (F, J, σ) = some (up1 (up1 F 67 (by4 (F 67) l v)) 0 (up1 (F 0) 7 (nI (l + 4))), J, σ) := by
  refine i_129 (v := none) ?_
  have st : ∀ (G f : Nat → Int32) (k j : Nat) (x x' : Int32), j < 96 → G 7 = nI j → x + (-8) = x' → ¬ x < 0 → ((x.toUInt32 &&& Int32.toUInt32 31).toBitVec % 32).toNat = k → Rn d 129 (3, [.ref 0, .int v, .int x], [], (up1 (up1 F 67 f) 0 G, J, σ)) = Rn d 129 (3, [.ref 0, .int v, .int x'], [], (up1 (up1 F 67 (up1 f j (nI (v.toBitVec.toNat / 2 ^ k % 256)))) 0 (up1 G 7 (nI (j + 1))), J, σ)) := by
    intro G f k j x x' hj hG hx' hx hk
    rw [q_129_3, if_neg hx]
    simp only [mS, mR, mF, Y_0 h, Z_0_6 h, Y_67 h, up1_s, hG, setF_up, by_u v x k hk, if_true, hx', up1_n _ _ (show 67 ≠ 0 by decide), up1_n _ _ (show 0 ≠ 67 by decide), ix_nI (show j < 2 ^ 31 by omega)]
    rw [if_neg (show ¬ (96 : Int32) ≤ nI j from nle (a := 96) hj (by decide)), if_pos ⟨trivial, inb_nI hj (by decide)⟩]
    have e : up1 (up1 (up1 (up1 F 67 f) 0 G) 67 (up1 f j (nI (v.toBitVec.toNat / 2 ^ k % 256)))) 0 (up1 G 7 (nI j + 1)) = up1 (up1 F 67 (up1 f j (nI (v.toBitVec.toNat / 2 ^ k % 256)))) 0 (up1 G 7 (nI (j + 1))) := by
      funext a
      rw [nI_s]
      unfold up1
      by_cases a0 : a = 0
      · simp [a0]
      · by_cases a6 : a = 67
        · simp [a6]
        · simp [a0, a6]
    rw [e]
  have e0 : F = up1 (up1 F 67 (F 67)) 0 (F 0) := by
    funext a
    unfold up1
    by_cases a0 : a = 0
    · rw [if_pos a0, a0]
    · rw [if_neg a0]
      by_cases a6 : a = 67
      · rw [if_pos a6, a6]
      · rw [if_neg a6]
  rw [q_129_0]
  refine (congrArg (fun z => Rn d 129 (3, [.ref 0, .int v, .int 24], [], (z, J, σ))) e0).trans ?_
  rw [st (F 0) (F 67) 24 l 24 16 (by omega) hl rfl (by decide) (by decide)]
  rw [st _ _ 16 (l + 1) 16 8 (by omega) (up1_s _ _ _) rfl (by decide) (by decide)]
  rw [st _ _ 8 (l + 2) 8 0 (by omega) (up1_s _ _ _) rfl (by decide) (by decide)]
  rw [st _ _ 0 (l + 3) 0 (-8) (by omega) (up1_s _ _ _) rfl (by decide) (by decide)]
  rw [q_129_3, if_pos (by decide), up1_up1, up1_up1, up1_up1]
  rfl
def bX (a b c : Int32) (j : Nat) : Int32 := byI (if j < 4 then a else if j < 8 then b else c) (j % 4)
theorem byI_in (v : Int32) (j : Nat) : 0 ≤ byI v j ∧ byI v j ≤ 255 := by
  unfold byI
  have := Nat.mod_lt (v.toBitVec.toNat / 2 ^ (24 - 8 * j)) (show 0 < 256 by decide)
  exact ⟨yle (a := 0) (by omega) (by omega), yle (b := 255) (by omega) (by decide)⟩
theorem sh_k : ∀ j, j < 12 → (((24 : Int32) - 8 * (nI j - nI j / 4 * 4)) &&& 31).toBitVec.smod 32 = BitVec.ofNat 32 (24 - 8 * (j % 4)) := by decide
theorem m_feedL (h : Lay L σ) {l : Nat} (hm : l + 12 ≤ 96) (a b c : Int32) : ∀ (n i : Nat) (F : Nat → Nat → Int32) (w : Value), i + n = 12 → F 99 20 = nI (l + i) → ∃ F', Rn d 190 (18, [.ref 99, .int a, .int b, .int c, .int (nI i), w], [], (F, J, σ)) = some (some (.int (nI (l + 12))), (F', J, σ)) ∧ (∀ x, x ≠ 99 → x ≠ 117 → F' x = F x) ∧ (∀ j, j ≠ 20 → F' 99 j = F 99 j) ∧ F' 99 20 = nI (l + 12) ∧ (∀ j, j < l + i → F' 117 j = F 117 j) ∧ ∀ j, i ≤ j → j < 12 → F' 117 (l + j) = bX a b c j
  | 0, i, F, w, hi, hF => by
    refine ⟨F, ?_, fun x _ _ => rfl, fun j _ => rfl, by rw [hF, show i = 12 by omega], fun j _ => rfl, fun j h1 h2 => absurd h2 (by omega)⟩
    rw [q_190_18, if_pos (show (12 : Int32) ≤ nI i from yle (a := 12) (by omega) (by omega))]
    simp only [mS, mF, Y_99 h, hF, if_true]
    rw [show i = 12 by omega]
  | n + 1, i, F, w, hi, hF => by
    have e : ∀ v : Int32, (v >>> (((24 : Int32) - 8 * (nI i - nI i / 4 * 4)) &&& 31)) &&& 255 = byI v (i % 4) := fun v => by
      unfold byI
      refine by_s v _ (24 - 8 * (i % 4)) (by omega) ?_
      rw [sh_k i (by omega), BitVec.toNat_ofNat, Nat.mod_eq_of_lt (by omega)]
    have hv : ∃ w', Rn d 190 (18, [.ref 99, .int a, .int b, .int c, .int (nI i), w], [], (F, J, σ)) = Rn d 190 (18, [.ref 99, .int a, .int b, .int c, .int (nI (i + 1)), w'], [], (up1 (up1 F 117 (up1 (F 117) (l + i) (bX a b c i))) 99 (up1 (F 99) 20 (nI (l + (i + 1)))), J, σ)) := by
      rw [q_190_18]
      simp only [mS, mR, mF, Y_99 h, Z_99_19 h, Y_117 h, hF, setF_up, e, nI_s, ix_nI (show l + i < 2 ^ 31 by omega), up1_n _ _ (show 99 ≠ 117 by decide)]
      rw [if_neg (show ¬ (12 : Int32) ≤ nI i from nle (a := 12) (by omega) (by decide))]
      unfold bX
      by_cases i4 : i < 4
      · rw [if_neg (show ¬ (4 : Int32) ≤ nI i from nle (a := 4) (by omega) (by decide)), if_pos trivial, if_pos ⟨trivial, inb_nI (by omega) (by decide)⟩, if_pos i4]
        exact ⟨_, rfl⟩
      · rw [if_pos (show (4 : Int32) ≤ nI i from yle (a := 4) (by omega) (by omega)), if_neg i4]
        by_cases i8 : i < 8
        · rw [if_neg (show ¬ (8 : Int32) ≤ nI i from nle (a := 8) (by omega) (by decide)), if_pos trivial, if_pos ⟨trivial, inb_nI (by omega) (by decide)⟩, if_pos i8]
          exact ⟨_, rfl⟩
        · rw [if_pos (show (8 : Int32) ≤ nI i from yle (a := 8) (by omega) (by omega)), if_pos trivial, if_pos ⟨trivial, inb_nI (by omega) (by decide)⟩, if_neg i8]
          exact ⟨_, rfl⟩
    obtain ⟨w', hv⟩ := hv
    obtain ⟨F', g1, g2, g3, g4, g5, g6⟩ := m_feedL h hm a b c n (i + 1) (up1 (up1 F 117 (up1 (F 117) (l + i) (bX a b c i))) 99 (up1 (F 99) 20 (nI (l + (i + 1))))) w' (by omega) (by rw [up1_s, up1_s])
    have e117 : up1 (up1 F 117 (up1 (F 117) (l + i) (bX a b c i))) 99 (up1 (F 99) 20 (nI (l + (i + 1)))) 117 = up1 (F 117) (l + i) (bX a b c i) := by rw [up1_ne _ _ (by decide), up1_s]
    refine ⟨F', hv.trans g1, fun x h1 h2 => by rw [g2 x h1 h2, up1_ne _ _ h1, up1_ne _ _ h2], fun j hj => by rw [g3 j hj, up1_s, up1_n _ _ hj], g4, fun j hj => by rw [g5 j (by omega), e117, up1_n _ _ (by omega)], fun j h1 h2 => ?_⟩
    by_cases ej : j = i
    · rw [ej, g5 (l + i) (by omega), e117, up1_s]
    · exact g6 j (by omega) h2
theorem op_feed : OpI (Inv L xs) 103 190 3 := op3 fun q F J σ a b c hq I => by
  have h := I.lay
  obtain ⟨l, t1, t2, t3, t4⟩ := I.tp
  by_cases hl : l + 12 ≤ 96
  · have c1 := c_feedFour (d := 99) (J := J) h t2 (by omega) a
    have c2 := c_feedFour (d := 99) (J := J) (F := up1 (up1 F 67 (by4 (F 67) l a)) 0 (up1 (F 0) 7 (nI (l + 4)))) (l := l + 4) h rfl (by omega) b
    have r1 : ∀ (f G : Nat → Int32) (g H : Nat → Int32), up1 (up1 (up1 (up1 F 67 f) 0 G) 67 g) 0 H = up1 (up1 F 67 g) 0 H := fun f G g H => by
      funext x
      unfold up1
      by_cases x0 : x = 0
      · simp [x0]
      · by_cases x6 : x = 67
        · simp [x6]
        · simp [x0, x6]
    rw [r1] at c2
    have c3 := c_feedFour (d := 99) (J := J) (F := up1 (up1 F 67 (by4 (by4 (F 67) l a) (l + 4) b)) 0 (up1 (up1 (F 0) 7 (nI (l + 4))) 7 (nI (l + 8)))) (l := l + 8) h rfl (by omega) c
    rw [r1] at c3
    obtain ⟨F1, eF1⟩ : ∃ F1, F1 = up1 (up1 F 67 (by4 (by4 (by4 (F 67) l a) (l + 4) b) (l + 8) c)) 0 (up1 (up1 (up1 (F 0) 7 (nI (l + 4))) 7 (nI (l + 8))) 7 (nI (l + 12))) := ⟨_, rfl⟩
    have f1 : ∀ x, x ≠ 0 → x ≠ 67 → F1 x = F x := fun x h1 h2 => by rw [eF1, up1_ne _ _ h1, up1_ne _ _ h2]
    obtain ⟨F2, g1, g2, g3, g4, g5, g6⟩ := m_feedL (d := 100) (J := J) h hl a b c 12 0 F1 un rfl (by rw [f1 99 (by decide) (by decide)]; exact t3)
    refine ⟨nI (l + 12), F1, J, σ, F2, J, σ, ?_, h, f1 _ (by decide) (by decide), ?_, ?_⟩
    · refine i_103 (d := 99) ?_
      rw [q_103_0 99]
      simp only [mS, mF, Y_0 h, t2]
      have c1' : cV 99 129 [.ref 0, .int a] (F, J, σ) = some (up1 (up1 F 67 (by4 (F 67) l a)) 0 (up1 (F 0) 7 (nI (l + 4))), J, σ) := c1
      have c2' : cV 99 129 [.ref 0, .int b] (up1 (up1 F 67 (by4 (F 67) l a)) 0 (up1 (F 0) 7 (nI (l + 4))), J, σ) = some (up1 (up1 F 67 (by4 (by4 (F 67) l a) (l + 4) b)) 0 (up1 (up1 (F 0) 7 (nI (l + 4))) 7 (nI (l + 8))), J, σ) := c2
      have c3' : cV 99 129 [.ref 0, .int c] (up1 (up1 F 67 (by4 (by4 (F 67) l a) (l + 4) b)) 0 (up1 (up1 (F 0) 7 (nI (l + 4))) 7 (nI (l + 8))), J, σ) = some (F1, J, σ) := by rw [eF1]; exact c3
      rw [if_pos trivial, show nI l + 12 = nI (l + 12) from nI_add l 12, if_pos (show nI (l + 12) ≤ (96 : Int32) from yle (b := 96) hl (by decide)), if_pos ⟨trivial, by decide⟩, c1']
      simp only [Option.bind_some, mS, Y_0 h]
      rw [if_pos ⟨trivial, by decide⟩, c2']
      simp only [Option.bind_some, mS, Y_0 h]
      rw [if_pos ⟨trivial, by decide⟩, c3']
      simp only [Option.bind_some, mS, mF, Y_0 h, if_true]
      rw [eF1]
      rfl
    · refine i_190 ?_
      rw [q_190_0]
      simp only [mS, mF, Y_99 h, f1 99 (by decide) (by decide), t3]
      rw [if_pos trivial, show nI l + 12 = nI (l + 12) from nI_add l 12, if_pos (show nI (l + 12) ≤ (96 : Int32) from yle (b := 96) hl (by decide))]
      exact g1
    · have f2 : ∀ x, x ≠ 0 → x ≠ 67 → x ≠ 99 → x ≠ 117 → F2 x = F x := fun x h1 h2 h3 h4 => by rw [g2 x h3 h4, f1 x h1 h2]
      have f0 : F2 0 = F1 0 := g2 0 (by decide) (by decide)
      have f67 : F2 67 = F1 67 := g2 67 (by decide) (by decide)
      refine IV_mk I (fun x hx => f2 x (by omega) (by omega) (by omega) (by omega)) ⟨by rw [f0, eF1]; rfl, by rw [g3 3 (by decide), f1 99 (by decide) (by decide)]⟩ ?_ (WTE_cg (by rw [f0, eF1]; rfl) (by rw [g3 36 (by decide), f1 99 (by decide) (by decide)]) (f2 _ (by decide) (by decide) (by decide) (by decide)) (f2 _ (by decide) (by decide) (by decide) (by decide)) I.wt) (fun i hi => SH_cg (f2 _ (by omega) (by omega) (by omega) (by omega)) (f2 _ (by omega) (by omega) (by omega) (by omega)) (f2 _ (by omega) (by omega) (by omega) (by omega)) (f2 _ (by omega) (by omega) (by omega) (by omega)) (f2 _ (by omega) (by omega) (by omega) (by omega)) (I.sh i hi)) (fun i hi => SL_cg (fun x hx => f2 x (by omega) (by omega) (by omega) (by omega)) (I.sl i hi))
      refine ⟨l + 12, hl, by rw [f0, eF1]; rfl, g4, fun i hi => ?_⟩
      have h67 : F2 67 i = by4 (by4 (by4 (F 67) l a) (l + 4) b) (l + 8) c i := by rw [f67, eF1]; rfl
      by_cases il : i < l
      · rw [h67, by4_o (by omega), by4_o (by omega), by4_o (by omega), g5 i (by omega), f1 117 (by decide) (by decide)]
        exact t4 i il
      · obtain ⟨j, rfl⟩ : ∃ j, i = l + j := ⟨i - l, by omega⟩
        have e6 := g6 j (by omega) (by omega)
        rw [h67, e6]
        refine ⟨?_, byI_in _ _⟩
        unfold bX
        by_cases j4 : j < 4
        · rw [by4_o (by omega), by4_o (by omega), by4_at j j4, if_pos j4, Nat.mod_eq_of_lt j4]
        · rw [if_neg j4]
          by_cases j8 : j < 8
          · rw [by4_o (by omega), show l + j = l + 4 + (j - 4) by omega, by4_at (j - 4) (by omega), if_pos j8, show j % 4 = j - 4 by omega]
          · rw [if_neg j8, show l + j = l + 8 + (j - 8) by omega, by4_at (j - 8) (by omega), show j % 4 = j - 8 by omega]
  · refine ⟨-1000000003, F, J, σ, F, J, σ, ?_, h, rfl, ?_, I.up⟩
    · refine i_103 (d := 99) ?_
      rw [q_103_0 99]
      simp only [mS, mF, Y_0 h, t2]
      rw [if_pos trivial, show nI l + 12 = nI (l + 12) from nI_add l 12, if_neg (show ¬ nI (l + 12) ≤ (96 : Int32) from nle (b := 96) (by omega) (by omega))]
    · refine i_190 ?_
      rw [q_190_0]
      simp only [mS, mF, Y_99 h, t3]
      rw [if_pos trivial, show nI l + 12 = nI (l + 12) from nI_add l 12, if_neg (show ¬ nI (l + 12) ≤ (96 : Int32) from nle (b := 96) (by omega) (by omega))]
end OPD
