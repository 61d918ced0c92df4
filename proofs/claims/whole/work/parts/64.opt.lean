/-! CHECK. -/
section OPT
variable {L d : Nat} {F F' : Nat → Nat → Int32} {J : Nat → Nat → Int64} {σ σ' : aSg} {μ : aMem} {s s' xs : Nat → Int32}
theorem RK_wr (h : Lay L σ) {n m t : Nat} {a b c : Int32} (R : RK s n m t) (hl : LnK a b c) : RKx (wrS s m a b c) := by
  have hp := PL_1 h
  obtain ⟨⟨r1, r2, r3⟩, ⟨r4, r5, r6⟩, r7, r8, r9⟩ := R
  have B : BR (fun x i => if x = 3 then nI m else if x = 4 then s (54 + 3 * i) else if x = 5 then s (54 + 3 * i + 1) else s (54 + 3 * i + 2)) 1 s m := ⟨r4, r5, rfl, fun i hi => ⟨rfl, rfl, rfl, r6 i hi⟩⟩
  obtain ⟨F', -, B', -⟩ := c_addLine (d := 0) (J := fun _ _ => 0) hp B hl
  refine ⟨n, if m = 20 then 20 else m + 1, t, ⟨r1, (wrS_0 r4 (by decide) (by omega)).trans r2, fun k hk => ?_⟩, ⟨B'.1, B'.2.1, fun i hi => (B'.2.2.2 i hi).2.2.2⟩, r7, (wrS_0 r4 (by decide) (by omega)).trans r8, fun i hi => ?_⟩
  · have := r3 k hk
    unfold PK at this ⊢
    rw [wrS_0 r4 (by omega) (by omega), wrS_0 r4 (by omega) (by omega), wrS_0 r4 (by omega) (by omega), wrS_0 r4 (by omega) (by omega), wrS_0 r4 (by omega) (by omega)]
    exact this
  · obtain ⟨K, W⟩ := r9 i hi
    exact ⟨K, TW_cg (fun j hj => wrS_0 r4 (by omega) (by omega)) W⟩
theorem RK_z {n m t : Nat} (R : RK s n m t) (z : Int32) : RK (up1 s 3 z) n m t := by
  have hs3 : ∀ j, j ≠ 3 → up1 s 3 z j = s j := fun j hj => up1_n _ _ hj
  obtain ⟨⟨r1, r2, r3⟩, ⟨r4, r5, r6⟩, r7, r8, r9⟩ := R
  refine ⟨⟨r1, (hs3 0 (by decide)).trans r2, fun k hk => ?_⟩, ⟨r4, (hs3 1 (by decide)).trans r5, fun i hi => ?_⟩, r7, (hs3 2 (by decide)).trans r8, fun i hi => ?_⟩
  · have := r3 k hk
    unfold PK at this ⊢
    rw [hs3 _ (by omega), hs3 _ (by omega), hs3 _ (by omega), hs3 _ (by omega), hs3 _ (by omega)]
    exact this
  · rw [hs3 _ (by omega), hs3 _ (by omega), hs3 _ (by omega)]
    exact r6 i hi
  · obtain ⟨K, W⟩ := r9 i hi
    exact ⟨K, TW_cg (fun j hj => hs3 _ (by omega)) W⟩
theorem RKx_wk (h : Lay L σ) {x : Int32} (hx : 0 ≤ x ∧ x ≤ 2) (R : RKx s) : RKx (wkR s x) := by
  obtain ⟨n, m, t, R⟩ := R
  obtain ⟨en, em, et⟩ := RK_o R
  have l := sd_le s
  unfold wkR
  rw [em]
  exact RK_wr h (RK_z R _) ⟨hx, ⟨yle (a := 0) (by omega) (by omega), yle (b := 9999) l.1 (by decide)⟩, ⟨yle (a := 0) (by omega) (by omega), yle (b := 9999) l.2 (by decide)⟩⟩
/-- the answer of check from place j on, r rows before the end -/
def ckR (f du : Nat → Int32) (w M : Nat) : Nat → Nat → Nat
  | 0, _ => if M < w then 1 + M else 0
  | r + 1, j => if j < w ∧ f j = du j then ckR f du w M r (j + 1) else 1 + j
theorem ckR_s (f du : Nat → Int32) (w M r j : Nat) : ckR f du w M (r + 1) j = if j < w ∧ f j = du j then ckR f du w M r (j + 1) else 1 + j := rfl
theorem c_isTold (h : Lay L σ) {w j : Nat} (hw : w ≤ 60) (hj : j < 2 ^ 31) (v : Int32) : cI d 128 [.ref 0, .int (nI j), .int (nI w), .int v] (F, J, σ) = some (b2i (j < w ∧ F 68 j = v), (F, J, σ)) := by
  refine i_128 ?_
  rw [q_128_0]
  simp only [mS, mR, Y_0 h, Z_0_8 h, if_true]
  unfold b2i
  by_cases c : j < w
  · rw [if_neg (nle c (by omega)), if_neg (show ¬ (60 : Int32) ≤ nI j from nle (a := 60) (by omega) (by decide)), rd_k (Y_68 h) (by omega) (by decide), Option.bind_some]
    by_cases c2 : F 68 j = v
    · rw [if_pos c2, if_pos ⟨c, c2⟩]
    · rw [if_neg c2, if_neg (fun q => c2 q.2)]
  · rw [if_pos (yle (by omega) hj), if_neg (fun q => c q.1)]
theorem c_checkL (h : Lay L σ) (ta : TA σ 37) {x : Int32} (hx : 0 ≤ x ∧ x ≤ 2) {rw_ : Nat → Nat → Int32} {ws : Nat → Nat} {fc f : Nat → Int32} (hrw : ∀ k, wkR (rw_ k) x = rw_ (k + 1)) (hws : ∀ k, wsN (rw_ k) = ws k) (hfc : ∀ k, facS (rw_ k) (mO (rw_ k)) (-1) = fc k) {du : Nat → Int32} (hd0 : ∀ k, du (2 * k) = nI (ws k)) (hd1 : ∀ k, du (2 * k + 1) = fc (k + 1)) {N w : Nat} (hN : N ≤ 30) (hw : w ≤ 60) : ∀ (r k : Nat) (F : Nat → Nat → Int32), RW F σ 37 (rw_ k) → F 68 = f → k + r = N → ∃ F', Rn 100 118 (55, [.ref 0, .int x, .int (nI N), .int (nI w), .int (nI k)], [], (F, J, σ)) = some (some (.int (nI (ckR f du w (2 * N) (2 * r) (2 * k)))), (F', J, σ)) ∧ ∀ b, b < 37 ∨ 62 < b → F' b = F b := by
  have hp := PL_37 h
  have t5 : True ∧ 55 < 999999 := ⟨trivial, by decide⟩
  have t0 : True ∧ 0 < 999999 := ⟨trivial, by decide⟩
  have tb : True ∧ 37 + 2 < 999999 := ⟨trivial, by decide⟩
  have m2 : ∀ a, (2 : Int32) * nI a = nI (2 * a) := fun a => pk_mul 2 a
  have a1' : ∀ a, (1 : Int32) + nI a = nI (1 + a) := fun a => nI_add 1 a
  have a2' : ∀ a, (2 : Int32) + nI a = nI (2 + a) := fun a => nI_add 2 a
  intro r
  induction r with
  | zero =>
    intro k F R hf e
    have ek : k = N := by omega
    subst ek
    refine ⟨F, ?_, fun b _ => rfl⟩
    rw [q_118_55 99, if_pos (Int32.le_refl _), m2, a1']
    show _ = some (some (Value.int (nI (if 2 * k < w then 1 + 2 * k else 0))), _)
    by_cases c : 2 * k < w
    · rw [if_neg (nle c (by omega)), if_pos c]
    · rw [if_pos (yle (by omega) (by omega)), if_neg c]; rfl
  | succ r ih =>
    intro k F R hf e
    obtain ⟨n, m, t, P, B, T, z⟩ := R
    obtain ⟨F1, b1, b2, b3, b4, b5⟩ := c_work (d := 94) (J := J) h hp (by decide) ta P B T z hx
    rw [hrw] at b3
    rw [hws] at b5
    have b3' := b3
    obtain ⟨n', m', t', P', B', T', z'⟩ := b3'
    have em := (RK_o (RK_of P' B' T')).2.1
    have cf := c_fac (d := 98) (J := J) hp B' (x := -1) (Or.inl rfl)
    rw [← em, hfc] at cf
    have f68 : F1 68 = f := by rw [b2 68 (by omega), hf]
    obtain ⟨F2, d1, d2⟩ := ih (k + 1) F1 b3 f68 (by omega)
    have it0 := c_isTold (d := 99) (F := F1) (J := J) h hw (show 2 * k < 2 ^ 31 by omega) (nI (ws k))
    have it1 := c_isTold (d := 99) (F := F1) (J := J) h hw (show 2 * k + 1 < 2 ^ 31 by omega) (fc (k + 1))
    rw [f68, ← hd0] at it0
    rw [f68, ← hd1] at it1
    have hd0' := hd0 k
    have hd1' := hd1 k
    have pre : ∀ res : Option Value × aMem, (if ¬ (2 * k < w ∧ f (2 * k) = du (2 * k)) then some (some (Value.int (nI (1 + 2 * k))), ((F1, J, σ) : aMem)) else if ¬ (2 * k + 1 < w ∧ f (2 * k + 1) = du (2 * k + 1)) then some (some (Value.int (nI (2 + 2 * k))), (F1, J, σ)) else Rn 100 118 (55, [.ref 0, .int x, .int (nI N), .int (nI w), .int (nI (k + 1))], [], (F1, J, σ))) = some res → Rn 100 118 (55, [.ref 0, .int x, .int (nI N), .int (nI w), .int (nI k)], [], (F, J, σ)) = some res := by
      intro res hr
      rw [q_118_55 99, if_neg (nle (by omega) (by omega))]
      simp only [mS, mR, mF, Y_0 h, Z_0_2 h, Z_0_4 h, Y_55 h, if_true, if_pos t5, if_pos t0, b1, Option.bind_some, m2, nI_s, a1', a2', hp.y0, hp.z2, hp.y2, if_pos tb, cf, b5, ← hd0', ← hd1', it0, it1, b2i_0]
      exact hr
    have e2 : 2 * (r + 1) = 2 * r + 1 + 1 := by omega
    rw [e2, ckR_s, ckR_s]
    by_cases c0 : 2 * k < w ∧ f (2 * k) = du (2 * k)
    · by_cases c1 : 2 * k + 1 < w ∧ f (2 * k + 1) = du (2 * k + 1)
      · refine ⟨F2, pre _ ?_, fun b hb => by rw [d2 b hb, b2 b (by omega)]⟩
        rw [if_neg (not_not_intro c0), if_neg (not_not_intro c1), if_pos c0, if_pos c1]
        exact d1
      · refine ⟨F1, pre _ ?_, fun b hb => b2 b (by omega)⟩
        rw [if_neg (not_not_intro c0), if_pos c1, if_pos c0, if_neg c1, show 1 + (2 * k + 1) = 2 + 2 * k by omega]
    · refine ⟨F1, pre _ ?_, fun b hb => b2 b (by omega)⟩
      rw [if_pos c0, if_neg c0]
theorem m_checkL (h : Lay L σ) {x : Int32} {rw_ : Nat → Nat → Int32} {ws : Nat → Nat} {fc : Nat → Int32} (hrw : ∀ k, wkR (rw_ k) x = rw_ (k + 1)) (hws : ∀ k, wsN (rw_ k) = ws k) (hfc : ∀ k, facS (rw_ k) (mO (rw_ k)) (-1) = fc k) {du : Nat → Int32} (hd0 : ∀ k, du (2 * k) = nI (ws k)) (hd1 : ∀ k, du (2 * k + 1) = fc (k + 1)) {N : Nat} (hN : N ≤ 30) (hR : ∀ j, RKx (rw_ j)) (y : Int32) : ∀ (r k : Nat) (F : Nat → Nat → Int32) (w5 : Value), F 100 = rw_ k → (∀ j, j < 2 * k → F 123 j = du j) → k + r = N → ∃ F' w5', Rn 100 226 (70, [.ref 99, .int x, .int (nI N), .int y, .int (nI k), w5], [], (F, J, σ)) = Rn 100 226 (70, [.ref 99, .int x, .int (nI N), .int y, .int (nI N), w5'], [], (F', J, σ)) ∧ (∀ b, b < 99 ∨ (100 < b ∧ b < 111) ∨ (113 < b ∧ b < 118) ∨ (119 < b ∧ b < 123) ∨ 123 < b → F' b = F b) ∧ (∀ j, j ≠ 18 → F' 99 j = F 99 j) ∧ ∀ j, j < 2 * N → F' 123 j = du j := by
  have t9 : True ∧ 99 < 999999 := ⟨trivial, by decide⟩
  have m2 : ∀ a, (2 : Int32) * nI a = nI (2 * a) := fun a => pk_mul 2 a
  intro r
  induction r with
  | zero =>
    intro k F w5 hF hd e
    have ek : k = N := by omega
    subst ek
    exact ⟨F, w5, rfl, fun b _ => rfl, fun j _ => rfl, hd⟩
  | succ r ih =>
    intro k F w5 hF hd e
    obtain ⟨n, m, t, R⟩ := hR k
    obtain ⟨F1, a1, a2, a3, a4, a5⟩ := m_work (d := 93) (F := F) (J := J) h (by rw [hF]; exact R) x
    rw [hF, hrw] at a5
    rw [hF, hws] at a4
    obtain ⟨n', m', t', R'⟩ := hR (k + 1)
    have em := (RK_o R').2.1
    obtain ⟨G, eG⟩ : ∃ G, G = up1 F1 123 (up1 (F1 123) (2 * k) (du (2 * k))) := ⟨_, rfl⟩
    have g100 : G 100 = rw_ (k + 1) := by rw [eG, up1_ne _ _ (by decide), a5]
    have cf := m_fac (d := 99) (F := G) (J := J) h R'.2.1.1 (by rw [g100]; exact R'.2.1.2.1) (-1)
    rw [g100, ← em, hfc, ← hd1] at cf
    obtain ⟨G2, eG2⟩ : ∃ G2, G2 = up1 F1 123 (up1 (up1 (F1 123) (2 * k) (du (2 * k))) (2 * k + 1) (du (2 * k + 1))) := ⟨_, rfl⟩
    have o2 : ∀ b, b ≠ 123 → G2 b = F1 b := fun b hb => by rw [eG2, up1_ne _ _ hb]
    obtain ⟨p1, hp1⟩ : ∃ p1, cI 99 187 [.ref 99, .int x] (F, J, σ) = some (p1, (F1, J, σ)) := ⟨_, a1⟩
    obtain ⟨F2, w5', b1, b2, b3, b4⟩ := ih (k + 1) G2 (.int p1) (by rw [o2 100 (by decide), a5]) (fun j hj => by
      rw [eG2, up1_s]
      by_cases e1 : j = 2 * k + 1
      · rw [e1, up1_s]
      · rw [up1_n _ _ e1]
        by_cases e0 : j = 2 * k
        · rw [e0, up1_s]
        · rw [up1_n _ _ e0, a2 123 (by omega)]; exact hd j (by omega)) (by omega)
    refine ⟨F2, w5', ?_, fun b hb => by rw [b2 b hb, o2 b (by omega), a2 b (by omega)], fun j hj => by rw [b3 j hj, o2 99 (by decide), a3 j hj], b4⟩
    have hd0' := hd0 k
    rw [q_226_70 99, if_neg (nle (by omega) (by omega))]
    simp only [mS, mR, mF, Y_99 h, if_true, if_pos t9, hp1, Option.bind_some, m2, nI_s, Z_99_37 h, Y_123 h, a4, ← hd0', setF_up, ix_nI (show 2 * k < 2 ^ 31 by omega), ix_nI (show 2 * k + 1 < 2 ^ 31 by omega)]
    rw [if_pos ⟨trivial, inb_nI (by omega) (by decide)⟩, ← eG, cf, Option.bind_some]
    simp only [Y_123 h, setF_up]
    rw [if_pos ⟨trivial, inb_nI (by omega) (by decide)⟩, eG, up1_s, up1_up1, ← eG2]
    exact b1
theorem m_checkC (h : Lay L σ) {f du : Nat → Int32} {N w : Nat} (hN : N ≤ 30) (hw : w ≤ 60) (hf : ∀ j, j < w → F 122 j = f j) (hd : ∀ j, j < 2 * N → F 123 j = du j) (x : Int32) (w5 : Value) : ∀ (r j : Nat), j + r = 2 * N → j ≤ w → Rn 100 226 (133, [.ref 99, .int x, .int (nI N), .int (nI w), .int (nI j), w5], [], (F, J, σ)) = some (some (.int (nI (ckR f du w (2 * N) r j))), (F, J, σ)) := by
  have m2 : (2 : Int32) * nI N = nI (2 * N) := pk_mul 2 N
  have a1' : ∀ a, (1 : Int32) + nI a = nI (1 + a) := fun a => nI_add 1 a
  intro r
  induction r with
  | zero =>
    intro j e hj
    have ej : j = 2 * N := by omega
    subst ej
    rw [q_226_133 99, m2, a1']
    show _ = some (some (Value.int (nI (if 2 * N < w then 1 + 2 * N else 0))), _)
    by_cases c : 2 * N < w
    · rw [if_neg (nle c (by omega)), if_pos (Int32.le_refl _), if_neg (fun q => by have := (nI_eq (by omega) (by omega)).mp q; omega), if_pos c]
    · have ew : 2 * N = w := by omega
      rw [if_pos (yle (by omega) (by omega)), if_pos (by rw [ew]), if_pos rfl, if_neg c]
      rfl
  | succ r ih =>
    intro j e hj
    rw [q_226_133 99, m2, a1', ckR_s]
    by_cases c : j < w
    · rw [if_neg (nle c (by omega)), if_neg (nle (by omega) (by omega))]
      simp only [mS, mR, Y_99 h, Z_99_35 h, Z_99_37 h, if_true, rd_k (Y_122 h) (show j < 60 by omega) (by decide), rd_k (Y_123 h) (show j < 60 by omega) (by decide), hf j c, hd j (by omega), Option.bind_some, nI_s]
      by_cases c2 : f j = du j
      · rw [if_pos c2, if_pos ⟨c, c2⟩]
        exact ih (j + 1) (by omega) (by omega)
      · rw [if_neg c2, if_neg (show ¬ nI j = nI w from fun q => by have := (nI_eq (by omega) (by omega)).mp q; omega), if_neg (show ¬ (j < w ∧ f j = du j) from fun q => c2 q.2)]
    · have ew : j = w := by omega
      rw [if_pos (yle (by omega) (by omega)), if_pos (by rw [ew]), if_neg (fun q => by have := (nI_eq (by omega) (by omega)).mp q; omega), if_neg (fun q => c q.1)]
def duS (ws : Nat → Nat) (fc : Nat → Int32) (j : Nat) : Int32 := if j % 2 = 0 then nI (ws (j / 2)) else fc (j / 2 + 1)
theorem duS_0 (ws : Nat → Nat) (fc : Nat → Int32) (k : Nat) : duS ws fc (2 * k) = nI (ws k) := by
  unfold duS
  rw [if_pos (by omega), show 2 * k / 2 = k by omega]
theorem duS_1 (ws : Nat → Nat) (fc : Nat → Int32) (k : Nat) : duS ws fc (2 * k + 1) = fc (k + 1) := by
  unfold duS
  rw [if_neg (by omega), show (2 * k + 1) / 2 = k by omega]
theorem op_check : OpI (Inv L xs) 118 226 2 := op2 fun q F J σ x w hq I => by
  have h := I.lay
  have hp := PL_1 h
  obtain ⟨wn, w1, w2, w3, w4⟩ := I.wt
  obtain ⟨i1, i2, i3⟩ := I.im
  have t9 : True ∧ 99 < 999999 := ⟨trivial, by decide⟩
  -- the waiting ones are gone
  obtain ⟨F0, eF0⟩ : ∃ F0, F0 = up1 F 0 (up1 (F 0) 9 0) := ⟨_, rfl⟩
  have o0 : ∀ b, b ≠ 0 → F0 b = F b := fun b hb => by rw [eF0, up1_ne _ _ hb]
  have f0 : ∀ j, j ≠ 9 → F0 0 j = F 0 j := fun j hj => by rw [eF0, up1_s, up1_n _ _ hj]
  have short : ∀ r, Rn 100 118 (0, [.ref 0, .int x, .int w, un, un], [], (F, J, σ)) = some (some (.int r), (F0, J, σ)) → Rn 100 226 (0, [.ref 99, .int x, .int w, un, un, un], [], (F0, J, σ)) = some (some (.int r), (up1 F0 99 (up1 (F0 99) 36 0), J, σ)) → OpR L xs q 118 226 [.int x, .int w] F J σ := fun r e1 e2 => by
    refine ⟨r, F0, J, σ, _, J, σ, i_118 (d := 99) e1, h, o0 _ (by decide), i_226 (d := 99) e2, ?_⟩
    have o : ∀ b, b ≠ 0 → b ≠ 99 → up1 F0 99 (up1 (F0 99) 36 0) b = F b := fun b h1 h2 => by rw [up1_ne _ _ h2, o0 b h1]
    have g0 : ∀ j, j ≠ 9 → up1 F0 99 (up1 (F0 99) 36 0) 0 j = F 0 j := fun j hj => by rw [up1_ne _ _ (by decide), f0 j hj]
    have g9 : ∀ j, j ≠ 36 → up1 F0 99 (up1 (F0 99) 36 0) 99 j = F 99 j := fun j hj => by rw [up1_s, up1_n _ _ hj, o0 99 (by decide)]
    refine IV_mk I (fun a ha => o a (by omega) (by omega)) ⟨g0 3 (by decide), g9 3 (by decide)⟩ (TPE_cg (g0 7 (by decide)) (g9 20 (by decide)) (o 67 (by decide) (by decide)) (o 117 (by decide) (by decide)) I.tp) ⟨0, by decide, ?_, ?_, fun i hi => absurd hi (by omega)⟩ (fun i hi => SH_cg (o _ (by omega) (by omega)) (o _ (by omega) (by omega)) (o _ (by omega) (by omega)) (o _ (by omega) (by omega)) (o _ (by omega) (by omega)) (I.sh i hi)) (fun i hi => SL_cg (fun a ha => o a (by omega) (by omega)) (I.sl i hi))
    · rw [up1_ne _ _ (by decide), eF0, up1_s, up1_s]; rfl
    · rw [up1_s, up1_s]; rfl
  have csort := c_isSort (d := 98) (μ := (F0, J, σ)) x
  have msort := m_isSort (d := 99) (μ := (up1 F0 99 (up1 (F0 99) 36 0), J, σ)) x
  by_cases h1 : 0 ≤ x ∧ x ≤ 2
  · by_cases h2 : 1 ≤ w ∧ w ≤ 30
    · by_cases hk : F 99 3 = 0
      · refine short (-1000000002) ?_ ?_
        · rw [q_118_0 99]
          simp only [mS, mF, Y_0 h, if_true, setF_up, ← eF0, csort, Option.bind_some, b2i_0, c_within, f0 3 (by decide), i1]
          rw [if_neg (not_not_intro h1), if_neg (not_not_intro h2), if_pos hk]
        · rw [q_226_0 99]
          have x3 : up1 F0 99 (up1 (F0 99) 36 0) 99 3 = 0 := by rw [up1_s, up1_n _ _ (by decide), o0 99 (by decide)]; exact hk
          simp only [mS, Y_99 h, if_true, setF_up, msort, Option.bind_some, b2i_0]
          rw [if_neg (not_not_intro h1), show cI 99 133 [.long w.toInt64, .long 1, .long 30] (up1 F0 99 (up1 (F0 99) 36 0), J, σ) = _ from m_in w 1 30]
          simp only [Option.bind_some, b2i_0, mS, mF, Y_99 h, if_true]
          rw [if_neg (not_not_intro h2), if_pos x3]
      · have hk1 : F 99 3 = 1 := by rcases i2 with c | c; exact absurd c hk; exact c
        obtain ⟨N, hN1, hN2, rfl⟩ := in_n (lo := 1) (hi := 30) (by decide) h2
        have R0 := i3 hk1
        -- the class takes the image
        obtain ⟨F1, σ1, e1, e2, e3, e4, e5, e6, e7⟩ := c_take (d := 98) (F := F0) (J := J) (PL_37 h) (PL_19 h) (by decide) I.ta.2.1
        have h' : Lay L σ1 := Lay_R h e2 (fun a _ _ a3 => e3 a a3)
        have Rim : RW F0 σ 19 (F 101) := RW_cg (fun a h1 h2 => o0 a (by omega)) (fun a h1 h2 => o0 a (by omega)) (fun j _ => rfl) R0
        obtain ⟨s0, es0⟩ : ∃ s0 : Nat → Int32, s0 = fun j => if j < 2914 then F 101 j else F 100 j := ⟨_, rfl⟩
        have s0j : ∀ j, j < 2914 → s0 j = F 101 j := fun j hj => by rw [es0]; exact if_pos hj
        have Rt : RW F1 σ1 37 s0 := RW_cg (fun a _ _ => rfl) (fun a _ _ => rfl) s0j (e7 _ Rim)
        obtain ⟨rw_, erw⟩ : ∃ r, r = wkI s0 x := ⟨_, rfl⟩
        have r0 : rw_ 0 = s0 := by rw [erw]; rfl
        have hrw : ∀ k, wkR (rw_ k) x = rw_ (k + 1) := fun k => by rw [erw, wkI_s]
        have hR : ∀ j, RKx (rw_ j) := by
          intro j
          induction j with
          | zero => rw [r0]; exact RW_RK Rt
          | succ j ih => rw [← hrw]; exact RKx_wk h h1 ih
        obtain ⟨ws, ews⟩ : ∃ ws : Nat → Nat, ∀ k, wsN (rw_ k) = ws k := ⟨_, fun k => rfl⟩
        obtain ⟨fc, efc⟩ : ∃ fc : Nat → Int32, ∀ k, facS (rw_ k) (mO (rw_ k)) (-1) = fc k := ⟨_, fun k => rfl⟩
        obtain ⟨F2, c1, c2⟩ := c_checkL (J := J) h' e4 h1 hrw ews efc (duS_0 ws fc) (duS_1 ws fc) hN2 w1 N 0 F1 (by rw [r0]; exact Rt) rfl (by omega)
        have o1 : ∀ b, b < 37 ∨ 54 < b → F1 b = F0 b := fun b hb => e5 b (by omega)
        have o2 : ∀ b, b < 37 ∨ 62 < b → F2 b = F0 b := fun b hb => by rw [c2 b hb, o1 b (by omega)]
        have f68 : F1 68 = F 68 := by rw [o1 68 (by omega), o0 68 (by decide)]
        rw [f68] at c1
        -- the model
        obtain ⟨G0, eG0⟩ : ∃ G0, G0 = up1 F2 99 (up1 (F2 99) 36 0) := ⟨_, rfl⟩
        obtain ⟨G1, eG1⟩ : ∃ G1, G1 = up1 G0 102 (fun j => if j < 2914 then G0 100 j else G0 102 j) := ⟨_, rfl⟩
        obtain ⟨G2, eG2⟩ : ∃ G2, G2 = up1 G1 100 (fun j => if j < 2914 then G1 101 j else G1 100 j) := ⟨_, rfl⟩
        have p0 : ∀ b, b ≠ 99 → G0 b = F2 b := fun b hb => by rw [eG0, up1_ne _ _ hb]
        have p1 : ∀ b, b ≠ 102 → G1 b = G0 b := fun b hb => by rw [eG1, up1_ne _ _ hb]
        have p2 : ∀ b, b ≠ 100 → G2 b = G1 b := fun b hb => by rw [eG2, up1_ne _ _ hb]
        have q100 : G0 100 = F 100 := by rw [p0 100 (by decide), o2 100 (by omega), o0 100 (by decide)]
        have q101 : G1 101 = F 101 := by rw [p1 101 (by decide), p0 101 (by decide), o2 101 (by omega), o0 101 (by decide)]
        have g2s : G2 100 = rw_ 0 := by rw [eG2, up1_s, r0, es0, q101, p1 100 (by decide), q100]
        obtain ⟨G3, w5', k1, k2, k3, k4⟩ := m_checkL (J := J) h' hrw ews efc (duS_0 ws fc) (duS_1 ws fc) hN2 hR (nI wn) N 0 G2 un g2s (fun j hj => absurd hj (by omega)) (by omega)
        obtain ⟨G4, eG4⟩ : ∃ G4, G4 = up1 G3 100 (fun j => if j < 2914 then G3 102 j else G3 100 j) := ⟨_, rfl⟩
        have p4 : ∀ b, b ≠ 100 → G4 b = G3 b := fun b hb => by rw [eG4, up1_ne _ _ hb]
        have oo : ∀ b, b < 37 ∨ (62 < b ∧ b < 99) ∨ b = 101 ∨ (102 < b ∧ b < 111) ∨ (113 < b ∧ b < 118) ∨ (119 < b ∧ b < 123) ∨ 123 < b → G4 b = F0 b := fun b hb => by rw [p4 b (by omega), k2 b (by omega), p2 b (by omega), p1 b (by omega), p0 b (by omega), o2 b (by omega)]
        have q122 : ∀ j, j < wn → G4 122 j = F 68 j := fun j hj => by rw [oo 122 (by omega), o0 122 (by decide)]; exact (w4 j hj).symm
        have mc := m_checkC (F := G4) (J := J) (f := F 68) (du := duS ws fc) h' hN2 w1 q122 (fun j hj => by rw [p4 123 (by decide)]; exact k4 j hj) x w5' (2 * N) 0 (by omega) (by omega)
        have g9 : ∀ j, j ≠ 18 → j ≠ 36 → G4 99 j = F 99 j := fun j h1 h2 => by rw [p4 99 (by decide), k3 j h1, p2 99 (by decide), p1 99 (by decide), eG0, up1_s, up1_n _ _ h2, o2 99 (by omega), o0 99 (by decide)]
        have hc : sep2 37 19 := by decide
        refine ⟨nI (ckR (F 68) (duS ws fc) wn (2 * N) (2 * N) (2 * 0)), F2, J, σ1, G4, J, σ1, ?_, h', by rw [o2 _ (by omega), o0 _ (by decide)], ?_, ?_⟩
        · refine i_118 (d := 99) ?_
          rw [q_118_0 99]
          simp only [mS, mR, mF, Y_0 h, Z_0_1 h, Z_0_2 h, if_true, setF_up, ← eF0, csort, Option.bind_some, b2i_0, c_within, f0 3 (by decide), i1, (PL_37 h).y0, w2]
          rw [if_neg (not_not_intro h1), if_neg (not_not_intro h2), if_neg hk, if_pos ⟨trivial, by decide⟩, e1, Option.bind_some]
          exact c1
        · refine i_226 (d := 99) ?_
          have x36 : F2 99 36 = nI wn := by rw [o2 99 (by omega), o0 99 (by decide)]; exact w3
          have x3 : G0 99 3 = F 99 3 := by rw [eG0, up1_s, up1_n _ _ (by decide), o2 99 (by omega), o0 99 (by decide)]
          rw [q_226_0 99]
          simp only [mS, mR, mF, Y_99 h', Z_99_0 h', Z_99_1 h', Z_99_2 h', if_true, if_pos t9, setF_up, ← eG0, m_isSort, Option.bind_some, b2i_0, show cI 99 133 [.long (nI N).toInt64, .long 1, .long 30] (G0, J, σ1) = _ from m_in (nI N) 1 30, x3, x36]
          rw [if_neg (not_not_intro h1), if_neg (not_not_intro h2), if_neg hk, m_aside (Y_100 h') (Y_102 h') (by decide), Option.bind_some]
          simp only [mS, mR, Y_99 h', Z_99_0 h', Z_99_1 h', if_true, if_pos t9]
          rw [← eG1, m_aside (Y_101 h') (Y_100 h') (by decide), Option.bind_some, ← eG2]
          refine (show _ = _ from k1).trans ?_
          rw [q_226_70 99, if_pos (Int32.le_refl _)]
          simp only [mS, mR, Y_99 h', Z_99_0 h', Z_99_2 h', if_true, if_pos t9]
          rw [m_aside (Y_102 h') (Y_100 h') (by decide), Option.bind_some, ← eG4]
          exact mc
        · have gk : ∀ b, b ≠ 0 → b < 37 ∨ (62 < b ∧ b < 99) ∨ b = 101 ∨ (102 < b ∧ b < 111) ∨ (113 < b ∧ b < 118) ∨ (119 < b ∧ b < 123) ∨ 123 < b → G4 b = F b := fun b h0 hb => by rw [oo b hb, o0 b h0]
          have g0 : ∀ j, j ≠ 9 → G4 0 j = F 0 j := fun j hj => by rw [oo 0 (by omega), f0 j hj]
          have hN := I.nn
          have s100 : ∀ j, j < 2914 → G4 100 j = F 100 j := fun j hj => by
            have e102 : G3 102 = G1 102 := by rw [k2 102 (by omega), p2 102 (by decide)]
            rw [eG4, up1_s, e102, eG1, up1_s, q100]
            show (if j < 2914 then (if j < 2914 then F 100 j else G0 102 j) else G3 100 j) = F 100 j
            rw [if_pos hj, if_pos hj]
          refine ⟨⟨h', by rw [gk 1000014 (by omega) (by omega)]; exact I.xz, by rw [e2]; omega, by rw [e2]; omega⟩, ?_, ?_, TPE_cg (g0 7 (by decide)) (g9 20 (by decide) (by decide)) (gk 67 (by decide) (by omega)) (gk 117 (by decide) (by omega)) I.tp, ⟨0, by decide, ?_, ?_, fun i hi => absurd hi (by omega)⟩, fun i hi => SH_cg (gk _ (by omega) (by omega)) (gk _ (by omega) (by omega)) (gk _ (by omega) (by omega)) (gk _ (by omega) (by omega)) (gk _ (by omega) (by omega)) (I.sh i hi), fun i hi => SL_cg (fun a ha => gk a (by omega) (by omega)) (I.sl i hi), TA_R e2 (e3 _ (by decide)) I.ta.1, TA_R e2 (e3 _ (by decide)) I.ta.2.1, e4⟩
          · exact RW_R e2 (fun c hc => e3 c (by omega)) (e3 _ (by decide)) (RW_cg (fun a h1 h2 => gk a (by omega) (by omega)) (fun a h1 h2 => gk a (by omega) (by omega)) s100 I.rw)
          · have I2 : IM F σ1 := ⟨i1, i2, fun e => RW_R e2 (fun c hc => e3 c (by omega)) (e3 _ (by decide)) (i3 e)⟩
            exact IM_cg (g0 3 (by decide)) (g9 3 (by decide) (by decide)) (fun a ha => gk a (by omega) (by omega)) I2
          · rw [oo 0 (by omega), eF0, up1_s, up1_s]; rfl
          · rw [p4 99 (by decide), k3 36 (by decide), p2 99 (by decide), p1 99 (by decide), eG0, up1_s, up1_s]; rfl
    · refine short (-1000000001) ?_ ?_
      · rw [q_118_0 99]
        simp only [mS, Y_0 h, if_true, setF_up, ← eF0, csort, Option.bind_some, b2i_0, c_within]
        rw [if_neg (not_not_intro h1), if_pos h2]
      · rw [q_226_0 99]
        simp only [mS, Y_99 h, if_true, setF_up, msort, Option.bind_some, b2i_0]
        rw [if_neg (not_not_intro h1), show cI 99 133 [.long w.toInt64, .long 1, .long 30] (up1 F0 99 (up1 (F0 99) 36 0), J, σ) = _ from m_in w 1 30]
        simp only [Option.bind_some, b2i_0]
        rw [if_pos h2]
  · refine short (-1000000001) ?_ ?_
    · rw [q_118_0 99]
      simp only [mS, Y_0 h, if_true, setF_up, ← eF0, csort, Option.bind_some, b2i_0]
      rw [if_pos h1]
    · rw [q_226_0 99]
      simp only [mS, Y_99 h, if_true, setF_up, msort, Option.bind_some, b2i_0]
      rw [if_pos h1]
end OPT
