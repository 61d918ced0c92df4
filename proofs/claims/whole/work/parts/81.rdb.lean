/-! THE READER OF THE CLASS: keys, names, numbers, signs, what is put. -/
section RDB
variable {L d l : Nat} {F F' : Nat → Nat → Int32} {J : Nat → Nat → Int64} {σ : aSg} {μ : aMem} {T g : Nat → Int32} {key : Int32} {S : PSt}
theorem c_coder {a : Nat} (hr : 1000002 ≤ a ∧ a < 1000008) : cI d 238 [.ref a] μ = some (0, μ) := by
  refine i_238 ?_
  rw [q_238_0, if_neg (by decide), if_pos hr]
theorem c_latin {a : Nat} (hr : 1000002 ≤ a ∧ a < 1000008) : cI d 239 [.ref a] μ = some (1, μ) := by
  refine i_239 ?_
  rw [q_239_0, if_neg (by decide), if_pos hr, if_pos rfl]
theorem st_len (h : Lay L σ) {a n : Nat} (hr : 1000002 ≤ a ∧ a < 1000008) (hn : (sTx.getD (a + 6 - 1000008) []).length = n) : rdL (F, J, σ) (a + 6) = some (nI n) := by
  have hP : σ.2.1 (a + 6) = (99, 0) := h.2.2.2.2.2.2.1 (a + 6) (by omega) (by omega)
  unfold rdL
  simp only [mS, hP]
  rw [if_neg (by decide), if_neg (by omega), if_pos (by omega), hn]
  rfl
theorem c_slen (h : Lay L σ) {a n : Nat} (hr : 1000002 ≤ a ∧ a < 1000008) (hn : (sTx.getD (a + 6 - 1000008) []).length = n) (hv : nI n >>> ((0 : Int32) &&& 31) = nI n) : cI (d + 1) 234 [.ref a] (F, J, σ) = some (nI n, (F, J, σ)) := by
  refine i_234 ?_
  rw [q_234_0, if_pos hr, st_len h hr hn, Option.bind_some, c_coder hr, Option.bind_some]
  dsimp only
  rw [hv]
theorem c_char (h : Lay L σ) {a n i : Nat} {b : Int32} (hr : 1000002 ≤ a ∧ a < 1000008) (hn : (sTx.getD (a + 6 - 1000008) []).length = n) (hi : i < n) (n9 : n < 9) (hb : rdB (a + 6) (nI i) = some b) (hc : ((b &&& 255 : Int32).toUInt32 % 65536).toInt32 = b) (hd : (b.toUInt32 % 65536).toInt32 = b) : cI (d + 3) 235 [.ref a, .int (nI i)] (F, J, σ) = some (b, (F, J, σ)) := by
  have e1 : cI d 245 [.int (nI i), .int (nI n), .ref 1000015] (F, J, σ) = some (nI i, (F, J, σ)) := by
    refine i_245 ?_
    rw [q_245_0, if_neg (show ¬ nI i < 0 from nlt (b := 0) (by omega) (by omega)), if_pos (ylt hi (by omega))]
  have e2 : cV (d + 1) 240 [.int (nI i), .int (nI n)] (F, J, σ) = some (F, J, σ) := by
    refine i_240 (v := none) ?_
    rw [q_240_0, e1, Option.bind_some]
  have e3 : cI (d + 2) 241 [.ref (a + 6), .int (nI i)] (F, J, σ) = some (b, (F, J, σ)) := by
    refine i_241 ?_
    rw [q_241_0, st_len h hr hn, Option.bind_some, e2, Option.bind_some, hb, Option.bind_some, hc, if_pos hd]
  refine i_235 ?_
  rw [q_235_0, if_pos hr, c_latin hr, Option.bind_some]
  dsimp only
  rw [if_neg (by decide), e3, Option.bind_some]
  dsimp only
  rw [if_pos hd]
/-- one of the words -/
abbrev wdP (a n : Nat) (B : Nat → Int32) : Prop := (1000002 ≤ a ∧ a < 1000008) ∧ (sTx.getD (a + 6 - 1000008) []).length = n ∧ n < 9 ∧ (nI n >>> ((0 : Int32) &&& 31) = nI n) ∧ ∀ i, i < n → rdB (a + 6) (nI i) = some (B i) ∧ ((B i &&& 255 : Int32).toUInt32 % 65536).toInt32 = B i ∧ ((B i).toUInt32 % 65536).toInt32 = B i
theorem c_wordL (h : Lay L σ) {a n st sp : Nat} {B : Nat → Int32} (hw : wdP a n B) (hl : l ≤ 96) (r1 : F 64 1 = nI l) (r8 : F 64 8 = nI st) (e : sp - st = n) (hs : st ≤ sp ∧ sp ≤ l) : ∀ r i, i + r = n → (∀ j, j < i → F 65 (st + j) = B j) → ∃ v, Rn (d + 4) 27 (28, [.ref 64, .ref a, .int (nI i)], [], (F, J, σ)) = some (some (.int v), (F, J, σ)) ∧ ((v = 1 ∧ ∀ j, j < n → F 65 (st + j) = B j) ∨ (v = 0 ∧ ¬ ∀ j, j < n → F 65 (st + j) = B j))
  | 0, i, ei, hj => by
    obtain ⟨hr, hn, n9, hv, hB⟩ := hw
    refine ⟨1, ?_, Or.inl ⟨rfl, fun j q => hj j (by omega)⟩⟩
    rw [q_27_28, if_pos hr, c_slen h hr hn hv, Option.bind_some]
    dsimp only
    rw [if_pos (yle (by omega) (by omega))]
  | r + 1, i, ei, hj => by
    have hw' := hw
    obtain ⟨hr, hn, n9, hv, hB⟩ := hw
    obtain ⟨b1, b2, b3⟩ := hB i (by omega)
    have e0 : Rn (d + 4) 27 (28, [.ref 64, .ref a, .int (nI i)], [], (F, J, σ)) = if F 65 (st + i) = B i then Rn (d + 4) 27 (28, [.ref 64, .ref a, .int (nI (i + 1))], [], (F, J, σ)) else some (some (.int 0), (F, J, σ)) := by
      rw [q_27_28, if_pos hr, c_slen h hr hn hv, Option.bind_some]
      simp only [mS, mF, Y_64 h, r8, if_true, nI_add]
      rw [if_neg (nle (by omega) (by omega)), if_pos t64, c_byte h hl r1 (by omega), Option.bind_some]
      dsimp only
      rw [c_char h hr hn (by omega) n9 b1 b2 b3, Option.bind_some]
      dsimp only
      rw [nI_s]
    by_cases c : F 65 (st + i) = B i
    · rw [e0, if_pos c]
      exact c_wordL h hw' hl r1 r8 e hs r (i + 1) (by omega) (fun j q => by
        by_cases ej : j = i
        · rw [ej]; exact c
        · exact hj j (by omega))
    · exact ⟨0, by rw [e0, if_neg c], Or.inr ⟨rfl, fun q => c (q i (by omega))⟩⟩
theorem c_word (h : Lay L σ) {a n : Nat} {B : Nat → Int32} (hw : wdP a n B) {t : Nat × Nat × Nat} (hl : l ≤ 96) (W : TKt T l t) (hT : ∀ i, i < l → F 65 i = T i) (r1 : F 64 1 = nI l) (r7 : F 64 7 = nI t.1) (r8 : F 64 8 = nI t.2.1) (r9 : F 64 9 = nI t.2.2) (P : Prop) [Decidable P] (hP : P ↔ (t.1 = 1 ∧ t.2.2 - t.2.1 = n ∧ ∀ j, j < n → T (t.2.1 + j) = B j)) : cI (d + 4) 27 [.ref 64, .ref a] (F, J, σ) = some (b2i P, (F, J, σ)) := by
  obtain ⟨w1, w2, w3, w4, -, -⟩ := W
  have hw' := hw
  obtain ⟨hr, hn, n9, hv, hB⟩ := hw
  refine i_27 ?_
  rw [q_27_0]
  simp only [mS, mF, Y_64 h, r7, r8, r9, if_true]
  unfold b2i
  by_cases c1 : t.1 = 1
  · rw [if_pos (show nI t.1 = 1 by rw [c1]; rfl), if_pos hr, c_slen h hr hn hv, Option.bind_some]
    dsimp only
    rw [pk_sub w1]
    by_cases c2 : t.2.2 - t.2.1 = n
    · rw [if_pos (show nI (t.2.2 - t.2.1) = nI n by rw [c2])]
      obtain ⟨v, e, q⟩ := c_wordL (d := d) (J := J) h hw' hl r1 r8 c2 ⟨w1, w2⟩ n 0 (by omega) (fun j q => absurd q (Nat.not_lt_zero j))
      have e' : Rn (d + 4) 27 (28, [.ref 64, .ref a, .int 0], [], (F, J, σ)) = some (some (.int v), (F, J, σ)) := e
      rw [e']
      rcases q with ⟨q1, q2⟩ | ⟨q1, q2⟩
      · rw [if_pos (hP.mpr ⟨c1, c2, fun j hj => by rw [← hT _ (by omega)]; exact q2 j hj⟩), q1]
      · rw [if_neg (fun q => q2 (fun j hj => by rw [hT _ (by omega)]; exact (hP.mp q).2.2 j hj)), q1]
    · rw [if_neg (show ¬ nI (t.2.2 - t.2.1) = nI n from fun q => c2 ((nI_eq (by omega) (by omega)).mp q)), if_neg (fun q => c2 (hP.mp q).2.1)]
  · rw [if_neg (show ¬ nI t.1 = 1 from fun q => c1 ((nI_eq (b := 1) (by omega) (by decide)).mp q)), if_neg (fun q => c1 (hP.mp q).1)]
abbrev w3P (T : Nat → Int32) (t : Nat × Nat × Nat) (a b c : Int32) : Prop := t.1 = 1 ∧ t.2.2 - t.2.1 = 3 ∧ T t.2.1 = a ∧ T (t.2.1 + 1) = b ∧ T (t.2.1 + 2) = c
abbrev w4P (T : Nat → Int32) (t : Nat × Nat × Nat) (a b c e : Int32) : Prop := t.1 = 1 ∧ t.2.2 - t.2.1 = 4 ∧ T t.2.1 = a ∧ T (t.2.1 + 1) = b ∧ T (t.2.1 + 2) = c ∧ T (t.2.1 + 3) = e
/-- the key, or -1 -/
def kyS (T : Nat → Int32) (t : Nat × Nat × Nat) : Int32 := if w3P T t 115 97 121 then 0 else if w4P T t 119 97 105 116 then 1 else if w4P T t 102 105 110 101 then 2 else -1
theorem w3_i {t : Nat × Nat × Nat} {B : Nat → Int32} {a b c : Int32} (h0 : B 0 = a) (h1 : B 1 = b) (h2 : B 2 = c) : w3P T t a b c ↔ (t.1 = 1 ∧ t.2.2 - t.2.1 = 3 ∧ ∀ j, j < 3 → T (t.2.1 + j) = B j) :=
  ⟨fun ⟨q1, q2, q3, q4, q5⟩ => ⟨q1, q2, fun j hj => by
    rcases (show j = 0 ∨ j = 1 ∨ j = 2 by omega) with e | e | e
    · rw [e, h0]; exact q3
    · rw [e, h1]; exact q4
    · rw [e, h2]; exact q5⟩, fun ⟨q1, q2, q3⟩ => ⟨q1, q2, by rw [← h0]; exact q3 0 (by decide), by rw [← h1]; exact q3 1 (by decide), by rw [← h2]; exact q3 2 (by decide)⟩⟩
theorem w4_i {t : Nat × Nat × Nat} {B : Nat → Int32} {a b c e : Int32} (h0 : B 0 = a) (h1 : B 1 = b) (h2 : B 2 = c) (h3 : B 3 = e) : w4P T t a b c e ↔ (t.1 = 1 ∧ t.2.2 - t.2.1 = 4 ∧ ∀ j, j < 4 → T (t.2.1 + j) = B j) :=
  ⟨fun ⟨q1, q2, q3, q4, q5, q6⟩ => ⟨q1, q2, fun j hj => by
    rcases (show j = 0 ∨ j = 1 ∨ j = 2 ∨ j = 3 by omega) with e | e | e | e
    · rw [e, h0]; exact q3
    · rw [e, h1]; exact q4
    · rw [e, h2]; exact q5
    · rw [e, h3]; exact q6⟩, fun ⟨q1, q2, q3⟩ => ⟨q1, q2, by rw [← h0]; exact q3 0 (by decide), by rw [← h1]; exact q3 1 (by decide), by rw [← h2]; exact q3 2 (by decide), by rw [← h3]; exact q3 3 (by decide)⟩⟩
abbrev sB (w : Nat) (i : Nat) : Int32 := (sTx.getD w []).getD i 0
theorem wd_say : wdP 1000002 3 (sB 0) := ⟨by decide, by decide, by decide, by decide, by decide⟩
theorem wd_wait : wdP 1000003 4 (sB 1) := ⟨by decide, by decide, by decide, by decide, by decide⟩
theorem wd_fine : wdP 1000004 4 (sB 2) := ⟨by decide, by decide, by decide, by decide, by decide⟩
theorem c_key (h : Lay L σ) {t : Nat × Nat × Nat} (hl : l ≤ 96) (W : TKt T l t) (hT : ∀ i, i < l → F 65 i = T i) (r1 : F 64 1 = nI l) (r7 : F 64 7 = nI t.1) (r8 : F 64 8 = nI t.2.1) (r9 : F 64 9 = nI t.2.2) : cI (d + 5) 28 [.ref 64] (F, J, σ) = some (kyS T t, (F, J, σ)) := by
  refine i_28 ?_
  rw [q_28_0]
  simp only [mS, Y_64 h]
  rw [if_pos t64, c_word h wd_say hl W hT r1 r7 r8 r9 (w3P T t 115 97 121) (w3_i rfl rfl rfl), Option.bind_some]
  simp only [b2i_0, mS, Y_64 h]
  unfold kyS
  by_cases c1 : w3P T t 115 97 121
  · rw [if_neg (not_not_intro c1), if_pos c1]
  · rw [if_pos c1, if_neg c1, if_pos t64, c_word h wd_wait hl W hT r1 r7 r8 r9 (w4P T t 119 97 105 116) (w4_i rfl rfl rfl rfl), Option.bind_some]
    simp only [b2i_0, mS, Y_64 h]
    by_cases c2 : w4P T t 119 97 105 116
    · rw [if_neg (not_not_intro c2), if_pos c2]
    · rw [if_pos c2, if_neg c2, if_pos t64, c_word h wd_fine hl W hT r1 r7 r8 r9 (w4P T t 102 105 110 101) (w4_i rfl rfl rfl rfl), Option.bind_some]
      simp only [b2i_0]
      by_cases c3 : w4P T t 102 105 110 101
      · rw [if_neg (not_not_intro c3), if_pos c3]
      · rw [if_pos c3, if_neg c3]
/-! a name's place among the names -/
theorem ix_end {a n : Nat} {x1 x2 b : Int32} : Rn d 244 (7, [.ref a, .int x1, .int x2, .int (nI n), .int b, .int (nI n)], [], μ) = some (some (.int (-1)), μ) := by rw [q_244_7, if_pos (Int32.le_refl _)]
theorem ix_st {a n i : Nat} {x1 x2 b v : Int32} (hi : i < n) (hn : n < 9) (hB : rdB a (nI i) = some v) : Rn d 244 (7, [.ref a, .int x1, .int x2, .int (nI n), .int b, .int (nI i)], [], μ) = if v = b then some (some (.int (nI i)), μ) else Rn d 244 (7, [.ref a, .int x1, .int x2, .int (nI n), .int b, .int (nI (i + 1))], [], μ) := by
  rw [q_244_7, if_neg (nle hi (by omega)), hB, Option.bind_some, nI_s]
theorem c_ind (h : Lay L σ) {a n : Nat} {x v : Int32} (hr : 1000002 ≤ a ∧ a < 1000008) (hn : (sTx.getD (a + 6 - 1000008) []).length = n) (n9 : 0 < n ∧ n < 9) (hv : nI n >>> ((0 : Int32) &&& 31) = nI n) (hx : 0 ≤ x ∧ x ≤ 255) (e : ∀ d : Nat, Rn d 244 (7, [.ref (a + 6), .int x, .int 0, .int (nI n), .int x.toInt8.toInt32, .int 0], [], (F, J, σ)) = some (some (.int v), (F, J, σ))) : cI (d + 3) 236 [.ref a, .int x] (F, J, σ) = some (v, (F, J, σ)) := by
  have e1 : cI d 244 [.ref (a + 6), .int x, .int 0, .int (nI n)] (F, J, σ) = some (v, (F, J, σ)) := by
    refine i_244 ?_
    rw [q_244_0]
    exact e d
  have e2 : cI d 242 [.int x] (F, J, σ) = some (1, (F, J, σ)) := by
    refine i_242 ?_
    rw [q_242_0, if_neg (Int32.not_lt.mpr hx.1), if_neg (Int32.not_lt.mpr hx.2)]
  have e3 : cI (d + 1) 243 [.ref (a + 6), .int x, .int 0, .int (nI n)] (F, J, σ) = some (v, (F, J, σ)) := by
    refine i_243 ?_
    rw [q_243_0, e2, Option.bind_some]
    dsimp only
    rw [if_neg (by decide), st_len h hr hn, Option.bind_some]
    rw [if_neg (show ¬ nI n < nI n from nlt (Nat.le_refl _) (by omega)), if_neg (show ¬ (0 : Int32) < 0 by decide), if_pos (show (0 : Int32) < nI n from ylt (a := 0) n9.1 (by omega)), e1, Option.bind_some]
  have e4 : cI (d + 2) 237 [.ref a, .int x, .int 0] (F, J, σ) = some (v, (F, J, σ)) := by
    refine i_237 ?_
    rw [q_237_0, if_pos hr, c_latin hr, Option.bind_some]
    dsimp only
    rw [if_neg (by decide), c_slen h hr hn hv, Option.bind_some]
    dsimp only
    rw [e3, Option.bind_some]
  refine i_236 ?_
  rw [q_236_0, if_pos hr, e4, Option.bind_some]
theorem let_c : ∀ v, v < 123 → ((nI v).toUInt32 % 65536).toInt32 = nI v ∧ (nI v).toInt8.toInt32 = nI v := by decide +kernel
/-- the number of a name, or -1 -/
def naS (key b : Int32) : Int32 := if isNm key b then -1 - nmI key b else -1
theorem c_ind3 (h : Lay L σ) {a : Nat} {x v0 v1 v2 : Int32} (hr : 1000002 ≤ a ∧ a < 1000008) (hn : (sTx.getD (a + 6 - 1000008) []).length = 3) (h0 : rdB (a + 6) (nI 0) = some v0) (h1 : rdB (a + 6) (nI 1) = some v1) (h2 : rdB (a + 6) (nI 2) = some v2) (hx : 0 ≤ x ∧ x ≤ 255) (h8 : x.toInt8.toInt32 = x) : cI (d + 3) 236 [.ref a, .int x] (F, J, σ) = some (if v0 = x then 0 else if v1 = x then 1 else if v2 = x then 2 else -1, (F, J, σ)) := by
  refine c_ind h hr hn (by decide) (by decide) hx (fun d => ?_)
  rw [h8]
  have s0 := ix_st (d := d) (μ := (F, J, σ)) (a := a + 6) (n := 3) (i := 0) (x1 := x) (x2 := 0) (b := x) (by decide) (by decide) h0
  have s1 := ix_st (d := d) (μ := (F, J, σ)) (a := a + 6) (n := 3) (i := 1) (x1 := x) (x2 := 0) (b := x) (by decide) (by decide) h1
  have s2 := ix_st (d := d) (μ := (F, J, σ)) (a := a + 6) (n := 3) (i := 2) (x1 := x) (x2 := 0) (b := x) (by decide) (by decide) h2
  have s3 := ix_end (d := d) (μ := (F, J, σ)) (a := a + 6) (n := 3) (x1 := x) (x2 := 0) (b := x)
  refine s0.trans ?_
  by_cases c0 : v0 = x
  · rw [if_pos c0, if_pos c0]; rfl
  · rw [if_neg c0, if_neg c0, s1]
    by_cases c1 : v1 = x
    · rw [if_pos c1, if_pos c1]; rfl
    · rw [if_neg c1, if_neg c1, s2]
      by_cases c2 : v2 = x
      · rw [if_pos c2, if_pos c2]; rfl
      · rw [if_neg c2, if_neg c2, s3]
theorem c_ind2 (h : Lay L σ) {a : Nat} {x v0 v1 : Int32} (hr : 1000002 ≤ a ∧ a < 1000008) (hn : (sTx.getD (a + 6 - 1000008) []).length = 2) (h0 : rdB (a + 6) (nI 0) = some v0) (h1 : rdB (a + 6) (nI 1) = some v1) (hx : 0 ≤ x ∧ x ≤ 255) (h8 : x.toInt8.toInt32 = x) : cI (d + 3) 236 [.ref a, .int x] (F, J, σ) = some (if v0 = x then 0 else if v1 = x then 1 else -1, (F, J, σ)) := by
  refine c_ind h hr hn (by decide) (by decide) hx (fun d => ?_)
  rw [h8]
  have s0 := ix_st (d := d) (μ := (F, J, σ)) (a := a + 6) (n := 2) (i := 0) (x1 := x) (x2 := 0) (b := x) (by decide) (by decide) h0
  have s1 := ix_st (d := d) (μ := (F, J, σ)) (a := a + 6) (n := 2) (i := 1) (x1 := x) (x2 := 0) (b := x) (by decide) (by decide) h1
  have s3 := ix_end (d := d) (μ := (F, J, σ)) (a := a + 6) (n := 2) (x1 := x) (x2 := 0) (b := x)
  refine s0.trans ?_
  by_cases c0 : v0 = x
  · rw [if_pos c0, if_pos c0]; rfl
  · rw [if_neg c0, if_neg c0, s1]
    by_cases c1 : v1 = x
    · rw [if_pos c1, if_pos c1]; rfl
    · rw [if_neg c1, if_neg c1, s3]
theorem na_0 (x : Int32) : (if (103 : Int32) = x then (0 : Int32) else if 116 = x then 1 else if 102 = x then 2 else -1) = naS 0 x := by
  by_cases c0 : 103 = x
  · rw [if_pos c0, ← c0]; decide
  · rw [if_neg c0]
    by_cases c1 : 116 = x
    · rw [if_pos c1, ← c1]; decide
    · rw [if_neg c1]
      by_cases c2 : 102 = x
      · rw [if_pos c2, ← c2]; decide
      · rw [if_neg c2]
        unfold naS
        rw [if_neg (fun q => by rcases q with ⟨-, q | q | q⟩ | ⟨q, -⟩ | ⟨q, -⟩; exact c0 q.symm; exact c1 q.symm; exact c2 q.symm; exact absurd q (by decide); exact absurd q (by decide))]
theorem na_1 (x : Int32) : (if (110 : Int32) = x then (0 : Int32) else if 103 = x then 1 else if 116 = x then 2 else -1) = naS 1 x := by
  by_cases c0 : 110 = x
  · rw [if_pos c0, ← c0]; decide
  · rw [if_neg c0]
    by_cases c1 : 103 = x
    · rw [if_pos c1, ← c1]; decide
    · rw [if_neg c1]
      by_cases c2 : 116 = x
      · rw [if_pos c2, ← c2]; decide
      · rw [if_neg c2]
        unfold naS
        rw [if_neg (fun q => by rcases q with ⟨q, -⟩ | ⟨-, q | q | q⟩ | ⟨q, -⟩; exact absurd q (by decide); exact c0 q.symm; exact c1 q.symm; exact c2 q.symm; exact absurd q (by decide))]
theorem na_2 (x : Int32) : (if (101 : Int32) = x then (0 : Int32) else if 100 = x then 1 else -1) = naS 2 x := by
  by_cases c0 : 101 = x
  · rw [if_pos c0, ← c0]; decide
  · rw [if_neg c0]
    by_cases c1 : 100 = x
    · rw [if_pos c1, ← c1]; decide
    · rw [if_neg c1]
      unfold naS
      rw [if_neg (fun q => by rcases q with ⟨q, -⟩ | ⟨q, -⟩ | ⟨-, q | q⟩; exact absurd q (by decide); exact absurd q (by decide); exact c0 q.symm; exact c1 q.symm)]
theorem RS.hl (R : RS T l key F S) : l ≤ 96 := R.1.1
theorem RS.tk (R : RS T l key F S) : TKt T l S.1 := R.1.2
theorem RS.hT (R : RS T l key F S) : ∀ i, i < l → F 65 i = T i := R.2.1
theorem RS.r1 (R : RS T l key F S) : F 64 1 = nI l := R.2.2.1
theorem RS.r3 (R : RS T l key F S) : F 64 3 = nI S.2.1.2 := R.2.2.2.1
theorem RS.r4 (R : RS T l key F S) : F 64 4 = key := R.2.2.2.2.1
theorem RS.r5 (R : RS T l key F S) : F 64 5 = nI S.2.1.1 := R.2.2.2.2.2.1
theorem RS.r6 (R : RS T l key F S) : F 64 6 = -1 := R.2.2.2.2.2.2.1
theorem RS.r7 (R : RS T l key F S) : F 64 7 = nI S.1.1 := R.2.2.2.2.2.2.2.1.1
theorem RS.r8 (R : RS T l key F S) : F 64 8 = nI S.1.2.1 := R.2.2.2.2.2.2.2.1.2.1
theorem RS.r9 (R : RS T l key F S) : F 64 9 = nI S.1.2.2 := R.2.2.2.2.2.2.2.1.2.2
theorem RS.rc (R : RS T l key F S) : ∀ j, j < S.2.1.2 → F 66 j = encI key (S.2.2 j).1 (S.2.2 j).2 := R.2.2.2.2.2.2.2.2
theorem RS.by (h : Lay L σ) (R : RS T l key F S) (hs : S.1.2.1 < l) : cI d 23 [.ref 64, .int (nI S.1.2.1)] (F, J, σ) = some (T S.1.2.1, (F, J, σ)) := by
  rw [c_byte h R.hl R.r1 hs, R.hT _ hs]
theorem k_eq {k : Nat} (m : Nat) (h : k ≤ 4) (hm : m < 9) : (nI k = nI m) ↔ k = m := nI_eq (by omega) (by omega)
theorem c_name (h : Lay L σ) (R : RS T l key F S) (hk : key = 0 ∨ key = 1 ∨ key = 2) : cI (d + 4) 29 [.ref 64] (F, J, σ) = some (if S.1.1 = 1 ∧ S.1.2.2 - S.1.2.1 = 1 then naS key (T S.1.2.1) else -1, (F, J, σ)) := by
  have W := R.tk
  refine i_29 ?_
  rw [q_29_0]
  simp only [mS, mF, Y_64 h, R.r7, R.r8, R.r9, R.r4, if_true]
  by_cases c1 : S.1.1 = 1
  · rw [if_pos (show nI S.1.1 = 1 by rw [c1]; rfl), pk_sub W.1]
    by_cases c2 : S.1.2.2 - S.1.2.1 = 1
    · rw [if_pos (show nI (S.1.2.2 - S.1.2.1) = 1 by rw [c2]; rfl), if_pos (show S.1.1 = 1 ∧ S.1.2.2 - S.1.2.1 = 1 from ⟨c1, c2⟩)]
      have hs : S.1.2.1 < l := by have := W.2.1; omega
      obtain ⟨v, v1, v2, ev⟩ := in_n (lo := 97) (hi := 122) (by decide) (leP_t.mp (W.2.2.2.2.1 c1))
      obtain ⟨l1, l2⟩ := let_c v (by omega)
      have x1 : 0 ≤ nI v ∧ nI v ≤ 255 := ⟨yle (a := 0) (by omega) (by omega), yle (b := 255) (by omega) (by decide)⟩
      rw [RS.by h R hs, Option.bind_some]
      dsimp only
      rw [ev, l1]
      rcases hk with e | e | e
      · rw [e, if_pos rfl, if_pos t64, c_ind3 h (a := 1000005) (v0 := 103) (v1 := 116) (v2 := 102) (by decide) (by decide) (by decide) (by decide) (by decide) x1 l2, Option.bind_some]
        dsimp only
        rw [na_0]
      · rw [e, if_neg (by decide), if_pos rfl, if_pos t64, Option.bind_some]
        dsimp only
        rw [l1, c_ind3 h (a := 1000006) (v0 := 110) (v1 := 103) (v2 := 116) (by decide) (by decide) (by decide) (by decide) (by decide) x1 l2, Option.bind_some]
        dsimp only
        rw [na_1]
      · rw [e, if_neg (by decide), if_neg (by decide), if_pos t64, Option.bind_some]
        dsimp only
        rw [l1, c_ind2 h (a := 1000007) (v0 := 101) (v1 := 100) (by decide) (by decide) (by decide) (by decide) x1 l2, Option.bind_some]
        dsimp only
        rw [na_2]
    · rw [if_neg (show ¬ nI (S.1.2.2 - S.1.2.1) = 1 from fun q => c2 ((nI_eq (b := 1) (by have := W.2.1; have := R.hl; omega) (by decide)).mp q)), if_neg (fun q => c2 q.2)]
  · rw [if_neg (show ¬ nI S.1.1 = 1 from fun q => c1 ((k_eq 1 W.2.2.1 (by decide)).mp q)), if_neg (fun q => c1 q.1)]
theorem c_numL (h : Lay L σ) (R : RS T l key F S) : ∀ r i, S.1.2.1 + i + r = S.1.2.2 → Rn (d + 1) 30 (7, [.ref 64, .int (nuV T S.1.2.1 i), .int (nI (S.1.2.1 + i))], [], (F, J, σ)) = some (some (.int (nuV T S.1.2.1 (i + r))), (F, J, σ))
  | 0, i, e => by
    have := R.tk.2.1
    have := R.hl
    rw [q_30_7]
    simp only [mS, mF, Y_64 h, R.r9, if_true]
    rw [if_pos (yle (by omega) (by omega)), Nat.add_zero]
  | r + 1, i, e => by
    have := R.tk.2.1
    have := R.hl
    rw [q_30_7]
    simp only [mS, mF, Y_64 h, R.r9, if_true]
    rw [if_neg (nle (by omega) (by omega)), if_pos t64, c_byte h R.hl R.r1 (by omega), Option.bind_some, R.hT _ (by omega)]
    dsimp only
    rw [nI_s, ← nuV_s, show S.1.2.1 + i + 1 = S.1.2.1 + (i + 1) by omega, c_numL h R r (i + 1) (by omega), show i + 1 + r = i + (r + 1) by omega]
theorem c_num (h : Lay L σ) (R : RS T l key F S) : cI (d + 1) 30 [.ref 64] (F, J, σ) = some (nuV T S.1.2.1 (S.1.2.2 - S.1.2.1), (F, J, σ)) := by
  have := R.tk.1
  have e := c_numL (d := d) (J := J) h R (S.1.2.2 - S.1.2.1) 0 (by omega)
  refine i_30 ?_
  rw [q_30_0]
  simp only [mS, mF, Y_64 h, R.r8, if_true]
  rw [Nat.zero_add] at e
  exact e
theorem c_sign (h : Lay L σ) (R : RS T l key F S) (x : Int32) : cI (d + 1) 31 [.ref 64, .int x] (F, J, σ) = some (b2i (S.1.1 = 3 ∧ T S.1.2.1 = x), (F, J, σ)) := by
  have W := R.tk
  refine i_31 ?_
  rw [q_31_0]
  simp only [mS, mF, Y_64 h, R.r7, R.r8, if_true]
  unfold b2i
  by_cases c1 : S.1.1 = 3
  · have hs : S.1.2.1 < l := by have := W.2.2.2.1 (by omega); have := W.2.1; omega
    rw [if_pos (show nI S.1.1 = 3 by rw [c1]; rfl), if_pos t64, RS.by h R hs, Option.bind_some]
    dsimp only
    by_cases c2 : T S.1.2.1 = x
    · rw [if_pos c2, if_pos ⟨c1, c2⟩]
    · rw [if_neg c2, if_neg (fun q => c2 q.2)]
  · rw [if_neg (show ¬ nI S.1.1 = 3 from fun q => c1 ((k_eq 3 W.2.2.1 (by decide)).mp q)), if_neg (fun q => c1 q.1)]
theorem sgL_0 (b : Int32) : sgL 0 b ↔ b = 124 := ⟨fun q => by rcases q with ⟨-, q⟩ | ⟨q, -⟩ | ⟨q, -⟩ | ⟨q, -⟩ | ⟨q, -⟩; exact q; all_goals exact absurd q (by decide), fun q => Or.inl ⟨rfl, q⟩⟩
theorem sgL_1 (b : Int32) : sgL 1 b ↔ b = 38 := ⟨fun q => by rcases q with ⟨q, -⟩ | ⟨-, q⟩ | ⟨q, -⟩ | ⟨q, -⟩ | ⟨q, -⟩; exact absurd q (by decide); exact q; all_goals exact absurd q (by decide), fun q => Or.inr (Or.inl ⟨rfl, q⟩)⟩
theorem sgL_2 (b : Int32) : sgL 2 b ↔ (b = 60 ∨ b = 61 ∨ b = 62) := ⟨fun q => by rcases q with ⟨q, -⟩ | ⟨q, -⟩ | ⟨-, q⟩ | ⟨q, -⟩ | ⟨q, -⟩; exact absurd q (by decide); exact absurd q (by decide); exact q; all_goals exact absurd q (by decide), fun q => Or.inr (Or.inr (Or.inl ⟨rfl, q⟩))⟩
theorem sgL_3 (b : Int32) : sgL 3 b ↔ (b = 43 ∨ b = 45) := ⟨fun q => by rcases q with ⟨q, -⟩ | ⟨q, -⟩ | ⟨q, -⟩ | ⟨-, q⟩ | ⟨q, -⟩; exact absurd q (by decide); exact absurd q (by decide); exact absurd q (by decide); exact q; exact absurd q (by decide), fun q => Or.inr (Or.inr (Or.inr (Or.inl ⟨rfl, q⟩)))⟩
theorem sgL_4 (b : Int32) : sgL 4 b ↔ (b = 42 ∨ b = 47) := ⟨fun q => by rcases q with ⟨q, -⟩ | ⟨q, -⟩ | ⟨q, -⟩ | ⟨q, -⟩ | ⟨-, q⟩; exact absurd q (by decide); exact absurd q (by decide); exact absurd q (by decide); exact absurd q (by decide); exact q, fun q => Or.inr (Or.inr (Or.inr (Or.inr ⟨rfl, q⟩)))⟩
theorem b2i_t {c : Prop} [Decidable c] (h : c) : b2i c = 1 := if_pos h
theorem b2i_f {c : Prop} [Decidable c] (h : ¬ c) : b2i c = 0 := if_neg h
theorem c_signOf (h : Lay L σ) (R : RS T l key F S) {lv : Nat} (hv : lv < 5) : cI (d + 2) 32 [.ref 64, .int (nI lv)] (F, J, σ) = some (b2i (S.1.1 = 3 ∧ sgL lv (T S.1.2.1)), (F, J, σ)) := by
  refine i_32 ?_
  rw [q_32_0]
  simp only [mS, Y_64 h]
  rcases (show lv = 0 ∨ lv = 1 ∨ lv = 2 ∨ lv = 3 ∨ lv = 4 by omega) with e | e | e | e | e <;> subst e
  · rw [if_pos (show nI 0 = 0 from rfl), if_pos t64, c_sign h R, Option.bind_some]
    dsimp only
    rw [if_pos (b2i_01 _), b2i_congr (and_congr_right fun _ => (sgL_0 _).symm)]
  · rw [if_neg (show ¬ nI 1 = 0 by decide), if_pos (show nI 1 = 1 from rfl), if_pos t64, c_sign h R, Option.bind_some]
    dsimp only
    rw [if_pos (b2i_01 _), b2i_congr (and_congr_right fun _ => (sgL_1 _).symm)]
  · rw [if_neg (show ¬ nI 2 = 0 by decide), if_neg (show ¬ nI 2 = 1 by decide), if_pos (show nI 2 = 2 from rfl), if_pos t64, c_sign h R, Option.bind_some]
    simp only [b2i_0, mS, Y_64 h]
    by_cases c1 : S.1.1 = 3 ∧ T S.1.2.1 = 60
    · rw [if_neg (not_not_intro c1), b2i_t ⟨c1.1, (sgL_2 _).mpr (Or.inl c1.2)⟩]
    · rw [if_pos c1, if_pos t64, c_sign h R, Option.bind_some]
      simp only [b2i_0, mS, Y_64 h]
      by_cases c2 : S.1.1 = 3 ∧ T S.1.2.1 = 61
      · rw [if_neg (not_not_intro c2), b2i_t ⟨c2.1, (sgL_2 _).mpr (Or.inr (Or.inl c2.2))⟩]
      · rw [if_pos c2, if_pos t64, c_sign h R, Option.bind_some]
        simp only [b2i_0]
        by_cases c3 : S.1.1 = 3 ∧ T S.1.2.1 = 62
        · rw [if_neg (not_not_intro c3), b2i_t ⟨c3.1, (sgL_2 _).mpr (Or.inr (Or.inr c3.2))⟩]
        · rw [if_pos c3, b2i_f (fun q => by rcases (sgL_2 _).mp q.2 with e | e | e; exact c1 ⟨q.1, e⟩; exact c2 ⟨q.1, e⟩; exact c3 ⟨q.1, e⟩)]
  · rw [if_neg (show ¬ nI 3 = 0 by decide), if_neg (show ¬ nI 3 = 1 by decide), if_neg (show ¬ nI 3 = 2 by decide), if_pos (show nI 3 = 3 from rfl), if_pos t64, c_sign h R, Option.bind_some]
    simp only [b2i_0, mS, Y_64 h]
    by_cases c1 : S.1.1 = 3 ∧ T S.1.2.1 = 43
    · rw [if_neg (not_not_intro c1), b2i_t ⟨c1.1, (sgL_3 _).mpr (Or.inl c1.2)⟩]
    · rw [if_pos c1, if_pos t64, c_sign h R, Option.bind_some]
      simp only [b2i_0]
      by_cases c2 : S.1.1 = 3 ∧ T S.1.2.1 = 45
      · rw [if_neg (not_not_intro c2), b2i_t ⟨c2.1, (sgL_3 _).mpr (Or.inr c2.2)⟩]
      · rw [if_pos c2, b2i_f (fun q => by rcases (sgL_3 _).mp q.2 with e | e; exact c1 ⟨q.1, e⟩; exact c2 ⟨q.1, e⟩)]
  · rw [if_neg (show ¬ nI 4 = 0 by decide), if_neg (show ¬ nI 4 = 1 by decide), if_neg (show ¬ nI 4 = 2 by decide), if_neg (show ¬ nI 4 = 3 by decide), if_pos (show nI 4 = 4 from rfl), if_pos t64, c_sign h R, Option.bind_some]
    simp only [b2i_0, mS, Y_64 h]
    by_cases c1 : S.1.1 = 3 ∧ T S.1.2.1 = 42
    · rw [if_neg (not_not_intro c1), b2i_t ⟨c1.1, (sgL_4 _).mpr (Or.inl c1.2)⟩]
    · rw [if_pos c1, if_pos t64, c_sign h R, Option.bind_some]
      simp only [b2i_0]
      by_cases c2 : S.1.1 = 3 ∧ T S.1.2.1 = 47
      · rw [if_neg (not_not_intro c2), b2i_t ⟨c2.1, (sgL_4 _).mpr (Or.inr c2.2)⟩]
      · rw [if_pos c2, b2i_f (fun q => by rcases (sgL_4 _).mp q.2 with e | e; exact c1 ⟨q.1, e⟩; exact c2 ⟨q.1, e⟩)]
/-- what is put -/
def ptF (F : Nat → Nat → Int32) (c : Nat) (x : Int32) : Nat → Nat → Int32 := up1 (up1 F 66 (up1 (F 66) c x)) 64 (up1 (F 64) 3 (nI (c + 1)))
theorem c_put (h : Lay L σ) {c : Nat} (hc : F 64 3 = nI c) (c96 : c < 96) (x : Int32) : cV d 33 [.ref 64, .int x] (F, J, σ) = some (ptF F c x, J, σ) := by
  refine i_33 (v := none) ?_
  rw [q_33_0]
  simp only [mS, mR, mF, Y_64 h, Z_64_2 h, Y_66 h, hc, if_true]
  rw [if_neg (show ¬ 96 ≤ nI c from nle (a := 96) c96 (by decide)), if_pos ⟨trivial, inb_nI c96 (by decide)⟩, ix_nI (by omega)]
  simp only [setF_up, up1_n F (up1 (F 66) c x) (show 64 ≠ 66 by decide), hc, nI_s]
  rfl
theorem c_putN (h : Lay L σ) {c : Nat} (hc : F 64 3 = nI c) (c96 : c = 96) (x : Int32) : cV d 33 [.ref 64, .int x] (F, J, σ) = some (F, J, σ) := by
  refine i_33 (v := none) ?_
  rw [q_33_0]
  simp only [mS, mF, Y_64 h, hc, if_true]
  rw [if_pos (show 96 ≤ nI c by rw [c96]; decide)]
theorem RS_put (R : RS T l key F S) {w v x : Int32} (hx : x = encI key w v) : RS T l key (ptF F S.2.1.2 x) (putS w v S) := by
  have e64 : ∀ j, j ≠ 3 → ptF F S.2.1.2 x 64 j = F 64 j := fun j hj => by unfold ptF; rw [up1_s, up1_n _ _ hj]
  refine ⟨R.1, fun i hi => ?_, ?_, ?_, ?_, ?_, ?_, ⟨?_, ?_, ?_⟩, fun j hj => ?_⟩
  · unfold ptF
    rw [up1_ne _ _ (show 65 ≠ 64 by decide), up1_ne _ _ (show 65 ≠ 66 by decide)]; exact R.hT i hi
  · rw [e64 1 (by decide)]; exact R.r1
  · unfold ptF; rw [up1_s, up1_s]; rfl
  · rw [e64 4 (by decide)]; exact R.r4
  · rw [e64 5 (by decide)]; exact R.r5
  · rw [e64 6 (by decide)]; exact R.r6
  · rw [e64 7 (by decide)]; exact R.r7
  · rw [e64 8 (by decide)]; exact R.r8
  · rw [e64 9 (by decide)]; exact R.r9
  · have hj' : j < S.2.1.2 + 1 := hj
    show ptF F S.2.1.2 x 66 j = encI key (up1 S.2.2 S.2.1.2 (w, v) j).1 (up1 S.2.2 S.2.1.2 (w, v) j).2
    unfold ptF
    rw [up1_ne _ _ (show 66 ≠ 64 by decide), up1_s]
    by_cases e : j = S.2.1.2
    · rw [e, up1_s, up1_s]; exact hx
    · rw [up1_n _ _ e, up1_n _ _ e]; exact R.rc j (by omega)
theorem ptF_n {c a : Nat} {x : Int32} (h1 : a ≠ 64) (h2 : a ≠ 66) : ptF F c x a = F a := by unfold ptF; rw [up1_ne _ _ h1, up1_ne _ _ h2]
theorem c_fail (h : Lay L σ) (h6 : F 64 6 = -1) : cV d 34 [.ref 64] (F, J, σ) = some (up1 F 64 (up1 (F 64) 6 (F 64 8)), J, σ) := by
  refine i_34 (v := none) ?_
  rw [q_34_0]
  simp only [mS, mF, Y_64 h, h6, if_true]
  rw [if_neg (by decide)]
  rfl
theorem c_failN (h : Lay L σ) (h6 : 0 ≤ F 64 6) : cV d 34 [.ref 64] (F, J, σ) = some (F, J, σ) := by
  refine i_34 (v := none) ?_
  rw [q_34_0]
  simp only [mS, mF, Y_64 h, if_true]
  rw [if_pos h6]
theorem c_opd (h : Lay L σ) (R : RS T l key F S) (hc : S.2.1.2 < 96) {w v x : Int32} (hx : x = encI key w v) : ∃ F', cV (d + 2) 37 [.ref 64, .int x] (F, J, σ) = some (F', J, σ) ∧ (∀ a, a ≠ 64 → a ≠ 66 → F' a = F a) ∧ RS T l key F' (opdS T l w v S) := by
  have R1 := RS_put R hx
  have R2 : RS T l key (up1 (ptF F S.2.1.2 x) 64 (up1 (ptF F S.2.1.2 x 64) 5 (nI (S.2.1.1 + 1)))) (S.1, (S.2.1.1 + 1, S.2.1.2 + 1), up1 S.2.2 S.2.1.2 (w, v)) := by
    have e64 : ∀ j, j ≠ 5 → up1 (ptF F S.2.1.2 x) 64 (up1 (ptF F S.2.1.2 x 64) 5 (nI (S.2.1.1 + 1))) 64 j = ptF F S.2.1.2 x 64 j := fun j hj => by rw [up1_s, up1_n _ _ hj]
    refine ⟨R1.1, fun i hi => ?_, ?_, ?_, ?_, ?_, ?_, ⟨?_, ?_, ?_⟩, fun j hj => ?_⟩
    · rw [up1_ne _ _ (show 65 ≠ 64 by decide)]; exact R1.hT i hi
    · rw [e64 1 (by decide)]; exact R1.r1
    · rw [e64 3 (by decide)]; exact R1.r3
    · rw [e64 4 (by decide)]; exact R1.r4
    · rw [up1_s, up1_s]
    · rw [e64 6 (by decide)]; exact R1.r6
    · rw [e64 7 (by decide)]; exact R1.r7
    · rw [e64 8 (by decide)]; exact R1.r8
    · rw [e64 9 (by decide)]; exact R1.r9
    · rw [up1_ne _ _ (show 66 ≠ 64 by decide)]; exact R1.rc j hj
  obtain ⟨F', a1, a2, a3⟩ := c_look (d := d) (J := J) h R2
  refine ⟨F', i_37 (v := none) ?_, fun a h1 h2 => ?_, a3⟩
  · rw [q_37_0]
    simp only [mS, Y_64 h]
    rw [if_pos t64, c_put h R.r3 hc, Option.bind_some]
    have r5 : ptF F S.2.1.2 x 64 5 = nI S.2.1.1 := R1.r5
    simp only [mS, mF, Y_64 h, if_true, setF_up, r5, nI_s]
    rw [if_pos t64, a1, Option.bind_some]
  · rw [a2 a h1, up1_ne _ _ h1, ptF_n h1 h2]
end RDB
