/-! THE READER OF THE CLASS: words and signs. -/
section RDA
variable {L d l : Nat} {F F' : Nat → Nat → Int32} {J : Nat → Nat → Int64} {σ : aSg} {μ : aMem} {T g : Nat → Int32}
theorem t64 : True ∧ 64 < 999999 := ⟨trivial, by decide⟩
theorem c_byte (h : Lay L σ) (hl : l ≤ 96) (h1 : F 64 1 = nI l) {i : Nat} (hi : i < l) : cI d 23 [.ref 64, .int (nI i)] (F, J, σ) = some (F 65 i, (F, J, σ)) := by
  refine i_23 ?_
  rw [q_23_0]
  simp only [mS, mR, mF, Y_64 h, Z_64_0 h, h1, if_true]
  rw [if_neg (show ¬ nI i < 0 from nlt (b := 0) (by omega) (by omega)), if_neg (nle hi (by omega)), if_neg (show ¬ 96 ≤ nI i from nle (a := 96) (by omega) (by decide)), rd_k (Y_65 h) (by omega) (by decide)]
  rfl
theorem c_letter (x : Int32) : cI d 24 [.int x] μ = some (b2i (97 ≤ x ∧ x ≤ 122), μ) := by
  refine i_24 ?_
  rw [q_24_0]
  unfold b2i
  by_cases h1 : x < 97
  · rw [if_pos h1, if_neg (fun q => absurd q.1 (Int32.not_le.mpr h1))]
  · rw [if_neg h1]
    by_cases h2 : 122 < x
    · rw [if_pos h2, if_neg (fun q => absurd q.2 (Int32.not_le.mpr h2))]
    · rw [if_neg h2, if_pos ⟨Int32.not_lt.mp h1, Int32.not_lt.mp h2⟩]
theorem c_digit (x : Int32) : cI d 25 [.int x] μ = some (b2i (48 ≤ x ∧ x ≤ 57), μ) := by
  refine i_25 ?_
  rw [q_25_0]
  unfold b2i
  by_cases h1 : x < 48
  · rw [if_pos h1, if_neg (fun q => absurd q.1 (Int32.not_le.mpr h1))]
  · rw [if_neg h1]
    by_cases h2 : 57 < x
    · rw [if_pos h2, if_neg (fun q => absurd q.2 (Int32.not_le.mpr h2))]
    · rw [if_neg h2, if_pos ⟨Int32.not_lt.mp h1, Int32.not_lt.mp h2⟩]
theorem c_byU (h : Lay L σ) (hl : l ≤ 96) (hT : ∀ i, i < l → F 65 i = T i) (h1 : g 1 = nI l) {i : Nat} (hi : i < l) : cI d 23 [.ref 64, .int (nI i)] (up1 F 64 g, J, σ) = some (T i, (up1 F 64 g, J, σ)) := by
  rw [c_byte h hl ((congrFun (up1_s F 64 g) 1).trans h1) hi, up1_ne F g (show 65 ≠ 64 by decide), hT i hi]
theorem look_bl (h : Lay L σ) (hl : l ≤ 96) (hT : ∀ i, i < l → F 65 i = T i) (x1 x2 : Int32) (w3 w4 : Value) : ∀ (n st : Nat) (g : Nat → Int32), st + n = l → g 1 = nI l → g 8 = nI st → Rn (d + 1) 26 (35, [.ref 64, .int x1, .int x2, w3, w4], [], (up1 F 64 g, J, σ)) = Rn (d + 1) 26 (72, [.ref 64, .int x1, .int x2, w3, w4], [], (up1 F 64 (up1 g 8 (nI (scP (blP T) l st))), J, σ))
  | 0, st, g, e, g1, g8 => by
    rw [q_26_35]
    simp only [mS, mF, Y_64 h, up1_s, g1, g8, if_true]
    rw [if_pos (yle (by omega) (by omega)), scP_end (by omega), ← g8, up1_self]
  | n + 1, st, g, e, g1, g8 => by
    rw [q_26_35]
    simp only [mS, mF, Y_64 h, up1_s, g1, g8, if_true]
    rw [if_neg (nle (by omega) (by omega)), if_pos t64, c_byU h hl hT g1 (by omega), Option.bind_some]
    dsimp only
    by_cases c : T st = 32
    · rw [if_pos c]
      simp only [mS, mF, Y_64 h, setF_up, up1_s, up1_up1, g8, nI_s, if_true]
      rw [look_bl h hl hT x1 x2 w3 w4 n (st + 1) (up1 g 8 (nI (st + 1))) (by omega) (by rw [up1_n _ _ (by decide)]; exact g1) (up1_s _ _ _), up1_up1, scP_t (by omega) (blP_t.mpr c)]
    · rw [if_neg c, scP_f (by omega) (fun q => c (blP_t.mp q)), ← g8, up1_self]
theorem look_le (h : Lay L σ) (hl : l ≤ 96) (hT : ∀ i, i < l → F 65 i = T i) (x1 x2 : Int32) (w3 w4 : Value) : ∀ (n st : Nat) (g : Nat → Int32), st + n = l → g 1 = nI l → g 9 = nI st → Rn (d + 1) 26 (116, [.ref 64, .int x1, .int x2, w3, w4], [], (up1 F 64 g, J, σ)) = Rn (d + 1) 26 (226, [.ref 64, .int x1, .int x2, w3, w4], [], (up1 F 64 (up1 g 9 (nI (scP (leP T) l st))), J, σ))
  | 0, st, g, e, g1, g8 => by
    rw [q_26_116]
    simp only [mS, mF, Y_64 h, up1_s, g1, g8, if_true]
    rw [if_pos (yle (by omega) (by omega)), scP_end (by omega), ← g8, up1_self]
  | n + 1, st, g, e, g1, g8 => by
    rw [q_26_116]
    simp only [mS, mF, Y_64 h, up1_s, g1, g8, if_true]
    rw [if_neg (nle (by omega) (by omega)), if_pos t64, c_byU h hl hT g1 (by omega), Option.bind_some]
    dsimp only
    rw [c_letter, Option.bind_some]
    simp only [b2i_0]
    by_cases c : 97 ≤ T st ∧ T st ≤ 122
    · rw [if_neg (not_not_intro c)]
      simp only [mS, mF, Y_64 h, setF_up, up1_s, up1_up1, g8, nI_s, if_true]
      rw [look_le h hl hT x1 x2 w3 w4 n (st + 1) (up1 g 9 (nI (st + 1))) (by omega) (by rw [up1_n _ _ (by decide)]; exact g1) (up1_s _ _ _), up1_up1, scP_t (by omega) (leP_t.mpr c)]
    · rw [if_pos c, scP_f (by omega) (fun q => c (leP_t.mp q)), ← g8, up1_self]
theorem look_di (h : Lay L σ) (hl : l ≤ 96) (hT : ∀ i, i < l → F 65 i = T i) (x1 x2 : Int32) (w3 w4 : Value) : ∀ (n st : Nat) (g : Nat → Int32), st + n = l → g 1 = nI l → g 9 = nI st → Rn (d + 1) 26 (173, [.ref 64, .int x1, .int x2, w3, w4], [], (up1 F 64 g, J, σ)) = Rn (d + 1) 26 (226, [.ref 64, .int x1, .int x2, w3, w4], [], (up1 F 64 (up1 g 9 (nI (scP (diP T) l st))), J, σ))
  | 0, st, g, e, g1, g8 => by
    rw [q_26_173]
    simp only [mS, mF, Y_64 h, up1_s, g1, g8, if_true]
    rw [if_pos (yle (by omega) (by omega)), scP_end (by omega), ← g8, up1_self]
  | n + 1, st, g, e, g1, g8 => by
    rw [q_26_173]
    simp only [mS, mF, Y_64 h, up1_s, g1, g8, if_true]
    rw [if_neg (nle (by omega) (by omega)), if_pos t64, c_byU h hl hT g1 (by omega), Option.bind_some]
    dsimp only
    rw [c_digit, Option.bind_some]
    simp only [b2i_0]
    by_cases c : 48 ≤ T st ∧ T st ≤ 57
    · rw [if_neg (not_not_intro c)]
      simp only [mS, mF, Y_64 h, setF_up, up1_s, up1_up1, g8, nI_s, if_true]
      rw [look_di h hl hT x1 x2 w3 w4 n (st + 1) (up1 g 9 (nI (st + 1))) (by omega) (by rw [up1_n _ _ (by decide)]; exact g1) (up1_s _ _ _), up1_up1, scP_t (by omega) (diP_t.mpr c)]
    · rw [if_pos c, scP_f (by omega) (fun q => c (diP_t.mp q)), ← g8, up1_self]
theorem look_278 (h : Lay L σ) (x1 x2 x3 x4 : Int32) (w4 : Value) : Rn (d + 1) 26 (278, [.ref 64, .int x1, .int x2, .int x3, w4], [.int x4], (up1 F 64 g, J, σ)) = some (none, (up1 F 64 (if x3 = 0 ∧ x4 = 0 then g else up1 g 7 4), J, σ)) := by
  have e : ∀ x4 : Int32, Rn (d + 1) 26 (289, [.ref 64, .int x1, .int x2, .int x3, .int x4], [], (up1 F 64 g, J, σ)) = some (none, (up1 F 64 (up1 g 7 4), J, σ)) := fun x4 => by
    rw [q_26_289]
    simp only [mS, Y_64 h, if_true, setF_up, up1_s, up1_up1]
    rw [q_26_294]
  rw [q_26_278]
  by_cases h3 : x3 = 0
  · rw [if_pos h3]
    by_cases h4 : x4 = 0
    · rw [if_pos h4, if_pos ⟨h3, h4⟩, q_26_294]
    · rw [if_neg h4, if_neg (fun q => h4 q.2), e]
  · rw [if_neg h3, if_neg (fun q => h3 q.1), e]
theorem look_251 (h : Lay L σ) {k st sq : Nat} (g7 : g 7 = nI k) (g8 : g 8 = nI st) (g9 : g 9 = nI sq) (hk : k ≤ 4) (b : st ≤ sq ∧ sq ≤ 96) (x1 x2 xs : Int32) (w3 w4 : Value) : Rn (d + 1) 26 (251, [.ref 64, .int x1, .int x2, w3, w4], [.int xs], (up1 F 64 g, J, σ)) = some (none, (up1 F 64 (if xs = 0 ∧ ¬ (k = 2 ∧ 4 < sq - st) then g else up1 g 7 4), J, σ)) := by
  rw [q_26_251]
  simp only [mS, mF, Y_64 h, up1_s, g7, g8, g9, if_true]
  by_cases h2 : k = 2
  · rw [if_pos (show nI k = 2 by rw [h2]; rfl), pk_sub b.1]
    by_cases h4 : 4 < sq - st
    · rw [if_neg (show ¬ nI (sq - st) ≤ 4 from nle (b := 4) h4 (by omega)), look_278 h, if_neg (fun q => absurd q.2 (by decide)), if_neg (fun q => q.2 ⟨h2, h4⟩)]
    · rw [if_pos (show nI (sq - st) ≤ 4 from yle (b := 4) (by omega) (by decide)), q_26_277, look_278 h]
      by_cases hx : xs = 0
      · rw [if_pos ⟨hx, rfl⟩, if_pos ⟨hx, fun q => h4 q.2⟩]
      · rw [if_neg (fun q => hx q.1), if_neg (fun q => hx q.1)]
  · rw [if_neg (show ¬ nI k = 2 from fun q => h2 ((nI_eq (b := 2) (by omega) (by decide)).mp q)), q_26_277, look_278 h]
    by_cases hx : xs = 0
    · rw [if_pos ⟨hx, rfl⟩, if_pos ⟨hx, fun q => h2 q.1⟩]
    · rw [if_neg (fun q => hx q.1), if_neg (fun q => hx q.1)]
theorem look_226 (h : Lay L σ) {wb : Bool} {k st sp sq : Nat} (g7 : g 7 = nI k) (g8 : g 8 = nI st) (g9 : g 9 = nI sq) (hk : k ≤ 4) (b : st ≤ sq ∧ sq ≤ 96 ∧ sp ≤ 96) (w3 w4 : Value) : Rn (d + 1) 26 (226, [.ref 64, .int (if wb = true then 1 else 0), .int (nI sp), w3, w4], [], (up1 F 64 g, J, σ)) = some (none, (up1 F 64 (if ¬ ((wb = true ∧ st = sp) ∧ ¬ k = 3) ∧ ¬ (k = 2 ∧ 4 < sq - st) then g else up1 g 7 4), J, σ)) := by
  have key : ∀ xs : Int32, (xs = 0 ↔ ¬ ((wb = true ∧ st = sp) ∧ ¬ k = 3)) → Rn (d + 1) 26 (251, [.ref 64, .int (if wb = true then 1 else 0), .int (nI sp), w3, w4], [.int xs], (up1 F 64 g, J, σ)) = some (none, (up1 F 64 (if ¬ ((wb = true ∧ st = sp) ∧ ¬ k = 3) ∧ ¬ (k = 2 ∧ 4 < sq - st) then g else up1 g 7 4), J, σ)) := fun xs hx => by
    rw [look_251 h g7 g8 g9 hk ⟨b.1, b.2.1⟩]
    simp only [hx]
  rw [q_26_226]
  simp only [mS, mF, Y_64 h, up1_s, g7, g8, if_true]
  by_cases hw : wb = true
  · rw [if_neg (show ¬ (if wb = true then (1 : Int32) else 0) = 0 by rw [if_pos hw]; decide)]
    by_cases hs : st = sp
    · rw [if_pos (show nI st = nI sp by rw [hs])]
      by_cases h3 : k = 3
      · rw [if_pos (show nI k = 3 by rw [h3]; rfl), q_26_250, key 0 ⟨fun _ q => q.2 h3, fun _ => rfl⟩]
      · rw [if_neg (show ¬ nI k = 3 from fun q => h3 ((nI_eq (b := 3) (by omega) (by decide)).mp q)), key 1 ⟨fun q => absurd q (by decide), fun q => absurd ⟨⟨hw, hs⟩, h3⟩ q⟩]
    · rw [if_neg (show ¬ nI st = nI sp from fun q => hs ((nI_eq (by omega) (by omega)).mp q)), q_26_250, key 0 ⟨fun _ q => hs q.1.2, fun _ => rfl⟩]
  · rw [if_pos (show (if wb = true then (1 : Int32) else 0) = 0 by rw [if_neg hw]), q_26_250, key 0 ⟨fun _ q => hw q.1.1, fun _ => rfl⟩]
theorem look_fin {C : Prop} [Decidable C] {k kk : Nat} {r : Nat → Int32} (h7 : r 7 = nI k) (e : kk = if C then k else 4) : (if C then r else up1 r 7 4) 7 = nI kk ∧ ∀ j, j ≠ 7 → (if C then r else up1 r 7 4) j = r j := by
  by_cases c : C
  · rw [if_pos c] at e ⊢
    exact ⟨by rw [e]; exact h7, fun j _ => rfl⟩
  · rw [if_neg c] at e ⊢
    exact ⟨by rw [e]; rfl, fun j hj => up1_n _ _ hj⟩
theorem c_lookU (h : Lay L σ) (hl : l ≤ 96) (hT : ∀ i, i < l → F 65 i = T i) {k sp : Nat} (hk : k ≤ 4) (hs : sp ≤ l) (g1 : g 1 = nI l) (g7 : g 7 = nI k) (g9 : g 9 = nI sp) : ∃ g', cV (d + 1) 26 [.ref 64] (up1 F 64 g, J, σ) = some (up1 F 64 g', J, σ) ∧ (g' 7 = nI (nxT T l (wbK k) sp).1 ∧ g' 8 = nI (nxT T l (wbK k) sp).2.1 ∧ g' 9 = nI (nxT T l (wbK k) sp).2.2) ∧ ∀ j, j < 7 → g' j = g j := by
  obtain ⟨s1, s2, -, -⟩ := scP_in (P := blP T) (l := l) (l - sp) sp (by omega)
  have e0 : Rn (d + 1) 26 (0, [.ref 64, un, un, un, un], [], (up1 F 64 g, J, σ)) = Rn (d + 1) 26 (72, [.ref 64, .int (if wbK k = true then 1 else 0), .int (nI sp), un, un], [], (up1 F 64 (up1 g 8 (nI (scP (blP T) l sp))), J, σ)) := by
    have e1 : ∀ x : Int32, Rn (d + 1) 26 (21, [.ref 64, un, un, un, un], [.int x], (up1 F 64 g, J, σ)) = Rn (d + 1) 26 (72, [.ref 64, .int x, .int (nI sp), un, un], [], (up1 F 64 (up1 g 8 (nI (scP (blP T) l sp))), J, σ)) := fun x => by
      rw [q_26_21]
      simp only [mS, mF, Y_64 h, up1_s, g9, if_true, setF_up, up1_up1]
      rw [look_bl h hl hT x (nI sp) un un (l - sp) sp (up1 g 8 (nI sp)) (by omega) (by rw [up1_n _ _ (by decide)]; exact g1) (up1_s _ _ _), up1_up1]
    rw [q_26_0]
    simp only [mS, mF, Y_64 h, up1_s, g7, if_true]
    by_cases c1 : k = 1
    · rw [if_pos (show nI k = 1 by rw [c1]; rfl), q_26_16, e1, if_pos (show wbK k = true from decide_eq_true (Or.inl c1))]
    · rw [if_neg (show ¬ nI k = 1 from fun q => c1 ((nI_eq (b := 1) (by omega) (by decide)).mp q))]
      by_cases c2 : k = 2
      · rw [if_pos (show nI k = 2 by rw [c2]; rfl), q_26_16, e1, if_pos (show wbK k = true from decide_eq_true (Or.inr c2))]
      · rw [if_neg (show ¬ nI k = 2 from fun q => c2 ((nI_eq (b := 2) (by omega) (by decide)).mp q)), e1, if_neg (show ¬ wbK k = true from fun q => by rcases of_decide_eq_true q with q | q; exact c1 q; exact c2 q)]
  have en : nxT T l (wbK k) sp = nxU T l (wbK k) sp (scP (blP T) l sp) := rfl
  rw [en]
  generalize scP (blP T) l sp = st at *
  generalize wbK k = wb at *
  rw [q_26_72] at e0
  simp only [mS, mF, Y_64 h, up1_s, g1, if_true, setF_up, up1_up1, up1_n g (nI st) (show 1 ≠ 8 by decide), up1_n (up1 g 8 (nI st)) (nI st) (show 1 ≠ 9 by decide), up1_n (up1 g 8 (nI st)) (nI st) (show 8 ≠ 9 by decide)] at e0
  have h1 : (up1 (up1 g 8 (nI st)) 9 (nI st)) 1 = nI l := by rw [up1_n _ _ (by decide), up1_n _ _ (by decide)]; exact g1
  have h8 : (up1 (up1 g 8 (nI st)) 9 (nI st)) 8 = nI st := by rw [up1_n _ _ (by decide), up1_s]
  have h9 : (up1 (up1 g 8 (nI st)) 9 (nI st)) 9 = nI st := up1_s _ _ _
  have hj : ∀ j, j < 7 → (up1 (up1 g 8 (nI st)) 9 (nI st)) j = g j := fun j q => by rw [up1_n _ _ (by omega), up1_n _ _ (by omega)]
  generalize up1 (up1 g 8 (nI st)) 9 (nI st) = r at *
  unfold nxU
  by_cases c0 : l ≤ st
  · rw [if_neg (nlt c0 (by omega))] at e0
    rw [if_pos c0]
    exact ⟨up1 r 7 0, i_26 e0, ⟨up1_s _ _ _, by rw [up1_n _ _ (by decide)]; exact h8, by rw [up1_n _ _ (by decide)]; exact h9⟩, fun j q => by rw [up1_n _ _ (by omega)]; exact hj j q⟩
  · rw [if_pos (ylt (by omega) (by omega)), if_pos t64, c_byU h hl hT h1 (by omega), Option.bind_some] at e0
    dsimp only at e0
    rw [c_letter, Option.bind_some] at e0
    simp only [b2i_0, mS, mF, Y_64 h, up1_s, if_true] at e0
    rw [if_neg c0]
    by_cases c1 : 97 ≤ T st ∧ T st ≤ 122
    · rw [if_neg (not_not_intro c1)] at e0
      simp only [setF_up, up1_s, up1_up1] at e0
      obtain ⟨a1, a2, -, -⟩ := scP_in (P := leP T) (l := l) (l - st) st (by omega)
      rw [look_le h hl hT _ _ _ _ (l - st) st (up1 r 7 1) (by omega) (by rw [up1_n _ _ (by decide)]; exact h1) (by rw [up1_n _ _ (by decide)]; exact h9)] at e0
      rw [look_226 h (k := 1) (st := st) (sq := scP (leP T) l st) (by rw [up1_n _ _ (by decide), up1_s]; rfl) (by rw [up1_n _ _ (by decide), up1_n _ _ (by decide)]; exact h8) (up1_s _ _ _) (by decide) (by omega)] at e0
      obtain ⟨f1, f2⟩ := look_fin (C := ¬ ((wb = true ∧ st = sp) ∧ ¬ 1 = 3) ∧ ¬ (1 = 2 ∧ 4 < scP (leP T) l st - st)) (k := 1) (kk := if wb = true ∧ st = sp then 4 else 1) (r := up1 (up1 r 7 1) 9 (nI (scP (leP T) l st))) (by rw [up1_n _ _ (by decide), up1_s]; rfl) (by
        by_cases c : wb = true ∧ st = sp
        · rw [if_pos c, if_neg (fun q => q.1 ⟨c, by decide⟩)]
        · rw [if_neg c, if_pos ⟨fun q => c q.1, fun q => absurd q.1 (by decide)⟩])
      rw [if_pos (leP_t.mpr c1)]
      refine ⟨_, i_26 e0, ⟨f1, ?_, ?_⟩, fun j q => ?_⟩
      · rw [f2 8 (by decide), up1_n _ _ (by decide), up1_n _ _ (by decide)]; exact h8
      · rw [f2 9 (by decide), up1_s]
      · rw [f2 j (by omega), up1_n _ _ (by omega), up1_n _ _ (by omega)]; exact hj j q
    · rw [if_pos c1, if_pos t64, h8, c_byU h hl hT h1 (by omega), Option.bind_some] at e0
      dsimp only at e0
      rw [c_digit, Option.bind_some] at e0
      simp only [b2i_0, mS, mF, Y_64 h, up1_s, if_true] at e0
      rw [if_neg (fun q => c1 (leP_t.mp q))]
      by_cases c2 : 48 ≤ T st ∧ T st ≤ 57
      · rw [if_neg (not_not_intro c2)] at e0
        simp only [setF_up, up1_s, up1_up1] at e0
        obtain ⟨a1, a2, -, -⟩ := scP_in (P := diP T) (l := l) (l - st) st (by omega)
        rw [look_di h hl hT _ _ _ _ (l - st) st (up1 r 7 2) (by omega) (by rw [up1_n _ _ (by decide)]; exact h1) (by rw [up1_n _ _ (by decide)]; exact h9)] at e0
        rw [look_226 h (k := 2) (st := st) (sq := scP (diP T) l st) (by rw [up1_n _ _ (by decide), up1_s]; rfl) (by rw [up1_n _ _ (by decide), up1_n _ _ (by decide)]; exact h8) (up1_s _ _ _) (by decide) (by omega)] at e0
        obtain ⟨f1, f2⟩ := look_fin (C := ¬ ((wb = true ∧ st = sp) ∧ ¬ 2 = 3) ∧ ¬ (2 = 2 ∧ 4 < scP (diP T) l st - st)) (k := 2) (kk := if (wb = true ∧ st = sp) ∨ 4 < scP (diP T) l st - st then 4 else 2) (r := up1 (up1 r 7 2) 9 (nI (scP (diP T) l st))) (by rw [up1_n _ _ (by decide), up1_s]; rfl) (by
          by_cases c : (wb = true ∧ st = sp) ∨ 4 < scP (diP T) l st - st
          · rw [if_pos c, if_neg (fun q => by rcases c with c | c; exact q.1 ⟨c, by decide⟩; exact q.2 ⟨rfl, c⟩)]
          · rw [if_neg c, if_pos ⟨fun q => c (Or.inl q.1), fun q => c (Or.inr q.2)⟩])
        rw [if_pos (diP_t.mpr c2)]
        refine ⟨_, i_26 e0, ⟨f1, ?_, ?_⟩, fun j q => ?_⟩
        · rw [f2 8 (by decide), up1_n _ _ (by decide), up1_n _ _ (by decide)]; exact h8
        · rw [f2 9 (by decide), up1_s]
        · rw [f2 j (by omega), up1_n _ _ (by omega), up1_n _ _ (by omega)]; exact hj j q
      · rw [if_pos c2] at e0
        simp only [setF_up, up1_s, up1_up1, up1_n r (3 : Int32) (show 9 ≠ 7 by decide), h9, nI_s] at e0
        rw [look_226 h (k := 3) (st := st) (sq := st + 1) (by rw [up1_n _ _ (by decide), up1_s]; rfl) (by rw [up1_n _ _ (by decide), up1_n _ _ (by decide)]; exact h8) (up1_s _ _ _) (by decide) (by omega)] at e0
        obtain ⟨f1, f2⟩ := look_fin (C := ¬ ((wb = true ∧ st = sp) ∧ ¬ 3 = 3) ∧ ¬ (3 = 2 ∧ 4 < st + 1 - st)) (k := 3) (kk := 3) (r := up1 (up1 r 7 3) 9 (nI (st + 1))) (by rw [up1_n _ _ (by decide), up1_s]; rfl) (by
          rw [if_pos ⟨fun q => q.2 rfl, fun q => absurd q.1 (by decide)⟩])
        rw [if_neg (fun q => c2 (diP_t.mp q))]
        refine ⟨_, i_26 e0, ⟨f1, ?_, ?_⟩, fun j q => ?_⟩
        · rw [f2 8 (by decide), up1_n _ _ (by decide), up1_n _ _ (by decide)]; exact h8
        · rw [f2 9 (by decide), up1_s]
        · rw [f2 j (by omega), up1_n _ _ (by omega), up1_n _ _ (by omega)]; exact hj j q
/-- the reader holds S -/
def RS (T : Nat → Int32) (l : Nat) (key : Int32) (F : Nat → Nat → Int32) (S : PSt) : Prop := (l ≤ 96 ∧ TKt T l S.1) ∧ (∀ i, i < l → F 65 i = T i) ∧ F 64 1 = nI l ∧ F 64 3 = nI S.2.1.2 ∧ F 64 4 = key ∧ F 64 5 = nI S.2.1.1 ∧ F 64 6 = -1 ∧ (F 64 7 = nI S.1.1 ∧ F 64 8 = nI S.1.2.1 ∧ F 64 9 = nI S.1.2.2) ∧ ∀ j, j < S.2.1.2 → F 66 j = encI key (S.2.2 j).1 (S.2.2 j).2
theorem c_look (h : Lay L σ) {key : Int32} {S : PSt} (R : RS T l key F S) : ∃ F', cV (d + 1) 26 [.ref 64] (F, J, σ) = some (F', J, σ) ∧ (∀ a, a ≠ 64 → F' a = F a) ∧ RS T l key F' (nxS T l S) := by
  obtain ⟨⟨hl, W⟩, hT, r1, r3, r4, r5, r6, ⟨r7, r8, r9⟩, rc⟩ := R
  have hk := W.2.2.1
  obtain ⟨g', a1, ⟨a2, a3, a4⟩, a5⟩ := c_lookU (d := d) (F := F) (J := J) (g := F 64) h hl hT hk W.2.1 r1 r7 r9
  rw [up1_self] at a1
  refine ⟨up1 F 64 g', a1, fun a ha => up1_n _ _ ha, ⟨hl, (nxS_w W).1⟩, fun i hi => ?_, ?_, ?_, ?_, ?_, ?_, ?_, fun j hj => ?_⟩
  · rw [up1_ne F g' (show 65 ≠ 64 by decide)]; exact hT i hi
  · rw [up1_s, a5 1 (by decide)]; exact r1
  · rw [up1_s, a5 3 (by decide)]; exact r3
  · rw [up1_s, a5 4 (by decide)]; exact r4
  · rw [up1_s, a5 5 (by decide)]; exact r5
  · rw [up1_s, a5 6 (by decide)]; exact r6
  · rw [up1_s]; exact ⟨a2, a3, a4⟩
  · rw [up1_ne F g' (show 66 ≠ 64 by decide)]; exact rc j hj
end RDA
