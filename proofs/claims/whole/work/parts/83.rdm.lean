/-! THE READER OF THE MODEL: words and signs. -/
section RDM
variable {L d l : Nat} {F F' : Nat → Nat → Int32} {J : Nat → Nat → Int64} {σ : aSg} {μ : aMem} {T g : Nat → Int32} {key : Int32} {S : PSt}
theorem t99 : True ∧ 99 < 999999 := ⟨trivial, by decide⟩
theorem m_let (h : Lay L σ) (hl : l ≤ 96) (hT : ∀ i, i < l → F 117 i = T i) (h1 : F 99 20 = nI l) {i : Nat} (hi : i < l) : cI (d + 1) 192 [.ref 99, .int (nI i)] (F, J, σ) = some (b2i (97 ≤ T i ∧ T i ≤ 122), (F, J, σ)) := by
  refine i_192 ?_
  rw [q_192_0]
  simp only [mS, mR, mF, Y_99 h, Z_99_19 h, h1, if_true]
  rw [if_neg (nle hi (by omega)), rd_k (Y_117 h) (by omega) (by decide), Option.bind_some, hT i hi, show cI d 133 [.long (T i).toInt64, .long 97, .long 122] (F, J, σ) = _ from m_in (T i) 97 122, Option.bind_some]
  simp only [b2i_0]
  unfold b2i
  by_cases c : 97 ≤ T i ∧ T i ≤ 122
  · rw [if_neg (not_not_intro c), if_pos c]
  · rw [if_pos c, if_neg c]
theorem m_letE (h : Lay L σ) (h1 : F 99 20 = nI l) (hl : l ≤ 96) : cI (d + 1) 192 [.ref 99, .int (nI l)] (F, J, σ) = some (0, (F, J, σ)) := by
  refine i_192 ?_
  rw [q_192_0]
  simp only [mS, mF, Y_99 h, h1, if_true]
  rw [if_pos (Int32.le_refl _)]
theorem m_dig (h : Lay L σ) (hl : l ≤ 96) (hT : ∀ i, i < l → F 117 i = T i) (h1 : F 99 20 = nI l) {i : Nat} (hi : i < l) : cI (d + 1) 193 [.ref 99, .int (nI i)] (F, J, σ) = some (b2i (48 ≤ T i ∧ T i ≤ 57), (F, J, σ)) := by
  refine i_193 ?_
  rw [q_193_0]
  simp only [mS, mR, mF, Y_99 h, Z_99_19 h, h1, if_true]
  rw [if_neg (nle hi (by omega)), rd_k (Y_117 h) (by omega) (by decide), Option.bind_some, hT i hi, show cI d 133 [.long (T i).toInt64, .long 48, .long 57] (F, J, σ) = _ from m_in (T i) 48 57, Option.bind_some]
  simp only [b2i_0]
  unfold b2i
  by_cases c : 48 ≤ T i ∧ T i ≤ 57
  · rw [if_neg (not_not_intro c), if_pos c]
  · rw [if_pos c, if_neg c]
theorem m_digE (h : Lay L σ) (h1 : F 99 20 = nI l) (hl : l ≤ 96) : cI (d + 1) 193 [.ref 99, .int (nI l)] (F, J, σ) = some (0, (F, J, σ)) := by
  refine i_193 ?_
  rw [q_193_0]
  simp only [mS, mF, Y_99 h, h1, if_true]
  rw [if_pos (Int32.le_refl _)]
theorem m_tp (h : Lay L σ) (hl : l ≤ 96) (hT : ∀ i, i < l → F 117 i = T i) {i : Nat} (hi : i < l) : rdI (up1 F 99 g, J, σ) 117 (nI i) = some (T i) := by
  rw [rd_k (Y_117 h) (by omega) (by decide), up1_ne F g (show 117 ≠ 99 by decide), hT i hi]
theorem hT_u (hT : ∀ i, i < l → F 117 i = T i) (g : Nat → Int32) : ∀ i, i < l → up1 F 99 g 117 i = T i := fun i hi => by rw [up1_ne F g (show 117 ≠ 99 by decide)]; exact hT i hi
theorem f_u {k : Nat} {v : Int32} (h : g k = v) : up1 F 99 g 99 k = v := by rw [up1_s]; exact h
theorem nx_bl (h : Lay L σ) (hl : l ≤ 96) (hT : ∀ i, i < l → F 117 i = T i) (x1 x2 : Int32) : ∀ (n st : Nat) (g : Nat → Int32), st + n = l → g 20 = nI l → g 22 = nI st → Rn (d + 1) 194 (34, [.ref 99, .int x1, .int x2], [], (up1 F 99 g, J, σ)) = Rn (d + 1) 194 (72, [.ref 99, .int x1, .int x2], [], (up1 F 99 (up1 g 22 (nI (scP (blP T) l st))), J, σ))
  | 0, st, g, e, g1, g8 => by
    rw [q_194_34]
    simp only [mS, mF, Y_99 h, up1_s, g1, g8, if_true]
    rw [if_pos (yle (by omega) (by omega)), scP_end (by omega), ← g8, up1_self]
  | n + 1, st, g, e, g1, g8 => by
    rw [q_194_34]
    simp only [mS, mR, mF, Y_99 h, Z_99_19 h, up1_s, g1, g8, if_true]
    rw [if_neg (nle (by omega) (by omega)), m_tp h hl hT (by omega), Option.bind_some]
    by_cases c : T st = 32
    · rw [if_pos c]
      simp only [setF_up, up1_s, up1_up1, g8, nI_s]
      rw [nx_bl h hl hT x1 x2 n (st + 1) (up1 g 22 (nI (st + 1))) (by omega) (by rw [up1_n _ _ (by decide)]; exact g1) (up1_s _ _ _), up1_up1, scP_t (by omega) (blP_t.mpr c)]
    · rw [if_neg c, scP_f (by omega) (fun q => c (blP_t.mp q)), ← g8, up1_self]
theorem nx_le (h : Lay L σ) (hl : l ≤ 96) (hT : ∀ i, i < l → F 117 i = T i) (x1 x2 : Int32) : ∀ (n st : Nat) (g : Nat → Int32), st + n = l → g 20 = nI l → g 22 = nI st → Rn (d + 2) 194 (128, [.ref 99, .int x1, .int x2], [], (up1 F 99 g, J, σ)) = Rn (d + 2) 194 (162, [.ref 99, .int x1, .int x2], [.int (if x1 = 0 then 1 else 4), .ref 99], (up1 F 99 (up1 g 22 (nI (scP (leP T) l st))), J, σ))
  | 0, st, g, e, g1, g8 => by
    rw [q_194_128]
    simp only [mS, mF, Y_99 h, up1_s, g1, g8, if_true]
    have el : st = l := by omega
    rw [if_pos t99, el, m_letE h (f_u g1) hl, Option.bind_some]
    dsimp only
    rw [if_pos rfl, scP_end (by omega), ← el, ← g8, up1_self]
    split <;> rfl
  | n + 1, st, g, e, g1, g8 => by
    rw [q_194_128]
    simp only [mS, mF, Y_99 h, up1_s, g1, g8, if_true]
    rw [if_pos t99, m_let h hl (hT_u hT g) (f_u g1) (show st < l by omega), Option.bind_some]
    simp only [b2i_0, mS, mF, Y_99 h, up1_s, g8, if_true]
    by_cases c : 97 ≤ T st ∧ T st ≤ 122
    · rw [if_neg (not_not_intro c)]
      simp only [setF_up, up1_s, up1_up1, nI_s]
      rw [nx_le h hl hT x1 x2 n (st + 1) (up1 g 22 (nI (st + 1))) (by omega) (by rw [up1_n _ _ (by decide)]; exact g1) (up1_s _ _ _), up1_up1, scP_t (by omega) (leP_t.mpr c)]
    · rw [if_pos c, scP_f (by omega) (fun q => c (leP_t.mp q)), ← g8, up1_self]
      split <;> rfl
theorem min4_s {m : Nat} (h : m < 4) : min (m + 1) 4 = min m 4 + 1 := by omega
theorem nx_di (h : Lay L σ) (hl : l ≤ 96) (hT : ∀ i, i < l → F 117 i = T i) {st : Nat} (x1 x2 : Int32) : ∀ (r m : Nat) (g : Nat → Int32), st + m + r = l → g 20 = nI l → g 21 = nI st → g 22 = nI (st + m) → g 24 = nuV T st (min m 4) → ∃ g', Rn (d + 2) 194 (214, [.ref 99, .int x1, .int x2], [], (up1 F 99 g, J, σ)) = Rn (d + 2) 194 (305, [.ref 99, .int x1, .int x2], [.int (if x1 = 0 ∧ scP (diP T) l (st + m) - st ≤ 4 then 2 else 4), .ref 99], (up1 F 99 g', J, σ)) ∧ g' 22 = nI (scP (diP T) l (st + m)) ∧ g' 24 = nuV T st (min (scP (diP T) l (st + m) - st) 4) ∧ ∀ j, j ≠ 22 → j ≠ 24 → g' j = g j := by
  have stop : ∀ (m : Nat) (g : Nat → Int32), st + m ≤ l → g 21 = nI st → g 22 = nI (st + m) → (if x1 = 0 then (if (nI (st + m) - nI st) ≤ 4 then (Rn (d + 2) 194 (305, [.ref 99, .int x1, .int x2], [.int 2, .ref 99], (up1 F 99 g, J, σ))) else (Rn (d + 2) 194 (300, [.ref 99, .int x1, .int x2], [.ref 99], (up1 F 99 g, J, σ)))) else (Rn (d + 2) 194 (300, [.ref 99, .int x1, .int x2], [.ref 99], (up1 F 99 g, J, σ)))) = Rn (d + 2) 194 (305, [.ref 99, .int x1, .int x2], [.int (if x1 = 0 ∧ st + m - st ≤ 4 then 2 else 4), .ref 99], (up1 F 99 g, J, σ)) := fun m g hm g1 g2 => by
    rw [pk_sub (by omega)]
    by_cases c1 : x1 = 0
    · rw [if_pos c1]
      by_cases c2 : st + m - st ≤ 4
      · rw [if_pos (show nI (st + m - st) ≤ 4 from yle (b := 4) c2 (by decide)), if_pos ⟨c1, c2⟩]
      · rw [if_neg (show ¬ nI (st + m - st) ≤ 4 from nle (b := 4) (by omega) (by omega)), if_neg (fun q => c2 q.2), q_194_300]
    · rw [if_neg c1, if_neg (fun q => c1 q.1), q_194_300]
  intro r
  induction r with
  | zero =>
    intro m g e g1 g2 g3 g4
    refine ⟨g, ?_, ?_, ?_, fun j _ _ => rfl⟩
    · rw [q_194_214]
      simp only [mS, mF, Y_99 h, up1_s, g3, if_true]
      have el : st + m = l := by omega
      rw [if_pos t99, el, m_digE h (f_u g1) hl, Option.bind_some]
      simp only [mS, mF, Y_99 h, up1_s, g2, g3, if_true]
      rw [scP_end (by omega), ← el]
      exact stop m g (by omega) g2 g3
    · rw [scP_end (by omega)]; exact g3
    · rw [scP_end (by omega), show st + m - st = m by omega]; exact g4
  | succ r ih =>
    intro m g e g1 g2 g3 g4
    have e0 : Rn (d + 2) 194 (214, [.ref 99, .int x1, .int x2], [], (up1 F 99 g, J, σ)) = if ¬ (48 ≤ T (st + m) ∧ T (st + m) ≤ 57) then Rn (d + 2) 194 (305, [.ref 99, .int x1, .int x2], [.int (if x1 = 0 ∧ st + m - st ≤ 4 then 2 else 4), .ref 99], (up1 F 99 g, J, σ)) else Rn (d + 2) 194 (214, [.ref 99, .int x1, .int x2], [], (up1 F 99 (up1 (up1 g 24 (nuV T st (min (m + 1) 4))) 22 (nI (st + m + 1))), J, σ)) := by
      rw [q_194_214]
      simp only [mS, mF, Y_99 h, up1_s, g3, if_true]
      rw [if_pos t99, m_dig h hl (hT_u hT g) (f_u g1) (show st + m < l by omega), Option.bind_some]
      simp only [b2i_0, mS, mR, mF, Y_99 h, Z_99_19 h, up1_s, g2, g3, g4, if_true]
      by_cases c : 48 ≤ T (st + m) ∧ T (st + m) ≤ 57
      · rw [if_neg (not_not_intro c), if_neg (not_not_intro c), pk_sub (by omega), m_tp h hl hT (by omega), Option.bind_some]
        by_cases c4 : 4 ≤ m
        · rw [if_pos (show 4 ≤ nI (st + m - st) from yle (a := 4) (by omega) (by omega)), q_194_266]
          simp only [mS, mF, Y_99 h, setF_up, up1_s, up1_up1, up1_n g (nuV T st (min m 4)) (show 22 ≠ 24 by decide), g3, nI_s, if_true]
          rw [show min (m + 1) 4 = min m 4 by omega]
        · rw [if_neg (show ¬ 4 ≤ nI (st + m - st) from nle (a := 4) (by omega) (by decide)), q_194_266]
          simp only [mS, mF, Y_99 h, setF_up, up1_s, up1_up1, up1_n g (10 * nuV T st (min m 4) + T (st + m) - 48) (show 22 ≠ 24 by decide), g3, nI_s, if_true]
          rw [min4_s (by omega), nuV_s, show min m 4 = m by omega]
      · rw [if_pos c, if_pos c]
        exact stop m g (by omega) g2 g3
    by_cases c : 48 ≤ T (st + m) ∧ T (st + m) ≤ 57
    · rw [if_neg (not_not_intro c)] at e0
      obtain ⟨g', z1, z2, z3, z4⟩ := ih (m + 1) (up1 (up1 g 24 (nuV T st (min (m + 1) 4))) 22 (nI (st + m + 1))) (by omega) (by rw [up1_n _ _ (by decide), up1_n _ _ (by decide)]; exact g1) (by rw [up1_n _ _ (by decide), up1_n _ _ (by decide)]; exact g2) (up1_s _ _ _) (by rw [up1_n _ _ (by decide), up1_s])
      have es : scP (diP T) l (st + m) = scP (diP T) l (st + (m + 1)) := scP_t (by omega) (diP_t.mpr c)
      rw [es]
      exact ⟨g', e0.trans z1, z2, z3, fun j h1 h2 => by rw [z4 j h1 h2, up1_n _ _ h1, up1_n _ _ h2]⟩
    · rw [if_pos c] at e0
      have es : scP (diP T) l (st + m) = st + m := scP_f (by omega) (fun q => c (diP_t.mp q))
      rw [es]
      exact ⟨g, e0, g3, by rw [show st + m - st = m by omega]; exact g4, fun j _ _ => rfl⟩
theorem m_nextU (h : Lay L σ) (hl : l ≤ 96) (hT : ∀ i, i < l → F 117 i = T i) {k sp : Nat} (hk : k ≤ 4) (hk0 : k = 1 ∨ k = 2 → 0 < sp) (hs : sp ≤ l) (g1 : g 20 = nI l) (g7 : g 23 = nI k) (g9 : g 22 = nI sp) : ∃ g', cV (d + 2) 194 [.ref 99] (up1 F 99 g, J, σ) = some (up1 F 99 g', J, σ) ∧ (g' 23 = nI (nxT T l (wbK k) sp).1 ∧ g' 21 = nI (nxT T l (wbK k) sp).2.1 ∧ g' 22 = nI (nxT T l (wbK k) sp).2.2) ∧ ((nxT T l (wbK k) sp).1 = 2 → g' 24 = nuV T (nxT T l (wbK k) sp).2.1 ((nxT T l (wbK k) sp).2.2 - (nxT T l (wbK k) sp).2.1)) ∧ ((nxT T l (wbK k) sp).1 = 1 → g' 25 = if (nxT T l (wbK k) sp).2.2 - (nxT T l (wbK k) sp).2.1 = 1 then T (nxT T l (wbK k) sp).2.1 else 0) ∧ ((nxT T l (wbK k) sp).1 = 3 → g' 25 = T (nxT T l (wbK k) sp).2.1) ∧ ∀ j, j < 21 ∨ 25 < j → g' j = g j := by
  obtain ⟨s1, s2, -, -⟩ := scP_in (P := blP T) (l := l) (l - sp) sp (by omega)
  have e0 : Rn (d + 2) 194 (0, [.ref 99, un, un], [], (up1 F 99 g, J, σ)) = Rn (d + 2) 194 (72, [.ref 99, .int (if wbK k = true then 1 else 0), .int (nI sp)], [], (up1 F 99 (up1 g 22 (nI (scP (blP T) l sp))), J, σ)) := by
    have e1 : ∀ x : Int32, Rn (d + 2) 194 (28, [.ref 99, un, un], [.int x], (up1 F 99 g, J, σ)) = Rn (d + 2) 194 (72, [.ref 99, .int x, .int (nI sp)], [], (up1 F 99 (up1 g 22 (nI (scP (blP T) l sp))), J, σ)) := fun x => by
      rw [q_194_28]
      simp only [mS, mF, Y_99 h, up1_s, g9, if_true]
      rw [nx_bl h hl hT x (nI sp) (l - sp) sp g (by omega) g1 g9]
    rw [q_194_0]
    simp only [mS, mF, Y_99 h, up1_s, g7, g9, if_true]
    by_cases c1 : k = 1
    · rw [if_neg (show ¬ nI sp ≤ 0 from nle (b := 0) (hk0 (Or.inl c1)) (by omega)), if_pos (show nI k = 1 by rw [c1]; rfl), q_194_23, e1, if_pos (show wbK k = true from decide_eq_true (Or.inl c1))]
    · have n1 : ¬ nI k = 1 := fun q => c1 ((nI_eq (b := 1) (by omega) (by decide)).mp q)
      by_cases c2 : k = 2
      · rw [if_neg (show ¬ nI sp ≤ 0 from nle (b := 0) (hk0 (Or.inr c2)) (by omega)), if_neg n1, if_pos (show nI k = 2 by rw [c2]; rfl), q_194_23, e1, if_pos (show wbK k = true from decide_eq_true (Or.inr c2))]
      · rw [if_neg n1, if_neg (show ¬ nI k = 2 from fun q => c2 ((nI_eq (b := 2) (by omega) (by decide)).mp q)), ite_self, q_194_27, e1, if_neg (show ¬ wbK k = true from fun q => by rcases of_decide_eq_true q with q | q; exact c1 q; exact c2 q)]
  have en : nxT T l (wbK k) sp = nxU T l (wbK k) sp (scP (blP T) l sp) := rfl
  rw [en]
  generalize scP (blP T) l sp = st at *
  generalize wbK k = wb at *
  have e1 : Rn (d + 2) 194 (0, [.ref 99, un, un], [], (up1 F 99 g, J, σ)) = Rn (d + 2) 194 (89, [.ref 99, .int (if wb = true then 1 else 0), .int (nI sp)], [.int (if wb = true ∧ st = sp then 1 else 0)], (up1 F 99 (up1 g 22 (nI st)), J, σ)) := by
    rw [e0, q_194_72]
    simp only [mS, mF, Y_99 h, up1_s, if_true]
    by_cases c1 : wb = true
    · rw [if_neg (show ¬ (if wb = true then (1 : Int32) else 0) = 0 by rw [if_pos c1]; decide)]
      by_cases c2 : st = sp
      · rw [if_pos (show nI sp = nI st by rw [c2]), if_pos (show wb = true ∧ st = sp from ⟨c1, c2⟩)]
      · rw [if_neg (show ¬ nI sp = nI st from fun q => c2 ((nI_eq (by omega) (by omega)).mp q).symm), if_neg (show ¬ (wb = true ∧ st = sp) from fun q => c2 q.2), q_194_88]
    · rw [if_pos (show (if wb = true then (1 : Int32) else 0) = 0 by rw [if_neg c1]), if_neg (show ¬ (wb = true ∧ st = sp) from fun q => c1 q.1), q_194_88]
  clear e0
  rw [q_194_89] at e1
  simp only [mS, mR, mF, Y_99 h, Z_99_19 h, up1_s, g1, if_true, setF_up, up1_up1, up1_n g (nI st) (show 20 ≠ 22 by decide), up1_n (up1 g 22 (nI st)) (nI st) (show 20 ≠ 21 by decide)] at e1
  have h1 : (up1 (up1 g 22 (nI st)) 21 (nI st)) 20 = nI l := by rw [up1_n _ _ (by decide), up1_n _ _ (by decide)]; exact g1
  have h8 : (up1 (up1 g 22 (nI st)) 21 (nI st)) 22 = nI st := by rw [up1_n _ _ (by decide), up1_s]
  have h9 : (up1 (up1 g 22 (nI st)) 21 (nI st)) 21 = nI st := up1_s _ _ _
  have hj : ∀ j, j < 21 ∨ 25 < j → (up1 (up1 g 22 (nI st)) 21 (nI st)) j = g j := fun j q => by rw [up1_n _ _ (by omega), up1_n _ _ (by omega)]
  generalize up1 (up1 g 22 (nI st)) 21 (nI st) = r at *
  have nbx : (if wb = true ∧ st = sp then (1 : Int32) else 0) = 0 ↔ ¬ (wb = true ∧ st = sp) := by
    by_cases c : wb = true ∧ st = sp
    · rw [if_pos c]; exact ⟨fun q => absurd q (by decide), fun q => absurd c q⟩
    · rw [if_neg c]; exact ⟨fun _ => c, fun _ => rfl⟩
  generalize (if wb = true ∧ st = sp then (1 : Int32) else 0) = nb at *
  unfold nxU
  by_cases c0 : l ≤ st
  · have el : st = l := by omega
    rw [if_pos (show nI st = nI l by rw [el]), q_194_339] at e1
    rw [if_pos c0]
    refine ⟨up1 r 23 0, i_194 e1, ⟨up1_s _ _ _, by rw [up1_n _ _ (by decide)]; exact h9, by rw [up1_n _ _ (by decide)]; exact h8⟩, fun z => absurd (show (0 : Nat) = 2 from z) (by decide), fun z => absurd (show (0 : Nat) = 1 from z) (by decide), fun z => absurd (show (0 : Nat) = 3 from z) (by decide), fun j q => by rw [up1_n _ _ (by omega)]; exact hj j q⟩
  · rw [if_neg (show ¬ nI st = nI l from fun q => c0 (by have := (nI_eq (by omega) (by omega)).mp q; omega)), if_pos t99, m_let h hl (hT_u hT r) (f_u h1) (show st < l by omega), Option.bind_some] at e1
    simp only [b2i_0, mS, mF, Y_99 h, up1_s, h9, if_true] at e1
    rw [if_neg c0]
    by_cases c1 : 97 ≤ T st ∧ T st ≤ 122
    · rw [if_neg (not_not_intro c1)] at e1
      obtain ⟨a1, a2, -, -⟩ := scP_in (P := leP T) (l := l) (l - st) st (by omega)
      rw [nx_le h hl hT _ _ (l - st) st r (by omega) h1 h8, q_194_162] at e1
      generalize scP (leP T) l st = sq at *
      have k21 : (up1 r 22 (nI sq)) 21 = nI st := by rw [up1_n _ _ (by decide)]; exact h9
      simp only [mS, mR, mF, Y_99 h, Z_99_19 h, setF_up, up1_s, up1_up1, if_true] at e1
      rw [up1_n _ _ (show 22 ≠ 23 by decide), up1_n _ _ (show 21 ≠ 23 by decide), up1_s, k21, pk_sub a1, m_tp h hl hT (by omega), Option.bind_some] at e1
      have ek : (if nb = 0 then (1 : Int32) else 4) = nI (if wb = true ∧ st = sp then 4 else 1) := by
        by_cases c : wb = true ∧ st = sp
        · rw [if_neg (fun q => (nbx.mp q) c), if_pos c]; rfl
        · rw [if_pos (nbx.mpr c), if_neg c]; rfl
      rw [ek] at e1
      rw [if_pos (leP_t.mpr c1)]
      have e2 : Rn (d + 2) 194 (0, [.ref 99, un, un], [], (up1 F 99 g, J, σ)) = some (none, (up1 F 99 (up1 (up1 (up1 r 22 (nI sq)) 23 (nI (if wb = true ∧ st = sp then 4 else 1))) 25 (if sq - st = 1 then T st else 0)), J, σ)) := by
        rw [e1]
        by_cases c3 : sq - st = 1
        · rw [if_pos (show nI (sq - st) = 1 by rw [c3]; rfl), if_pos c3, q_194_192]
          simp only [mS, Y_99 h, setF_up, up1_s, up1_up1, if_true]
          rw [q_194_339]
        · rw [if_neg (show ¬ nI (sq - st) = 1 from fun q => c3 ((nI_eq (b := 1) (by omega) (by decide)).mp q)), if_neg c3, q_194_192]
          simp only [mS, Y_99 h, setF_up, up1_s, up1_up1, if_true]
          rw [q_194_339]
      refine ⟨_, i_194 e2, ⟨?_, ?_, ?_⟩, fun z => ?_, fun z => up1_s _ _ _, fun z => ?_, fun j q => ?_⟩
      · rw [up1_n _ _ (by decide), up1_s]
      · rw [up1_n _ _ (by decide), up1_n _ _ (by decide), up1_n _ _ (by decide)]; exact h9
      · rw [up1_n _ _ (by decide), up1_n _ _ (by decide), up1_s]
      · have z' : (if wb = true ∧ st = sp then 4 else 1) = 2 := z
        split at z' <;> exact absurd z' (by decide)
      · have z' : (if wb = true ∧ st = sp then 4 else 1) = 3 := z
        split at z' <;> exact absurd z' (by decide)
      · rw [up1_n _ _ (by omega), up1_n _ _ (by omega), up1_n _ _ (by omega)]; exact hj j q
    · rw [if_pos c1, if_pos t99, m_dig h hl (hT_u hT r) (f_u h1) (show st < l by omega), Option.bind_some] at e1
      simp only [b2i_0, mS, mR, mF, Y_99 h, Z_99_19 h, up1_s, if_true] at e1
      rw [if_neg (fun q => c1 (leP_t.mp q))]
      by_cases c2 : 48 ≤ T st ∧ T st ≤ 57
      · rw [if_neg (not_not_intro c2)] at e1
        obtain ⟨a1, a2, -, -⟩ := scP_in (P := diP T) (l := l) (l - st) st (by omega)
        simp only [setF_up, up1_s, up1_up1] at e1
        obtain ⟨g', z1, z2, z3, z4⟩ := nx_di (d := d) (F := F) (J := J) (st := st) h hl hT nb (nI sp) (l - st) 0 (up1 r 24 0) (by omega) (by rw [up1_n _ _ (by decide)]; exact h1) (by rw [up1_n _ _ (by decide)]; exact h9) (by rw [up1_n _ _ (by decide)]; exact h8) (up1_s _ _ _)
        rw [Nat.add_zero] at z1 z2 z3
        rw [z1, q_194_305] at e1
        simp only [mS, Y_99 h, setF_up, up1_s, up1_up1, if_true] at e1
        rw [q_194_339] at e1
        generalize scP (diP T) l st = sq at *
        have ek : (if nb = 0 ∧ sq - st ≤ 4 then (2 : Int32) else 4) = nI (if (wb = true ∧ st = sp) ∨ 4 < sq - st then 4 else 2) := by
          by_cases c : (wb = true ∧ st = sp) ∨ 4 < sq - st
          · rw [if_neg (fun q => by rcases c with c | c; exact (nbx.mp q.1) c; omega), if_pos c]; rfl
          · rw [if_pos ⟨nbx.mpr (fun q => c (Or.inl q)), by omega⟩, if_neg c]; rfl
        rw [ek] at e1
        rw [if_pos (diP_t.mpr c2)]
        refine ⟨_, i_194 e1, ⟨up1_s _ _ _, ?_, ?_⟩, fun z => ?_, fun z => ?_, fun z => ?_, fun j q => ?_⟩
        · rw [up1_n _ _ (by decide), z4 21 (by decide) (by decide), up1_n _ _ (by decide)]; exact h9
        · rw [up1_n _ _ (by decide)]; exact z2
        · have z' : (if (wb = true ∧ st = sp) ∨ 4 < sq - st then 4 else 2) = 2 := z
          have n4 : ¬ 4 < sq - st := fun q => by rw [if_pos (Or.inr q)] at z'; exact absurd z' (by decide)
          rw [up1_n _ _ (by decide), z3, show min (sq - st) 4 = sq - st by omega]
        · have z' : (if (wb = true ∧ st = sp) ∨ 4 < sq - st then 4 else 2) = 1 := z
          split at z' <;> exact absurd z' (by decide)
        · have z' : (if (wb = true ∧ st = sp) ∨ 4 < sq - st then 4 else 2) = 3 := z
          split at z' <;> exact absurd z' (by decide)
        · rw [up1_n _ _ (by omega), z4 j (by omega) (by omega), up1_n _ _ (by omega)]; exact hj j q
      · rw [if_pos c2] at e1
        simp only [setF_up, up1_s, up1_up1, up1_n r (3 : Int32) (show 21 ≠ 23 by decide), h9] at e1
        rw [m_tp h hl hT (by omega), Option.bind_some, up1_n _ _ (show 22 ≠ 25 by decide), up1_n _ _ (show 22 ≠ 23 by decide), h8, nI_s, q_194_339] at e1
        rw [if_neg (fun q => c2 (diP_t.mp q))]
        refine ⟨_, i_194 e1, ⟨?_, ?_, up1_s _ _ _⟩, fun z => absurd (show (3 : Nat) = 2 from z) (by decide), fun z => absurd (show (3 : Nat) = 1 from z) (by decide), fun z => ?_, fun j q => ?_⟩
        · rw [up1_n _ _ (by decide), up1_n _ _ (by decide), up1_s]; rfl
        · rw [up1_n _ _ (by decide), up1_n _ _ (by decide), up1_n _ _ (by decide)]; exact h9
        · rw [up1_n _ _ (by decide), up1_s]
        · rw [up1_n _ _ (by omega), up1_n _ _ (by omega), up1_n _ _ (by omega)]; exact hj j q
end RDM
