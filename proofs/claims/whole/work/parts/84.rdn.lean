/-! THE READER OF THE MODEL: what it holds, its levels, its pieces. -/
section RDN
variable {L d l B pa no : Nat} {F F' F2 : Nat → Nat → Int32} {J : Nat → Nat → Int64} {σ : aSg} {μ : aMem} {T g : Nat → Int32} {key : Int32} {S : PSt} {q : PQ}
/-- the model's reader holds S -/
def MS (T : Nat → Int32) (l B pa no : Nat) (F : Nat → Nat → Int32) (S : PSt) : Prop := (l ≤ 96 ∧ TKt T l S.1 ∧ B ≤ 2914) ∧ (∀ i, i < l → F 117 i = T i) ∧ F 99 20 = nI l ∧ (F 99 21 = nI S.1.2.1 ∧ F 99 22 = nI S.1.2.2 ∧ F 99 23 = nI S.1.1) ∧ (S.1.1 = 2 → F 99 24 = nuV T S.1.2.1 (S.1.2.2 - S.1.2.1)) ∧ (S.1.1 = 1 → F 99 25 = if S.1.2.2 - S.1.2.1 = 1 then T S.1.2.1 else 0) ∧ (S.1.1 = 3 → F 99 25 = T S.1.2.1) ∧ (F 99 26 = nI pa ∧ F 99 27 = nI no ∧ F 99 28 = nI S.2.1.2 ∧ F 99 29 = nI B ∧ F 99 30 = nI S.2.1.1) ∧ ∀ j, j < S.2.1.2 → F 100 (B + 2 * j) = (S.2.2 j).1 ∧ F 100 (B + 2 * j + 1) = (S.2.2 j).2
theorem MS.hl (R : MS T l B pa no F S) : l ≤ 96 := R.1.1
theorem MS.tk (R : MS T l B pa no F S) : TKt T l S.1 := R.1.2.1
theorem MS.hB (R : MS T l B pa no F S) : B ≤ 2914 := R.1.2.2
theorem MS.hT (R : MS T l B pa no F S) : ∀ i, i < l → F 117 i = T i := R.2.1
theorem MS.r20 (R : MS T l B pa no F S) : F 99 20 = nI l := R.2.2.1
theorem MS.r21 (R : MS T l B pa no F S) : F 99 21 = nI S.1.2.1 := R.2.2.2.1.1
theorem MS.r22 (R : MS T l B pa no F S) : F 99 22 = nI S.1.2.2 := R.2.2.2.1.2.1
theorem MS.r23 (R : MS T l B pa no F S) : F 99 23 = nI S.1.1 := R.2.2.2.1.2.2
theorem MS.r24 (R : MS T l B pa no F S) : S.1.1 = 2 → F 99 24 = nuV T S.1.2.1 (S.1.2.2 - S.1.2.1) := R.2.2.2.2.1
theorem MS.r25 (R : MS T l B pa no F S) : S.1.1 = 1 → F 99 25 = if S.1.2.2 - S.1.2.1 = 1 then T S.1.2.1 else 0 := R.2.2.2.2.2.1
theorem MS.rs (R : MS T l B pa no F S) : S.1.1 = 3 → F 99 25 = T S.1.2.1 := R.2.2.2.2.2.2.1
theorem MS.r26 (R : MS T l B pa no F S) : F 99 26 = nI pa := R.2.2.2.2.2.2.2.1.1
theorem MS.r27 (R : MS T l B pa no F S) : F 99 27 = nI no := R.2.2.2.2.2.2.2.1.2.1
theorem MS.r28 (R : MS T l B pa no F S) : F 99 28 = nI S.2.1.2 := R.2.2.2.2.2.2.2.1.2.2.1
theorem MS.r29 (R : MS T l B pa no F S) : F 99 29 = nI B := R.2.2.2.2.2.2.2.1.2.2.2.1
theorem MS.r30 (R : MS T l B pa no F S) : F 99 30 = nI S.2.1.1 := R.2.2.2.2.2.2.2.1.2.2.2.2
theorem MS.rc (R : MS T l B pa no F S) : ∀ j, j < S.2.1.2 → F 100 (B + 2 * j) = (S.2.2 j).1 ∧ F 100 (B + 2 * j + 1) = (S.2.2 j).2 := R.2.2.2.2.2.2.2.2
/-- what is not touched -/
def MFr (B : Nat) (F F' : Nat → Nat → Int32) : Prop := (∀ a, a ≠ 99 → a ≠ 100 → F' a = F a) ∧ (∀ j, j < 21 ∨ 30 < j → F' 99 j = F 99 j) ∧ ∀ j, j < B → F' 100 j = F 100 j
theorem MFr.rf : MFr B F F := ⟨fun _ _ _ => rfl, fun _ _ => rfl, fun _ _ => rfl⟩
theorem MFr.tr (h1 : MFr B F F') (h2 : MFr B F' F2) : MFr B F F2 := ⟨fun a x y => (h2.1 a x y).trans (h1.1 a x y), fun j x => (h2.2.1 j x).trans (h1.2.1 j x), fun j x => (h2.2.2 j x).trans (h1.2.2 j x)⟩
theorem m_next (h : Lay L σ) (R : MS T l B pa no F S) : ∃ F', cV (d + 2) 194 [.ref 99] (F, J, σ) = some (F', J, σ) ∧ MFr B F F' ∧ MS T l B pa no F' (nxS T l S) := by
  have W := R.tk
  obtain ⟨g', a1, ⟨a2, a3, a4⟩, a5, a6, a7, a8⟩ := m_nextU (d := d) (F := F) (J := J) (g := F 99) h R.hl R.hT W.2.2.1 (fun z => by have := W.2.2.2.1 (by omega); omega) W.2.1 R.r20 R.r23 R.r22
  rw [up1_self] at a1
  refine ⟨up1 F 99 g', a1, ⟨fun a x _ => up1_n _ _ x, fun j x => by rw [up1_s]; exact a8 j (by omega), fun j _ => by rw [up1_ne F g' (show 100 ≠ 99 by decide)]⟩, ⟨R.hl, (nxS_w W).1, R.hB⟩, hT_u R.hT g', f_u ((a8 20 (by decide)).trans R.r20), ⟨f_u a3, f_u a4, f_u a2⟩, fun z => f_u (a5 z), fun z => f_u (a6 z), fun z => f_u (a7 z), ⟨f_u ((a8 26 (by decide)).trans R.r26), f_u ((a8 27 (by decide)).trans R.r27), f_u ((a8 28 (by decide)).trans R.r28), f_u ((a8 29 (by decide)).trans R.r29), f_u ((a8 30 (by decide)).trans R.r30)⟩, fun j hj => ?_⟩
  rw [up1_ne F g' (show 100 ≠ 99 by decide)]
  exact R.rc j hj
theorem m_sign (h : Lay L σ) (R : MS T l B pa no F S) (x : Int32) : cI d 195 [.ref 99, .int x] (F, J, σ) = some (b2i (S.1.1 = 3 ∧ T S.1.2.1 = x), (F, J, σ)) := by
  refine i_195 ?_
  rw [q_195_0]
  simp only [mS, mF, Y_99 h, R.r23, if_true]
  unfold b2i
  by_cases c1 : S.1.1 = 3
  · rw [if_pos (show nI S.1.1 = 3 by rw [c1]; rfl)]
    by_cases c2 : T S.1.2.1 = x
    · rw [if_pos (show F 99 25 = x from (R.rs c1).trans c2), if_pos ⟨c1, c2⟩]
    · rw [if_neg (show ¬ F 99 25 = x from fun z => c2 ((R.rs c1).symm.trans z)), if_neg (fun z => c2 z.2)]
  · rw [if_neg (show ¬ nI S.1.1 = 3 from fun z => c1 ((k_eq 3 R.tk.2.2.1 (by decide)).mp z)), if_neg (fun z => c1 z.1)]
theorem m_isName (hk : key = 0 ∨ key = 1 ∨ key = 2) (b : Int32) : cI d 198 [.int key, .int b] μ = some (b2i (isNm key b), μ) := by
  refine i_198 ?_
  rw [q_198_0]
  unfold b2i
  rcases hk with e | e | e <;> subst e
  · rw [if_pos rfl]
    by_cases c0 : b = 103
    · rw [if_pos c0, if_pos (Or.inl ⟨rfl, Or.inl c0⟩)]
    · rw [if_neg c0]
      by_cases c1 : b = 116
      · rw [if_pos c1, if_pos (Or.inl ⟨rfl, Or.inr (Or.inl c1)⟩)]
      · rw [if_neg c1]
        by_cases c2 : b = 102
        · rw [if_pos c2, if_pos (Or.inl ⟨rfl, Or.inr (Or.inr c2)⟩)]
        · rw [if_neg c2, if_neg (fun z => by rcases z with ⟨-, z | z | z⟩ | ⟨z, -⟩ | ⟨z, -⟩; exact c0 z; exact c1 z; exact c2 z; exact absurd z (by decide); exact absurd z (by decide))]
  · rw [if_neg (by decide), if_pos rfl]
    by_cases c0 : b = 110
    · rw [if_pos c0, if_pos (Or.inr (Or.inl ⟨rfl, Or.inl c0⟩))]
    · rw [if_neg c0]
      by_cases c1 : b = 103
      · rw [if_pos c1, if_pos (Or.inr (Or.inl ⟨rfl, Or.inr (Or.inl c1)⟩))]
      · rw [if_neg c1]
        by_cases c2 : b = 116
        · rw [if_pos c2, if_pos (Or.inr (Or.inl ⟨rfl, Or.inr (Or.inr c2)⟩))]
        · rw [if_neg c2, if_neg (fun z => by rcases z with ⟨z, -⟩ | ⟨-, z | z | z⟩ | ⟨z, -⟩; exact absurd z (by decide); exact c0 z; exact c1 z; exact c2 z; exact absurd z (by decide))]
  · rw [if_neg (by decide), if_neg (by decide)]
    by_cases c0 : b = 101
    · rw [if_pos c0, if_pos (Or.inr (Or.inr ⟨rfl, Or.inl c0⟩))]
    · rw [if_neg c0]
      by_cases c1 : b = 100
      · rw [if_pos c1, if_pos (Or.inr (Or.inr ⟨rfl, Or.inr c1⟩))]
      · rw [if_neg c1, if_neg (fun z => by rcases z with ⟨z, -⟩ | ⟨z, -⟩ | ⟨-, z | z⟩; exact absurd z (by decide); exact absurd z (by decide); exact c0 z; exact c1 z)]
def stF (F : Nat → Nat → Int32) (B c : Nat) (w v : Int32) : Nat → Nat → Int32 := up1 (up1 F 100 (up1 (up1 (F 100) (B + 2 * c) w) (B + 2 * c + 1) v)) 99 (up1 (F 99) 28 (nI (c + 1)))
theorem m_stp (h : Lay L σ) {c : Nat} (hB : B ≤ 2914) (h29 : F 99 29 = nI B) (hc : F 99 28 = nI c) (c96 : c < 96) (w v : Int32) : cV d 199 [.ref 99, .int w, .int v] (F, J, σ) = some (stF F B c w v, J, σ) := by
  refine i_199 (v := none) ?_
  have e2 : (2 : Int32) * nI c = nI (2 * c) := by rw [show (2 : Int32) = nI 2 from rfl, pk_mul]
  rw [q_199_0]
  simp only [mS, mR, mF, Y_99 h, Z_99_0 h, Y_100 h, hc, h29, if_true, e2, nI_add]
  rw [if_pos ⟨trivial, inb_nI (by omega) (by decide)⟩, ix_nI (by omega)]
  simp only [setF_up, up1_s, up1_up1, up1_ne F _ (show 99 ≠ 100 by decide), hc, h29, e2, nI_add, nI_s]
  rw [if_pos ⟨trivial, inb_nI (by omega) (by decide)⟩, ix_nI (by omega)]
  rfl
theorem MS_step (R : MS T l B pa no F S) (w v : Int32) : MS T l B pa no (stF F B S.2.1.2 w v) (putS w v S) := by
  have e99 : ∀ j, j ≠ 28 → stF F B S.2.1.2 w v 99 j = F 99 j := fun j hj => by unfold stF; rw [up1_s, up1_n _ _ hj]
  refine ⟨R.1, fun i hi => ?_, (e99 20 (by decide)).trans R.r20, ⟨(e99 21 (by decide)).trans R.r21, (e99 22 (by decide)).trans R.r22, (e99 23 (by decide)).trans R.r23⟩, fun z => (e99 24 (by decide)).trans (R.r24 z), fun z => (e99 25 (by decide)).trans (R.r25 z), fun z => (e99 25 (by decide)).trans (R.rs z), ⟨(e99 26 (by decide)).trans R.r26, (e99 27 (by decide)).trans R.r27, ?_, (e99 29 (by decide)).trans R.r29, (e99 30 (by decide)).trans R.r30⟩, fun j hj => ?_⟩
  · unfold stF
    rw [up1_ne _ _ (show 117 ≠ 99 by decide), up1_ne _ _ (show 117 ≠ 100 by decide)]; exact R.hT i hi
  · unfold stF; rw [up1_s, up1_s]; rfl
  · have hj' : j < S.2.1.2 + 1 := hj
    show stF F B S.2.1.2 w v 100 (B + 2 * j) = (up1 S.2.2 S.2.1.2 (w, v) j).1 ∧ stF F B S.2.1.2 w v 100 (B + 2 * j + 1) = (up1 S.2.2 S.2.1.2 (w, v) j).2
    unfold stF
    rw [up1_ne _ _ (show 100 ≠ 99 by decide), up1_s]
    by_cases e : j = S.2.1.2
    · rw [e, up1_s, up1_s, up1_n _ _ (by omega), up1_s]; exact ⟨rfl, rfl⟩
    · rw [up1_n _ _ e, up1_n _ _ (by omega), up1_n _ _ (by omega), up1_n _ _ (by omega), up1_n _ _ (by omega)]; exact R.rc j (by omega)
theorem MFr_step {c : Nat} {w v : Int32} : MFr B F (stF F B c w v) := by
  unfold stF
  refine ⟨fun a x y => by rw [up1_ne _ _ x, up1_ne _ _ y], fun j x => by rw [up1_s, up1_n _ _ (by omega)], fun j x => by rw [up1_ne _ _ (show 100 ≠ 99 by decide), up1_s, up1_n _ _ (by omega), up1_n _ _ (by omega)]⟩
theorem MS_26 (R : MS T l B pa no F S) (p : Nat) : MS T l B p no (up1 F 99 (up1 (F 99) 26 (nI p))) S := by
  have e99 : ∀ j, j ≠ 26 → up1 F 99 (up1 (F 99) 26 (nI p)) 99 j = F 99 j := fun j hj => by rw [up1_s, up1_n _ _ hj]
  refine ⟨R.1, hT_u R.hT _, (e99 20 (by decide)).trans R.r20, ⟨(e99 21 (by decide)).trans R.r21, (e99 22 (by decide)).trans R.r22, (e99 23 (by decide)).trans R.r23⟩, fun z => (e99 24 (by decide)).trans (R.r24 z), fun z => (e99 25 (by decide)).trans (R.r25 z), fun z => (e99 25 (by decide)).trans (R.rs z), ⟨f_u (up1_s _ _ _), (e99 27 (by decide)).trans R.r27, (e99 28 (by decide)).trans R.r28, (e99 29 (by decide)).trans R.r29, (e99 30 (by decide)).trans R.r30⟩, fun j hj => ?_⟩
  rw [up1_ne _ _ (show 100 ≠ 99 by decide)]; exact R.rc j hj
theorem MS_27 (R : MS T l B pa no F S) (p : Nat) : MS T l B pa p (up1 F 99 (up1 (F 99) 27 (nI p))) S := by
  have e99 : ∀ j, j ≠ 27 → up1 F 99 (up1 (F 99) 27 (nI p)) 99 j = F 99 j := fun j hj => by rw [up1_s, up1_n _ _ hj]
  refine ⟨R.1, hT_u R.hT _, (e99 20 (by decide)).trans R.r20, ⟨(e99 21 (by decide)).trans R.r21, (e99 22 (by decide)).trans R.r22, (e99 23 (by decide)).trans R.r23⟩, fun z => (e99 24 (by decide)).trans (R.r24 z), fun z => (e99 25 (by decide)).trans (R.r25 z), fun z => (e99 25 (by decide)).trans (R.rs z), ⟨(e99 26 (by decide)).trans R.r26, f_u (up1_s _ _ _), (e99 28 (by decide)).trans R.r28, (e99 29 (by decide)).trans R.r29, (e99 30 (by decide)).trans R.r30⟩, fun j hj => ?_⟩
  rw [up1_ne _ _ (show 100 ≠ 99 by decide)]; exact R.rc j hj
theorem MS_30 (R : MS T l B pa no F S) (p : Nat) : MS T l B pa no (up1 F 99 (up1 (F 99) 30 (nI p))) (S.1, (p, S.2.1.2), S.2.2) := by
  have e99 : ∀ j, j ≠ 30 → up1 F 99 (up1 (F 99) 30 (nI p)) 99 j = F 99 j := fun j hj => by rw [up1_s, up1_n _ _ hj]
  refine ⟨R.1, hT_u R.hT _, (e99 20 (by decide)).trans R.r20, ⟨(e99 21 (by decide)).trans R.r21, (e99 22 (by decide)).trans R.r22, (e99 23 (by decide)).trans R.r23⟩, fun z => (e99 24 (by decide)).trans (R.r24 z), fun z => (e99 25 (by decide)).trans (R.r25 z), fun z => (e99 25 (by decide)).trans (R.rs z), ⟨(e99 26 (by decide)).trans R.r26, (e99 27 (by decide)).trans R.r27, (e99 28 (by decide)).trans R.r28, (e99 29 (by decide)).trans R.r29, f_u (up1_s _ _ _)⟩, fun j hj => ?_⟩
  rw [up1_ne _ _ (show 100 ≠ 99 by decide)]; exact R.rc j hj
theorem MFr_f {k : Nat} {v : Int32} (hk : 21 ≤ k ∧ k ≤ 30) : MFr B F (up1 F 99 (up1 (F 99) k v)) := ⟨fun a x _ => up1_n _ _ x, fun j x => by rw [up1_s, up1_n _ _ (by omega)], fun j _ => by rw [up1_ne _ _ (show 100 ≠ 99 by decide)]⟩
/-- what a method of the reader does -/
def DQ (J : Nat → Nat → Int64) (σ : aSg) (T : Nat → Int32) (l : Nat) (key : Int32) (B pa no D y : Nat) (q : PQ) : Prop := ∀ F S, MS T l B pa no F S → GW T l key S → ∃ F', cI D y [.ref 99, .int key] (F, J, σ) = some (if (q S).1 = true then 1 else 0, (F', J, σ)) ∧ MFr B F F' ∧ ((q S).1 = true → MS T l B pa no F' (q S).2) ∧ (¬ (q S).1 = true → F' 99 21 = nI (q S).2.1.2.1)
theorem GW_96 (R : MS T l B pa no F S) (G : GW T l key S) : S.2.1.2 < 96 := by
  have := G.2.1
  have := R.tk.1
  have := R.tk.2.1
  have := R.hl
  omega
/-- one turn of a level -/
abbrev LPE (J : Nat → Nat → Int64) (σ : aSg) (T : Nat → Int32) (l : Nat) (key : Int32) (B pa no D y lv : Nat) (lp nx : Value → aMem → Option (Option Value × aMem)) : Prop := ∀ w F S, MS T l B pa no F S → lp w (F, J, σ) = if ¬ (S.1.1 = 3 ∧ sgL lv (T S.1.2.1)) then some (some (.int 1), (F, J, σ)) else ((cV D 194 [.ref 99] (F, J, σ)).bind fun p4 => if (mS p4 99).1 = 9 ∧ 99 < 999999 then ((cI D y [.ref 99, .int key] p4).bind fun p6 => if p6.1 = 0 then some (some (.int 0), p6.2) else (if (mS p6.2 99).1 = 9 ∧ 99 < 999999 then ((cV D 199 [.ref 99, .int 2, .int (T S.1.2.1)] p6.2).bind fun p9 => nx (.int (T S.1.2.1)) p9) else none)) else none)
theorem m_lvS (h : Lay L σ) {D y lv : Nat} {lp nx : Value → aMem → Option (Option Value × aMem)} (hlp : LPE J σ T l key B pa no (D + 2) y lv lp nx) (hq : DQ J σ T l key B pa no (D + 2) y q) (Gq : GQ T l key q) (w : Value) (R : MS T l B pa no F S) (G : GW T l key S) : (¬ (S.1.1 = 3 ∧ sgL lv (T S.1.2.1)) ∧ lp w (F, J, σ) = some (some (.int 1), (F, J, σ))) ∨ ((S.1.1 = 3 ∧ sgL lv (T S.1.2.1)) ∧ ∃ F', MFr B F F' ∧ ((¬ (q (nxS T l S)).1 = true ∧ lp w (F, J, σ) = some (some (.int 0), (F', J, σ)) ∧ F' 99 21 = nI (q (nxS T l S)).2.1.2.1) ∨ ((q (nxS T l S)).1 = true ∧ lp w (F, J, σ) = nx (.int (T S.1.2.1)) (F', J, σ) ∧ MS T l B pa no F' (putS 2 (T S.1.2.1) (q (nxS T l S)).2)))) := by
  have e0 := hlp w F S R
  by_cases c : S.1.1 = 3 ∧ sgL lv (T S.1.2.1)
  · refine Or.inr ⟨c, ?_⟩
    rw [if_neg (not_not_intro c)] at e0
    obtain ⟨F1, a1, a2, a3⟩ := m_next (d := D) (J := J) h R
    obtain ⟨g1, g2⟩ := nxS_g G
    obtain ⟨F2, b1, b2, b3, b4⟩ := hq F1 (nxS T l S) a3 g1
    rw [a1, Option.bind_some] at e0
    simp only [mS, Y_99 h] at e0
    rw [if_pos t99, b1, Option.bind_some] at e0
    simp only [mS, Y_99 h] at e0
    by_cases c2 : (q (nxS T l S)).1 = true
    · have R2 := b3 c2
      have G2 := GW_of g1 (Gq _ g1) c2
      rw [if_pos c2, if_neg (by decide), if_pos t99, m_stp h R.hB R2.r29 R2.r28 (GW_96 R2 G2), Option.bind_some] at e0
      exact ⟨_, (a2.tr b2).tr MFr_step, Or.inr ⟨c2, e0, MS_step R2 _ _⟩⟩
    · rw [if_neg c2, if_pos rfl] at e0
      exact ⟨F2, a2.tr b2, Or.inl ⟨c2, e0, b4 c2⟩⟩
  · rw [if_pos c] at e0
    exact Or.inl ⟨c, e0⟩
abbrev LRs (J : Nat → Nat → Int64) (σ : aSg) (T : Nat → Int32) (l B pa no : Nat) (F : Nat → Nat → Int32) (e : Option (Option Value × aMem)) (r : Bool × PSt) : Prop := ∃ F', e = some (some (.int (if r.1 = true then 1 else 0)), (F', J, σ)) ∧ MFr B F F' ∧ (r.1 = true → MS T l B pa no F' r.2) ∧ (¬ r.1 = true → F' 99 21 = nI r.2.1.2.1)
theorem LRs_t {e : Option (Option Value × aMem)} {r : PSt} (h1 : e = some (some (.int 1), (F', J, σ))) (h2 : MFr B F F') (h3 : MS T l B pa no F' r) : LRs J σ T l B pa no F e (true, r) := ⟨F', h1, h2, fun _ => h3, fun z => absurd rfl z⟩
theorem LRs_f {e : Option (Option Value × aMem)} {r : Bool × PSt} (hr : ¬ r.1 = true) (h1 : e = some (some (.int 0), (F', J, σ))) (h2 : MFr B F F') (h3 : F' 99 21 = nI r.2.1.2.1) : LRs J σ T l B pa no F e r := ⟨F', by rw [if_neg hr]; exact h1, h2, fun z => absurd z hr, fun _ => h3⟩
theorem m_lvL (h : Lay L σ) {D y lv : Nat} {lp : Value → aMem → Option (Option Value × aMem)} (hlp : LPE J σ T l key B pa no (D + 2) y lv lp lp) (hq : DQ J σ T l key B pa no (D + 2) y q) (Gq : GQ T l key q) : ∀ (f : Nat) (w : Value) (F : Nat → Nat → Int32) (S : PSt), l < f + S.1.2.1 → MS T l B pa no F S → GW T l key S → 1 ≤ hgK S.2.2 S.2.1.2 → LRs J σ T l B pa no F (lp w (F, J, σ)) (lpP T l lv q f S)
  | 0, w, F, S, hf, R, G, hg => by
    exfalso
    have := G.1.1
    have := G.1.2.1
    omega
  | f + 1, w, F, S, hf, R, G, hg => by
    rw [lpP_s]
    rcases m_lvS h hlp hq Gq w R G with ⟨c, e⟩ | ⟨c, F', fr, z⟩
    · rw [if_neg c]
      exact LRs_t e MFr.rf R
    · rw [if_pos c]
      rcases z with ⟨c2, e, z⟩ | ⟨c2, e, R2⟩
      · rw [if_neg c2]
        exact LRs_f c2 e fr z
      · rw [if_pos c2]
        obtain ⟨k1, k2, k3⟩ := put_good Gq G hg c c2
        obtain ⟨F3, z1, z2, z3, z4⟩ := m_lvL h hlp hq Gq f (.int (T S.1.2.1)) F' _ (by omega) R2 k1 (by rw [k2]; exact hg)
        exact ⟨F3, e.trans z1, fr.tr z2, z3, z4⟩
theorem m_lev1 (h : Lay L σ) {D y lv : Nat} (v2 : ¬ lv = 2) {lp : Value → aMem → Option (Option Value × aMem)} {y0 : Nat} (h0 : ∀ (v : Int32) (F F' : Nat → Nat → Int32), ((cI (D + 2) y [.ref 99, .int key] (F, J, σ)).bind fun p1 => if p1.1 = 0 then some (some (.int 0), p1.2) else lp un p1.2) = some (some (.int v), (F', J, σ)) → cI (D + 3) y0 [.ref 99, .int key] (F, J, σ) = some (v, (F', J, σ))) (hlp : LPE J σ T l key B pa no (D + 2) y lv lp lp) (hq : DQ J σ T l key B pa no (D + 2) y q) (Gq : GQ T l key q) : DQ J σ T l key B pa no (D + 3) y0 (lvP T l lv q) := fun F S R G => by
  obtain ⟨F1, a1, a2, a3, a4⟩ := hq F S R G
  unfold lvP
  by_cases c : (q S).1 = true
  · rw [if_pos c]
    rw [if_pos c] at a1
    obtain ⟨y1, y2, y3, y4⟩ := (Gq S G).2.2 c
    have G1 := GW_of G (Gq S G) c
    obtain ⟨F2, z1, z2, z3, z4⟩ := m_lvL h hlp hq Gq (fuL lv) un F1 _ (by unfold fuL; rw [if_neg v2]; have := G1.2.1; have := R.hl; omega) (a3 c) G1 (by omega)
    refine ⟨F2, h0 _ _ _ ?_, a2.tr z2, z3, z4⟩
    rw [a1, Option.bind_some]
    dsimp only
    rw [if_neg (by decide)]
    exact z1
  · rw [if_neg c]
    rw [if_neg c] at a1
    refine ⟨F1, h0 _ _ _ ?_, a2, fun z => absurd z c, a4⟩
    rw [a1, Option.bind_some]
    dsimp only
    rw [if_pos rfl, if_neg c]
theorem m_lev2 (h : Lay L σ) {D y : Nat} {lp : Value → aMem → Option (Option Value × aMem)} {y0 : Nat} (h0 : ∀ (v : Int32) (F F' : Nat → Nat → Int32), ((cI (D + 2) y [.ref 99, .int key] (F, J, σ)).bind fun p1 => if p1.1 = 0 then some (some (.int 0), p1.2) else lp un p1.2) = some (some (.int v), (F', J, σ)) → cI (D + 3) y0 [.ref 99, .int key] (F, J, σ) = some (v, (F', J, σ))) (hlp : LPE J σ T l key B pa no (D + 2) y 2 lp (fun _ μ => some (some (.int 1), μ))) (hq : DQ J σ T l key B pa no (D + 2) y q) (Gq : GQ T l key q) : DQ J σ T l key B pa no (D + 3) y0 (lvP T l 2 q) := fun F S R G => by
  obtain ⟨F1, a1, a2, a3, a4⟩ := hq F S R G
  unfold lvP
  by_cases c : (q S).1 = true
  · rw [if_pos c]
    rw [if_pos c] at a1
    have G1 := GW_of G (Gq S G) c
    have R1 := a3 c
    have key1 : LRs J σ T l B pa no F1 (lp un (F1, J, σ)) (lpP T l 2 q (fuL 2) (q S).2) := by
      show LRs J σ T l B pa no F1 (lp un (F1, J, σ)) (lpP T l 2 q (0 + 1) (q S).2)
      rw [lpP_s]
      rcases m_lvS h hlp hq Gq un R1 G1 with ⟨c1, e⟩ | ⟨c1, F', fr, z⟩
      · rw [if_neg c1]
        exact LRs_t e MFr.rf R1
      · rw [if_pos c1]
        rcases z with ⟨c2, e, z⟩ | ⟨c2, e, R2⟩
        · rw [if_neg c2]
          exact LRs_f c2 e fr z
        · rw [if_pos c2, lpP_0]
          exact LRs_t e fr R2
    obtain ⟨F2, z1, z2, z3, z4⟩ := key1
    refine ⟨F2, h0 _ _ _ ?_, a2.tr z2, z3, z4⟩
    rw [a1, Option.bind_some]
    dsimp only
    rw [if_neg (by decide)]
    exact z1
  · rw [if_neg c]
    rw [if_neg c] at a1
    refine ⟨F1, h0 _ _ _ ?_, a2, fun z => absurd z c, a4⟩
    rw [a1, Option.bind_some]
    dsimp only
    rw [if_pos rfl, if_neg c]
theorem m_200 (h : Lay L σ) {D : Nat} (hq : DQ J σ T l key B pa no (D + 2) 201 q) (Gq : GQ T l key q) : DQ J σ T l key B pa no (D + 3) 200 (lvP T l 0 q) := by
  refine m_lev1 h (by decide) (lp := fun _ μ => Rn (D + 3) 200 (10, [.ref 99, .int key], [], μ)) (fun v F F' e => i_200 ?_) (fun w F S R => ?_) hq Gq
  · rw [q_200_0]
    simp only [mS, Y_99 h]
    rw [if_pos t99]
    exact e
  · show Rn (D + 3) 200 (10, [.ref 99, .int key], [], (F, J, σ)) = _
    rw [q_200_10]
    simp only [mS, Y_99 h]
    rw [if_pos t99, m_sign h R, Option.bind_some]
    simp only [b2i_0, sgL_0, mS, Y_99 h]
    by_cases c : S.1.1 = 3 ∧ T S.1.2.1 = 124
    · rw [if_neg (not_not_intro c), if_neg (not_not_intro c), if_pos t99, c.2]
    · rw [if_pos c, if_pos c]
theorem m_201 (h : Lay L σ) {D : Nat} (hq : DQ J σ T l key B pa no (D + 2) 202 q) (Gq : GQ T l key q) : DQ J σ T l key B pa no (D + 3) 201 (lvP T l 1 q) := by
  refine m_lev1 h (by decide) (lp := fun _ μ => Rn (D + 3) 201 (10, [.ref 99, .int key], [], μ)) (fun v F F' e => i_201 ?_) (fun w F S R => ?_) hq Gq
  · rw [q_201_0]
    simp only [mS, Y_99 h]
    rw [if_pos t99]
    exact e
  · show Rn (D + 3) 201 (10, [.ref 99, .int key], [], (F, J, σ)) = _
    rw [q_201_10]
    simp only [mS, Y_99 h]
    rw [if_pos t99, m_sign h R, Option.bind_some]
    simp only [b2i_0, sgL_1, mS, Y_99 h]
    by_cases c : S.1.1 = 3 ∧ T S.1.2.1 = 38
    · rw [if_neg (not_not_intro c), if_neg (not_not_intro c), if_pos t99, c.2]
    · rw [if_pos c, if_pos c]
noncomputable def lpW (D : Nat) (key : Int32) (μ : aMem) : Option (Option Value × aMem) := if (mS μ 99).1 = 9 ∧ 99 < 999999 then ((cI D 195 [.ref 99, .int 60] μ).bind fun p4 => if p4.1 = 0 then (if (mS p4.2 99).1 = 9 ∧ 99 < 999999 then ((cI D 195 [.ref 99, .int 61] p4.2).bind fun p7 => if p7.1 = 0 then (if (mS p7.2 99).1 = 9 ∧ 99 < 999999 then ((cI D 195 [.ref 99, .int 62] p7.2).bind fun p10 => if p10.1 = 0 then (some (some (.int 1), p10.2)) else (if (mS p10.2 99).1 = 9 then (if (mS p10.2 99).1 = 9 ∧ 99 < 999999 then ((cV D 194 [.ref 99] p10.2).bind fun p14 => if (mS p14 99).1 = 9 ∧ 99 < 999999 then ((cI D 203 [.ref 99, .int key] p14).bind fun p16 => if p16.1 = 0 then (some (some (.int 0), p16.2)) else (if (mS p16.2 99).1 = 9 ∧ 99 < 999999 then ((cV D 199 [.ref 99, .int 2, .int (mF p10.2 99 25)] p16.2).bind fun p19 => some (some (.int 1), p19)) else none)) else none) else none) else none)) else none) else (if (mS p7.2 99).1 = 9 then (if (mS p7.2 99).1 = 9 ∧ 99 < 999999 then ((cV D 194 [.ref 99] p7.2).bind fun p22 => if (mS p22 99).1 = 9 ∧ 99 < 999999 then ((cI D 203 [.ref 99, .int key] p22).bind fun p24 => if p24.1 = 0 then (some (some (.int 0), p24.2)) else (if (mS p24.2 99).1 = 9 ∧ 99 < 999999 then ((cV D 199 [.ref 99, .int 2, .int (mF p7.2 99 25)] p24.2).bind fun p27 => some (some (.int 1), p27)) else none)) else none) else none) else none)) else none) else (if (mS p4.2 99).1 = 9 then (if (mS p4.2 99).1 = 9 ∧ 99 < 999999 then ((cV D 194 [.ref 99] p4.2).bind fun p30 => if (mS p30 99).1 = 9 ∧ 99 < 999999 then ((cI D 203 [.ref 99, .int key] p30).bind fun p32 => if p32.1 = 0 then (some (some (.int 0), p32.2)) else (if (mS p32.2 99).1 = 9 ∧ 99 < 999999 then ((cV D 199 [.ref 99, .int 2, .int (mF p4.2 99 25)] p32.2).bind fun p35 => some (some (.int 1), p35)) else none)) else none) else none) else none)) else none
theorem m_202 (h : Lay L σ) {D : Nat} (hq : DQ J σ T l key B pa no (D + 2) 203 q) (Gq : GQ T l key q) : DQ J σ T l key B pa no (D + 3) 202 (lvP T l 2 q) := by
  refine m_lev2 h (lp := fun _ μ => lpW (D + 2) key μ) (fun v F F' e => i_202 ?_) (fun w F S R => ?_) hq Gq
  · rw [q_202_0]
    simp only [mS, Y_99 h]
    rw [if_pos t99]
    exact e
  · show lpW (D + 2) key (F, J, σ) = _
    unfold lpW
    simp only [mS, Y_99 h]
    rw [if_pos t99, m_sign h R, Option.bind_some]
    simp only [b2i_0, sgL_2, mS, mF, Y_99 h, if_true]
    by_cases c : S.1.1 = 3 ∧ T S.1.2.1 = 60
    · rw [if_neg (not_not_intro c), if_neg (not_not_intro ⟨c.1, Or.inl c.2⟩), if_pos t99, R.rs c.1]
    · rw [if_pos c, if_pos t99, m_sign h R, Option.bind_some]
      simp only [b2i_0, mS, mF, Y_99 h, if_true]
      by_cases c1 : S.1.1 = 3 ∧ T S.1.2.1 = 61
      · rw [if_neg (not_not_intro c1), if_neg (not_not_intro ⟨c1.1, Or.inr (Or.inl c1.2)⟩), if_pos t99, R.rs c1.1]
      · rw [if_pos c1, if_pos t99, m_sign h R, Option.bind_some]
        simp only [b2i_0, mS, mF, Y_99 h, if_true]
        by_cases c2 : S.1.1 = 3 ∧ T S.1.2.1 = 62
        · rw [if_neg (not_not_intro c2), if_neg (not_not_intro ⟨c2.1, Or.inr (Or.inr c2.2)⟩), if_pos t99, R.rs c2.1]
        · rw [if_pos c2, if_pos (fun z => by rcases z with ⟨z1, z | z | z⟩; exact c ⟨z1, z⟩; exact c1 ⟨z1, z⟩; exact c2 ⟨z1, z⟩)]
theorem m_203 (h : Lay L σ) {D : Nat} (hq : DQ J σ T l key B pa no (D + 2) 204 q) (Gq : GQ T l key q) : DQ J σ T l key B pa no (D + 3) 203 (lvP T l 3 q) := by
  refine m_lev1 h (by decide) (lp := fun w μ => Rn (D + 3) 203 (10, [.ref 99, .int key, w], [], μ)) (fun v F F' e => i_203 ?_) (fun w F S R => ?_) hq Gq
  · rw [q_203_0]
    simp only [mS, Y_99 h]
    rw [if_pos t99]
    exact e
  · show Rn (D + 3) 203 (10, [.ref 99, .int key, w], [], (F, J, σ)) = _
    rw [q_203_10]
    simp only [mS, Y_99 h]
    rw [if_pos t99, m_sign h R, Option.bind_some]
    simp only [b2i_0, sgL_3, mS, mF, Y_99 h, if_true]
    by_cases c : S.1.1 = 3 ∧ T S.1.2.1 = 43
    · rw [if_neg (not_not_intro c), if_neg (not_not_intro ⟨c.1, Or.inl c.2⟩), if_pos t99, R.rs c.1]
    · rw [if_pos c, if_pos t99, m_sign h R, Option.bind_some]
      simp only [b2i_0, mS, mF, Y_99 h, if_true]
      by_cases c1 : S.1.1 = 3 ∧ T S.1.2.1 = 45
      · rw [if_neg (not_not_intro c1), if_neg (not_not_intro ⟨c1.1, Or.inr c1.2⟩), if_pos t99, R.rs c1.1]
      · rw [if_pos c1, if_pos (fun z => by rcases z with ⟨z1, z | z⟩; exact c ⟨z1, z⟩; exact c1 ⟨z1, z⟩)]
theorem m_204 (h : Lay L σ) {D : Nat} (hq : DQ J σ T l key B pa no (D + 2) 205 q) (Gq : GQ T l key q) : DQ J σ T l key B pa no (D + 3) 204 (lvP T l 4 q) := by
  refine m_lev1 h (by decide) (lp := fun w μ => Rn (D + 3) 204 (10, [.ref 99, .int key, w], [], μ)) (fun v F F' e => i_204 ?_) (fun w F S R => ?_) hq Gq
  · rw [q_204_0]
    simp only [mS, Y_99 h]
    rw [if_pos t99]
    exact e
  · show Rn (D + 3) 204 (10, [.ref 99, .int key, w], [], (F, J, σ)) = _
    rw [q_204_10]
    simp only [mS, Y_99 h]
    rw [if_pos t99, m_sign h R, Option.bind_some]
    simp only [b2i_0, sgL_4, mS, mF, Y_99 h, if_true]
    by_cases c : S.1.1 = 3 ∧ T S.1.2.1 = 42
    · rw [if_neg (not_not_intro c), if_neg (not_not_intro ⟨c.1, Or.inl c.2⟩), if_pos t99, R.rs c.1]
    · rw [if_pos c, if_pos t99, m_sign h R, Option.bind_some]
      simp only [b2i_0, mS, mF, Y_99 h, if_true]
      by_cases c1 : S.1.1 = 3 ∧ T S.1.2.1 = 47
      · rw [if_neg (not_not_intro c1), if_neg (not_not_intro ⟨c1.1, Or.inr c1.2⟩), if_pos t99, R.rs c1.1]
      · rw [if_pos c1, if_pos (fun z => by rcases z with ⟨z1, z | z⟩; exact c ⟨z1, z⟩; exact c1 ⟨z1, z⟩)]
theorem m_lev (h : Lay L σ) {D : Nat} (hq : DQ J σ T l key B pa no (D + 2) 205 q) (Gq : GQ T l key q) : DQ J σ T l key B pa no (D + 7) 200 (lvN T l q 5) := by
  have g1 := lvN_good Gq 1
  have g2 := lvN_good Gq 2
  have g3 := lvN_good Gq 3
  have g4 := lvN_good Gq 4
  have d4 : DQ J σ T l key B pa no (D + 3) 204 (lvN T l q 1) := m_204 h hq Gq
  have d3 : DQ J σ T l key B pa no (D + 4) 203 (lvN T l q 2) := m_203 h (D := D + 1) d4 g1
  have d2 : DQ J σ T l key B pa no (D + 5) 202 (lvN T l q 3) := m_202 h (D := D + 2) d3 g2
  have d1 : DQ J σ T l key B pa no (D + 6) 201 (lvN T l q 4) := m_201 h (D := D + 3) d2 g3
  exact m_200 h (D := D + 4) d1 g4
theorem m_opd (h : Lay L σ) (R : MS T l B pa no F S) (G : GW T l key S) (w v : Int32) : ∃ F', (∀ {α : Type} (k : aMem → Option α), ((cV (d + 2) 199 [.ref 99, .int w, .int v] (F, J, σ)).bind fun p3 => if (mS p3 99).1 = 9 then (if (mS p3 99).1 = 9 ∧ 99 < 999999 then ((cV (d + 2) 194 [.ref 99] (setF p3 99 30 ((mF p3 99 30) + 1))).bind fun p6 => k p6) else none) else none) = k (F', J, σ)) ∧ MFr B F F' ∧ MS T l B pa no F' (opdS T l w v S) := by
  have R1 := MS_step R w v
  have R2 := MS_30 R1 (S.2.1.1 + 1)
  obtain ⟨F', a1, a2, a3⟩ := m_next (d := d) (J := J) h R2
  refine ⟨F', fun k => ?_, (MFr_step.tr (MFr_f (by decide))).tr a2, a3⟩
  rw [m_stp h R.hB R.r29 R.r28 (GW_96 R G), Option.bind_some]
  have r30 : stF F B S.2.1.2 w v 99 30 = nI S.2.1.1 := R1.r30
  simp only [mS, mF, Y_99 h, setF_up, r30, nI_s, if_true]
  rw [if_pos t99, a1, Option.bind_some]
theorem m_pc1 (h : Lay L σ) (hk : key = 0 ∨ key = 1 ∨ key = 2) {gg D : Nat} (e : pa + no + gg = 16) (h1 : pa ≤ 8) (h2 : no ≤ 8) (ihN : no < 8 → DQ J σ T l key B pa (no + 1) (D + 2) 205 (pcP T l key (gg - 1) pa (no + 1))) (ihP : pa < 8 → DQ J σ T l key B (pa + 1) no (D + 2) 200 (lvN T l (pcP T l key (gg - 1) (pa + 1) no) 5)) : DQ J σ T l key B pa no (D + 3) 205 (pcP T l key gg pa no) := by
  intro F S R G
  have W := R.tk
  have kq := fun m hm => k_eq (k := S.1.1) m W.2.2.1 hm
  rw [pcP_e T l key e h1 h2]
  have e84 : Rn (D + 3) 205 (84, [.ref 99, .int key], [], (F, J, σ)) = _ := q_205_84 (D + 2) 99 key (F, J, σ)
  have e145 : Rn (D + 3) 205 (145, [.ref 99, .int key], [], (F, J, σ)) = _ := q_205_145 (D + 2) 99 key (F, J, σ)
  have e0 := q_205_0 (D + 2) 99 key (F, J, σ)
  simp only [mS, Y_99 h] at e84 e145
  rw [if_pos t99, m_sign h R, Option.bind_some] at e84 e145
  simp only [b2i_0, mS, mF, Y_99 h, if_true, R.r26, R.r27, R.r23, nI_s, setF_up] at e84 e145 e0
  rw [q_205_163] at e145
  by_cases cA : S.1.1 = 2
  · obtain ⟨F1, a1, a2, a3⟩ := m_opd (d := D) (J := J) h R G 0 (nuV T S.1.2.1 (S.1.2.2 - S.1.2.1))
    rw [if_pos (show nI S.1.1 = 2 by rw [cA]; rfl), if_pos t99, R.r24 cA] at e0
    have e1 := e0.trans (a1 _)
    have hr : (if atS T key S then (true, atP T l S) else if (S.1.1 = 3 ∧ T S.1.2.1 = 33) ∧ no < 8 then notR (pcP T l key (gg - 1) pa (no + 1) (nxS T l S)) else if (S.1.1 = 3 ∧ T S.1.2.1 = 40) ∧ pa < 8 then parR T l (lvN T l (pcP T l key (gg - 1) (pa + 1) no) 5 (nxS T l S)) else (false, S)) = (true, opdS T l 0 (nuV T S.1.2.1 (S.1.2.2 - S.1.2.1)) S) := by
      rw [if_pos (Or.inl cA)]
      unfold atP
      rw [if_pos cA]
    rw [hr]
    exact ⟨F1, i_205 e1, a2, fun _ => a3, fun z => absurd rfl z⟩
  · rw [if_neg (show ¬ nI S.1.1 = 2 from fun z => cA ((kq 2 (by decide)).mp z))] at e0
    by_cases cB : S.1.1 = 1 ∧ S.1.2.2 - S.1.2.1 = 1 ∧ isNm key (T S.1.2.1)
    · have r25 := R.r25 cB.1
      rw [if_pos cB.2.1] at r25
      have b0 : ¬ T S.1.2.1 = 0 := fun z => by
        obtain ⟨-, i, i1, i2⟩ := nm_c cB.2.2
        have := leP_t.mp (W.2.2.2.2.1 cB.1)
        rw [z] at this
        exact absurd this.1 (by decide)
      rw [if_pos (show nI S.1.1 = 1 by rw [cB.1]; rfl), r25, if_neg b0, m_isName hk, Option.bind_some] at e0
      simp only [b2i_0, mS, mF, Y_99 h, if_true] at e0
      rw [if_neg (not_not_intro cB.2.2), if_pos t99, r25] at e0
      obtain ⟨F1, a1, a2, a3⟩ := m_opd (d := D) (J := J) h R G 1 (T S.1.2.1)
      have e1 := e0.trans (a1 _)
      have hr : (if atS T key S then (true, atP T l S) else if (S.1.1 = 3 ∧ T S.1.2.1 = 33) ∧ no < 8 then notR (pcP T l key (gg - 1) pa (no + 1) (nxS T l S)) else if (S.1.1 = 3 ∧ T S.1.2.1 = 40) ∧ pa < 8 then parR T l (lvN T l (pcP T l key (gg - 1) (pa + 1) no) 5 (nxS T l S)) else (false, S)) = (true, opdS T l 1 (T S.1.2.1) S) := by
        rw [if_pos (Or.inr cB)]
        unfold atP
        rw [if_neg cA]
      rw [hr]
      exact ⟨F1, i_205 e1, a2, fun _ => a3, fun z => absurd rfl z⟩
    · have nat : ¬ atS T key S := fun z => by rcases z with z | z; exact cA z; exact cB z
      have e1 : Rn (D + 3) 205 (0, [.ref 99, .int key], [], (F, J, σ)) = Rn (D + 3) 205 (84, [.ref 99, .int key], [], (F, J, σ)) := by
        rw [e0]
        by_cases c1 : S.1.1 = 1
        · rw [if_pos (show nI S.1.1 = 1 by rw [c1]; rfl)]
          by_cases c2 : F 99 25 = 0
          · rw [if_pos c2]
          · have r25 := R.r25 c1
            by_cases c3 : S.1.2.2 - S.1.2.1 = 1
            · rw [if_pos c3] at r25
              rw [if_neg c2, r25, m_isName hk, Option.bind_some]
              simp only [b2i_0]
              rw [if_pos (fun z => cB ⟨c1, c3, z⟩)]
            · rw [if_neg c3] at r25
              exact absurd r25 c2
        · rw [if_neg (show ¬ nI S.1.1 = 1 from fun z => c1 ((kq 1 (by decide)).mp z))]
      rw [if_neg nat]
      have fin : Rn (D + 3) 205 (0, [.ref 99, .int key], [], (F, J, σ)) = some (some (.int 0), (F, J, σ)) → ∃ F', cI (D + 3) 205 [.ref 99, .int key] (F, J, σ) = some (if ((false, S) : Bool × PSt).1 = true then 1 else 0, (F', J, σ)) ∧ MFr B F F' ∧ (((false, S) : Bool × PSt).1 = true → MS T l B pa no F' ((false, S) : Bool × PSt).2) ∧ (¬ ((false, S) : Bool × PSt).1 = true → F' 99 21 = nI ((false, S) : Bool × PSt).2.1.2.1) := fun z => ⟨F, i_205 z, MFr.rf, fun z => Bool.noConfusion z, fun _ => R.r21⟩
      by_cases cN : S.1.1 = 3 ∧ T S.1.2.1 = 33
      · have n40 : ¬ (S.1.1 = 3 ∧ T S.1.2.1 = 40) := fun z => by rw [cN.2] at z; exact absurd z.2 (by decide)
        rw [if_pos n40] at e145
        rw [if_neg (not_not_intro cN)] at e84
        by_cases n8 : no < 8
        · rw [if_neg (show ¬ 8 ≤ nI no from nle (a := 8) n8 (by decide)), if_pos t99] at e84
          rw [if_pos (show (S.1.1 = 3 ∧ T S.1.2.1 = 33) ∧ no < 8 from ⟨cN, n8⟩)]
          obtain ⟨F1, a1, a2, a3⟩ := m_next (d := D) (J := J) h (MS_27 R (no + 1))
          obtain ⟨g1, g2⟩ := nxS_g G
          obtain ⟨F2, b1, b2, b3, b4⟩ := ihN n8 F1 (nxS T l S) a3 g1
          have gq : GP T l key (nxS T l S) (pcP T l key (gg - 1) pa (no + 1) (nxS T l S)) := pc_good _ _ _ _ g1
          have fr := ((MFr_f (B := B) (F := F) (k := 27) (v := nI (no + 1)) (by decide)).tr a2).tr b2
          rw [a1, Option.bind_some] at e84
          simp only [mS, Y_99 h] at e84
          rw [if_pos t99, b1, Option.bind_some] at e84
          simp only [mS, mF, Y_99 h, if_true] at e84
          unfold notR
          by_cases c2 : (pcP T l key (gg - 1) pa (no + 1) (nxS T l S)).1 = true
          · have R2 := b3 c2
            have G2 := GW_of g1 gq c2
            have R3 : MS T l B pa no (up1 F2 99 (up1 (F2 99) 27 (nI no))) _ := MS_27 R2 no
            rw [if_pos c2, if_neg (by decide), if_pos t99, R2.r27, show nI (no + 1) - 1 = nI no by rw [show (1 : Int32) = nI 1 from rfl, pk_sub (by omega)]; rfl, setF_up, m_stp h R.hB R3.r29 R3.r28 (GW_96 R3 G2), Option.bind_some] at e84
            rw [if_pos c2]
            exact ⟨_, i_205 (e1.trans e84), (fr.tr (MFr_f (by decide))).tr MFr_step, fun _ => MS_step R3 2 33, fun z => absurd rfl z⟩
          · rw [if_neg c2, if_pos rfl] at e84
            rw [if_neg c2]
            exact ⟨F2, by rw [if_neg c2]; exact i_205 (e1.trans e84), fr, fun z => absurd z c2, b4⟩
        · rw [if_pos (show 8 ≤ nI no from yle (a := 8) (by omega) (by omega)), e145] at e84
          rw [if_neg (show ¬ ((S.1.1 = 3 ∧ T S.1.2.1 = 33) ∧ no < 8) from fun z => n8 z.2), if_neg (show ¬ ((S.1.1 = 3 ∧ T S.1.2.1 = 40) ∧ pa < 8) from fun z => n40 z.1)]
          exact fin (e1.trans e84)
      · rw [if_pos cN] at e84
        rw [if_neg (show ¬ ((S.1.1 = 3 ∧ T S.1.2.1 = 33) ∧ no < 8) from fun z => cN z.1)]
        by_cases cP : S.1.1 = 3 ∧ T S.1.2.1 = 40
        · rw [if_neg (not_not_intro cP)] at e145
          by_cases p8 : pa < 8
          · rw [if_neg (show ¬ nI pa = 8 from fun z => by have := (nI_eq (b := 8) (by omega) (by decide)).mp z; omega), if_pos t99] at e145
            rw [if_pos (show (S.1.1 = 3 ∧ T S.1.2.1 = 40) ∧ pa < 8 from ⟨cP, p8⟩)]
            obtain ⟨F1, a1, a2, a3⟩ := m_next (d := D) (J := J) h (MS_26 R (pa + 1))
            obtain ⟨g1, g2⟩ := nxS_g G
            obtain ⟨F2, b1, b2, b3, b4⟩ := ihP p8 F1 (nxS T l S) a3 g1
            have gq : GP T l key (nxS T l S) (lvN T l (pcP T l key (gg - 1) (pa + 1) no) 5 (nxS T l S)) := lvN_good (pc_good _ _ _) 5 _ g1
            have fr := ((MFr_f (B := B) (F := F) (k := 26) (v := nI (pa + 1)) (by decide)).tr a2).tr b2
            rw [a1, Option.bind_some] at e145
            simp only [mS, Y_99 h] at e145
            rw [if_pos t99, b1, Option.bind_some] at e145
            simp only [mS, Y_99 h] at e145
            unfold parR
            generalize lvN T l (pcP T l key (gg - 1) (pa + 1) no) 5 (nxS T l S) = r at *
            by_cases c2 : r.1 = true
            · have R2 := b3 c2
              rw [if_pos c2, if_neg (by decide), if_pos t99, m_sign h R2, Option.bind_some] at e145
              simp only [b2i_0, mS, mF, Y_99 h, if_true] at e145
              rw [if_pos c2]
              by_cases c4 : r.2.1.1 = 3 ∧ T r.2.1.2.1 = 41
              · have R3 : MS T l B pa no (up1 F2 99 (up1 (F2 99) 26 (nI pa))) r.2 := MS_26 R2 pa
                obtain ⟨F3, d1, d2, d3⟩ := m_next (d := D) (J := J) h R3
                rw [if_neg (not_not_intro c4), if_pos t99, R2.r26, show nI (pa + 1) - 1 = nI pa by rw [show (1 : Int32) = nI 1 from rfl, pk_sub (by omega)]; rfl, setF_up, d1, Option.bind_some] at e145
                rw [if_pos c4]
                exact ⟨F3, i_205 ((e1.trans e84).trans e145), (fr.tr (MFr_f (by decide))).tr d2, fun _ => d3, fun z => absurd rfl z⟩
              · rw [if_pos c4, q_205_196] at e145
                rw [if_neg c4]
                exact ⟨F2, i_205 ((e1.trans e84).trans e145), fr, fun z => Bool.noConfusion z, fun _ => R2.r21⟩
            · rw [if_neg c2, if_pos rfl, q_205_196] at e145
              rw [if_neg c2]
              exact ⟨F2, by rw [if_neg c2]; exact i_205 ((e1.trans e84).trans e145), fr, fun z => absurd z c2, b4⟩
          · rw [if_pos (show nI pa = 8 by rw [show pa = 8 by omega]; rfl)] at e145
            rw [if_neg (show ¬ ((S.1.1 = 3 ∧ T S.1.2.1 = 40) ∧ pa < 8) from fun z => p8 z.2)]
            exact fin ((e1.trans e84).trans e145)
        · rw [if_pos cP] at e145
          rw [if_neg (show ¬ ((S.1.1 = 3 ∧ T S.1.2.1 = 40) ∧ pa < 8) from fun z => cP z.1)]
          exact fin ((e1.trans e84).trans e145)
theorem m_pc (h : Lay L σ) (hk : key = 0 ∨ key = 1 ∨ key = 2) : ∀ gg pa no, pa + no + gg = 16 → pa ≤ 8 → no ≤ 8 → ∀ D, 6 * (8 - pa) + (8 - no) + 3 ≤ D → DQ J σ T l key B pa no D 205 (pcP T l key gg pa no)
  | 0, pa, no, e, h1, h2, D, hD => by
    obtain ⟨D', rfl⟩ : ∃ D', D = D' + 3 := ⟨D - 3, by omega⟩
    exact m_pc1 h hk e h1 h2 (fun z => by omega) (fun z => by omega)
  | gg + 1, pa, no, e, h1, h2, D, hD => by
    obtain ⟨D', rfl⟩ : ∃ D', D = D' + 3 := ⟨D - 3, by omega⟩
    refine m_pc1 h hk e h1 h2 (fun z => m_pc h hk gg pa (no + 1) (by omega) h1 (by omega) (D' + 2) (by omega)) (fun z => ?_)
    obtain ⟨D2, rfl⟩ : ∃ D2, D' = D2 + 5 := ⟨D' - 5, by omega⟩
    exact m_lev h (D := D2) (m_pc h hk gg (pa + 1) no (by omega) (by omega) h2 (D2 + 2) (by omega)) (pc_good _ _ _)
theorem m_rd (h : Lay L σ) (hk : key = 0 ∨ key = 1 ∨ key = 2) {D : Nat} (hD : 64 ≤ D) : DQ J σ T l key B 0 0 D 200 (rdP T l key) := by
  obtain ⟨D2, rfl⟩ : ∃ D2, D = D2 + 7 := ⟨D - 7, by omega⟩
  exact m_lev h (D := D2) (m_pc h hk 16 0 0 (by decide) (by decide) (by decide) (D2 + 2) (by omega)) (pc_good _ _ _)
end RDN
