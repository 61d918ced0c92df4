section SNJ
variable {M : Nat → MI} {nM y pc n a b c k w : Nat} {G : gG} {L st : List Value} {μ : aMem} {q' : aCfg}
theorem okM_inv (h : okM M nM a b = true) : a < nM ∧ (parseMethodDescriptor (M a).1.desc).map (fun d => d.parameters.length) = some b := by
  unfold okM at h
  rw [Bool.and_eq_true, decide_eq_true_eq, decide_eq_true_eq] at h
  exact h
/-- what a step that calls must give -/
def CallOK (M : Nat → MI) (nM : Nat) (G : gG) (y : Nat) (q : aCfg) (y' : Nat) (as : List Value) (q' : aCfg) : Prop :=
  q'.2.2.2 = q.2.2.2 ∧ y' < nM ∧
  ∀ (p : Program) (l : Launch) (e : Env) (R : Room) (s : State) (m : MethodId) (args : Array Value) (below : List Frame) (meth : Method) (c : Code) (Q : State → Prop) (d N0 L0 nL : Nat) (r1 : Option Value) (μ1 : aMem), mokM M y' → Cx M y p R s m args meth c G (d + 1) N0 nL → MetY l M G d y' as q.2.2.2 r1 μ1 → mN μ1 ≤ N0 + R.cells → mL μ1 ≤ L0 + R.slots → (wfM G q.2.2.2 → wfM G μ1 ∧ mN q.2.2.2 ≤ mN μ1 ∧ mL q.2.2.2 ≤ mL μ1) → WK p l e R s m args below meth c Q G N0 L0 nL (q'.1, q'.2.1, r1.toList ++ q'.2.2.1, μ1) → WK p l e R s m args below meth c Q G N0 L0 nL q
theorem take_rev {o : Nat} {r : List Value} (h1 : st.drop b = .ref o :: r) : st = ((st.take b).reverse).reverse ++ .ref o :: r := by
  rw [List.reverse_reverse, ← h1, List.take_append_drop]
theorem len_rev (h1 : (st.take b).length = b) : ((st.take b).reverse).length = b := by rw [List.length_reverse]; exact h1
theorem sd_callV {idx y' : Nat} {as : List Value} (hg : gdl M nM y pc (.invokevirtual idx, n, a, b, c, k, w) = true) (hdg : decode (M y).2.1 pc = .ok (.invokevirtual idx, n)) (hs : astep (.invokevirtual idx, n, a, b, c, k, w) pc L st μ = some (.inr (.inr (y', as, q')))) : CallOK M nM G y (pc, L, st, μ) y' as q' := by
  replace hg : (decide (n = 3) && okM M nM a b && lw_ok w (.methodLink (M y).1.cls idx (M a).1) && lw_ok (wI (M a)) (.instanceMethod (M a).1) && lw_ok (wS (M a)) (.selects (M a).1.cls (M a).1 (M a).1) && (if c = 0 then (match vwCl[k]? with
      | some rr => decide (rr.1 = (M a).1.cls)
      | none => false) else decide (c = 1) && decide ((M a).1.cls = "java/lang/String"))) = true := hg
  rw [Bool.and_eq_true, Bool.and_eq_true, Bool.and_eq_true, Bool.and_eq_true, Bool.and_eq_true, decide_eq_true_eq] at hg
  obtain ⟨⟨⟨⟨⟨rfl, gm⟩, g1⟩, g2⟩, g3⟩, g4⟩ := hg
  obtain ⟨ga, gn⟩ := okM_inv gm
  replace hs : acall 3 a b c k pc L st μ = some (.inr (.inr (y', as, q'))) := hs
  unfold acall at hs
  by_cases hc : c = 0
  · rw [if_pos hc] at hs g4
    split at hs
    · rename_i o r hdr
      obtain ⟨ho, hs⟩ := if_inv hs
      cases hs
      split at g4
      · rename_i rr hr
        refine ⟨rfl, ga, fun p l e R s m args below meth cd Q d N0 L0 nL r1 μ1 hm C hM h1 h2 hw1 kk => ?_⟩
        rw [take_rev hdr]
        exact k_callV C hm (by rw [len_rev ho.2.2.1]; exact gn) (lw_ok_mem g1) (lw_ok_mem g2) (lw_ok_mem g3) hM hr (of_decide_eq_true g4) ho.1 ho.2.2.2 h1 h2 hw1 hdg kk
      · cases g4
    · cases hs
  · rw [if_neg hc] at hs g4
    rw [Bool.and_eq_true, decide_eq_true_eq, decide_eq_true_eq] at g4
    rw [if_pos g4.1] at hs
    split at hs
    · rename_i o r hdr
      obtain ⟨ho, hs⟩ := if_inv hs
      cases hs
      refine ⟨rfl, ga, fun p l e R s m args below meth cd Q d N0 L0 nL r1 μ1 hm C hM h1 h2 hw1 kk => ?_⟩
      rw [take_rev hdr]
      exact k_callT C hm (by rw [len_rev ho.2.2.1]; exact gn) (lw_ok_mem g1) (lw_ok_mem g2) (lw_ok_mem g3) hM g4.2 ho.1 ho.2.1 ho.2.2.2 h1 h2 hw1 hdg kk
    · cases hs
theorem sd_callS {idx y' : Nat} {as : List Value} (hg : gdl M nM y pc (.invokestatic idx, n, a, b, c, k, w) = true) (hdg : decode (M y).2.1 pc = .ok (.invokestatic idx, n)) (hs : astep (.invokestatic idx, n, a, b, c, k, w) pc L st μ = some (.inr (.inr (y', as, q')))) : CallOK M nM G y (pc, L, st, μ) y' as q' := by
  replace hg : (decide (n = 3) && (if c = 2 then okM M nM a b && lw_ok w (.methodLink (M y).1.cls idx (M a).1) && lw_ok (wI (M a)) (.static (M a).1)
      else if c = 4 then okM M nM a b && decide (((M y).1.cls, idx, (M a).1) ∈ nsM) && lw_ok (wI (M a)) (.static (M a).1)
      else if c = 7 then lw_ok w (.methodLink (M y).1.cls idx Lib.Math.max.name) else if c = 8 then lw_ok w (.methodLink (M y).1.cls idx Lib.Math.min.name) else if c = 9 then lw_ok w (.methodLink (M y).1.cls idx arraycopyName) else false)) = true := hg
  rw [Bool.and_eq_true, decide_eq_true_eq] at hg
  obtain ⟨rfl, hg⟩ := hg
  replace hs : acall 3 a b c k pc L st μ = some (.inr (.inr (y', as, q'))) := hs
  unfold acall at hs
  have hst : (st.take b).length = b → st = ((st.take b).reverse).reverse ++ st.drop b := fun _ => by rw [List.reverse_reverse, List.take_append_drop]
  by_cases hc : c = 2
  · subst hc
    rw [if_pos rfl, Bool.and_eq_true, Bool.and_eq_true] at hg
    rw [if_neg (by omega), if_neg (by omega), if_pos (Or.inl rfl)] at hs
    obtain ⟨ga, gn⟩ := okM_inv hg.1.1
    obtain ⟨ho, hs⟩ := if_inv hs
    cases hs
    refine ⟨rfl, ga, fun p l e R s m args below meth cd Q d N0 L0 nL r1 μ1 hm C hM h1 h2 hw1 kk => ?_⟩
    rw [hst ho.1]
    exact k_callS C hm (by rw [len_rev ho.1]; exact gn) (lw_ok_mem hg.1.2) (lw_ok_mem hg.2) hM ho.2 h1 h2 hw1 hdg kk
  · rw [if_neg hc] at hg
    by_cases hc4 : c = 4
    · subst hc4
      rw [if_pos rfl, Bool.and_eq_true, Bool.and_eq_true, decide_eq_true_eq] at hg
      rw [if_neg (by omega), if_neg (by omega), if_pos (Or.inr rfl)] at hs
      obtain ⟨ga, gn⟩ := okM_inv hg.1.1
      obtain ⟨ho, hs⟩ := if_inv hs
      cases hs
      refine ⟨rfl, ga, fun p l e R s m args below meth cd Q d N0 L0 nL r1 μ1 hm C hM h1 h2 hw1 kk => ?_⟩
      rw [hst ho.1]
      exact k_callSN C hm (by rw [len_rev ho.1]; exact gn) hg.1.2 (lw_ok_mem hg.2) hM ho.2 h1 h2 hw1 hdg kk
    · rw [if_neg hc4] at hg
      by_cases h7 : c = 7
      · subst h7
        simp only [if_neg (show ¬ (7 : Nat) = 0 by omega), if_neg (show ¬ (7 : Nat) = 1 by omega), if_neg (show ¬ ((7 : Nat) = 2 ∨ (7 : Nat) = 4) by omega), if_neg (show ¬ ((7 : Nat) = 3 ∨ (7 : Nat) = 5) by omega), if_neg (show ¬ (7 : Nat) = 6 by omega), if_pos] at hs
        obtain ⟨x, z, r, e0, h0⟩ := p2i_inv hs
        obtain ⟨_, h0⟩ := if_inv h0
        cases h0
      · rw [if_neg h7] at hg
        by_cases h8 : c = 8
        · subst h8
          simp only [if_neg (show ¬ (8 : Nat) = 0 by omega), if_neg (show ¬ (8 : Nat) = 1 by omega), if_neg (show ¬ ((8 : Nat) = 2 ∨ (8 : Nat) = 4) by omega), if_neg (show ¬ ((8 : Nat) = 3 ∨ (8 : Nat) = 5) by omega), if_neg (show ¬ (8 : Nat) = 6 by omega), if_neg (show ¬ (8 : Nat) = 7 by omega), if_pos] at hs
          obtain ⟨x, z, r, e0, h0⟩ := p2i_inv hs
          obtain ⟨_, h0⟩ := if_inv h0
          cases h0
        · rw [if_neg h8] at hg
          by_cases h9 : c = 9
          · subst h9
            simp only [if_neg (show ¬ (9 : Nat) = 0 by omega), if_neg (show ¬ (9 : Nat) = 1 by omega), if_neg (show ¬ ((9 : Nat) = 2 ∨ (9 : Nat) = 4) by omega), if_neg (show ¬ ((9 : Nat) = 3 ∨ (9 : Nat) = 5) by omega), if_neg (show ¬ (9 : Nat) = 6 by omega), if_neg (show ¬ (9 : Nat) = 7 by omega), if_neg (show ¬ (9 : Nat) = 8 by omega), if_pos] at hs
            split at hs
            · obtain ⟨_, h0⟩ := if_inv hs
              cases h0
            · cases hs
          · rw [if_neg h9] at hg
            cases hg
theorem sd_callI {idx y' : Nat} {as : List Value} (hg : gdl M nM y pc (.invokespecial idx, n, a, b, c, k, w) = true) (hdg : decode (M y).2.1 pc = .ok (.invokespecial idx, n)) (hs : astep (.invokespecial idx, n, a, b, c, k, w) pc L st μ = some (.inr (.inr (y', as, q')))) : CallOK M nM G y (pc, L, st, μ) y' as q' := by
  replace hg : (decide (n = 3) && (if c = 6 then lw_ok w (.methodLink (M y).1.cls idx Lib.objectInit) else okM M nM a b && lw_ok (wI (M a)) (.instanceMethod (M a).1) && decide ((M a).1.name = "<init>") && decide ((M a).2.2.2.1 = none) && (if c = 3 then lw_ok w (.methodLink (M y).1.cls idx (M a).1) else decide (c = 5) && decide (((M y).1.cls, idx, (M a).1) ∈ nsM)))) = true := hg
  rw [Bool.and_eq_true, decide_eq_true_eq] at hg
  obtain ⟨rfl, hg⟩ := hg
  replace hs : acall 3 a b c k pc L st μ = some (.inr (.inr (y', as, q'))) := hs
  unfold acall at hs
  by_cases h6 : c = 6
  · subst h6
    simp only [if_neg (show ¬ (6 : Nat) = 0 by omega), if_neg (show ¬ (6 : Nat) = 1 by omega), if_neg (show ¬ ((6 : Nat) = 2 ∨ (6 : Nat) = 4) by omega), if_neg (show ¬ ((6 : Nat) = 3 ∨ (6 : Nat) = 5) by omega), if_pos] at hs
    obtain ⟨x, r, e0, h0⟩ := p1r_inv hs
    obtain ⟨_, h0⟩ := if_inv h0
    cases h0
  · rw [if_neg h6, Bool.and_eq_true, Bool.and_eq_true, Bool.and_eq_true, Bool.and_eq_true, decide_eq_true_eq, decide_eq_true_eq] at hg
    obtain ⟨⟨⟨⟨gm, g2⟩, g3⟩, g4⟩, g5⟩ := hg
    obtain ⟨ga, gn⟩ := okM_inv gm
    have h35 : c = 3 ∨ c = 5 := by
      by_cases h3 : c = 3
      · exact Or.inl h3
      · rw [if_neg h3, Bool.and_eq_true, decide_eq_true_eq] at g5; exact Or.inr g5.1
    rw [if_neg (by omega), if_neg (by omega), if_neg (by omega), if_pos h35] at hs
    split at hs
    · rename_i o r hdr
      obtain ⟨ho, hs⟩ := if_inv hs
      cases hs
      refine ⟨rfl, ga, fun p l e R s m args below meth cd Q d N0 L0 nL r1 μ1 hm C hM h1 h2 hw1 kk => ?_⟩
      rw [take_rev hdr]
      by_cases h3 : c = 3
      · rw [if_pos h3] at g5
        exact k_callI C hm (by rw [len_rev ho.2.1]; exact gn) (lw_ok_mem g5) (lw_ok_mem g2) g3 g4 hM ho.1 ho.2.2 h1 h2 hw1 hdg kk
      · rw [if_neg h3, Bool.and_eq_true, decide_eq_true_eq, decide_eq_true_eq] at g5
        exact k_callIN C hm (by rw [len_rev ho.2.1]; exact gn) g5.2 (lw_ok_mem g2) g3 g4 hM ho.1 ho.2.2 h1 h2 hw1 hdg kk
    · cases hs
-- calls that are one step
theorem sd_stepS {idx : Nat} (hg : gdl M nM y pc (.invokestatic idx, n, a, b, c, k, w) = true) (hdg : decode (M y).2.1 pc = .ok (.invokestatic idx, n)) (hs : astep (.invokestatic idx, n, a, b, c, k, w) pc L st μ = some (.inl q')) : StepOK M G y (pc, L, st, μ) q' := by
  replace hg : (decide (n = 3) && (if c = 2 then okM M nM a b && lw_ok w (.methodLink (M y).1.cls idx (M a).1) && lw_ok (wI (M a)) (.static (M a).1)
      else if c = 4 then okM M nM a b && decide (((M y).1.cls, idx, (M a).1) ∈ nsM) && lw_ok (wI (M a)) (.static (M a).1)
      else if c = 7 then lw_ok w (.methodLink (M y).1.cls idx Lib.Math.max.name) else if c = 8 then lw_ok w (.methodLink (M y).1.cls idx Lib.Math.min.name) else if c = 9 then lw_ok w (.methodLink (M y).1.cls idx arraycopyName) else false)) = true := hg
  rw [Bool.and_eq_true, decide_eq_true_eq] at hg
  obtain ⟨rfl, hg⟩ := hg
  replace hs : acall 3 a b c k pc L st μ = some (.inl q') := hs
  unfold acall at hs
  by_cases hc : c = 2 ∨ c = 4
  · rw [if_neg (by omega), if_neg (by omega), if_pos hc] at hs
    obtain ⟨_, h0⟩ := if_inv hs
    cases h0
  · rw [if_neg (fun h => hc (Or.inl h)), if_neg (fun h => hc (Or.inr h))] at hg
    by_cases h7 : c = 7
    · subst h7
      rw [if_pos rfl] at hg
      simp only [if_neg (show ¬ (7 : Nat) = 0 by omega), if_neg (show ¬ (7 : Nat) = 1 by omega), if_neg (show ¬ ((7 : Nat) = 2 ∨ (7 : Nat) = 4) by omega), if_neg (show ¬ ((7 : Nat) = 3 ∨ (7 : Nat) = 5) by omega), if_neg (show ¬ (7 : Nat) = 6 by omega), if_pos] at hs
      obtain ⟨x, z, r, e0, h0⟩ := p2i_inv hs
      clear hs
      subst e0
      obtain ⟨ho, h0⟩ := if_inv h0
      cases h0
      exact same_ok fun p l e R s m args below meth cd Q d N0 L0 nL C h1 h2 kk => k_max C hdg (lw_ok_mem hg) wMax1 wMath wMax3 ho h1 h2 kk
    · rw [if_neg h7] at hg
      by_cases h8 : c = 8
      · subst h8
        rw [if_pos rfl] at hg
        simp only [if_neg (show ¬ (8 : Nat) = 0 by omega), if_neg (show ¬ (8 : Nat) = 1 by omega), if_neg (show ¬ ((8 : Nat) = 2 ∨ (8 : Nat) = 4) by omega), if_neg (show ¬ ((8 : Nat) = 3 ∨ (8 : Nat) = 5) by omega), if_neg (show ¬ (8 : Nat) = 6 by omega), if_neg (show ¬ (8 : Nat) = 7 by omega), if_pos] at hs
        obtain ⟨x, z, r, e0, h0⟩ := p2i_inv hs
        clear hs
        subst e0
        obtain ⟨ho, h0⟩ := if_inv h0
        cases h0
        exact same_ok fun p l e R s m args below meth cd Q d N0 L0 nL C h1 h2 kk => k_min C hdg (lw_ok_mem hg) wMin1 wMath wMin3 ho h1 h2 kk
      · rw [if_neg h8] at hg
        by_cases h9 : c = 9
        · subst h9
          rw [if_pos rfl] at hg
          simp only [if_neg (show ¬ (9 : Nat) = 0 by omega), if_neg (show ¬ (9 : Nat) = 1 by omega), if_neg (show ¬ ((9 : Nat) = 2 ∨ (9 : Nat) = 4) by omega), if_neg (show ¬ ((9 : Nat) = 3 ∨ (9 : Nat) = 5) by omega), if_neg (show ¬ (9 : Nat) = 6 by omega), if_neg (show ¬ (9 : Nat) = 7 by omega), if_neg (show ¬ (9 : Nat) = 8 by omega), if_pos] at hs
          split at hs
          · rename_i qq dp a1 sp a0 r
            obtain ⟨ho, h0⟩ := if_inv hs
            cases h0
            exact ⟨fun w => ⟨wf_cpyF w (wf_own w (show (mS μ a1).1 < 16 by rw [ho.2.1]; omega)), Nat.le_refl _, Nat.le_refl _⟩, fun p l e R s m args below meth cd Q d N0 L0 nL C h1 h2 kk => k_copy C hdg (lw_ok_mem hg) wCp1 wCp2 wSys ho.1 ho.2.1 ho.2.2.1 ho.2.2.2.1 ho.2.2.2.2.1 ho.2.2.2.2.2.1 ho.2.2.2.2.2.2.1 ho.2.2.2.2.2.2.2 kk⟩
          · cases hs
        · rw [if_neg h9] at hg
          cases hg
theorem sd_stepV {idx : Nat} (hg : gdl M nM y pc (.invokevirtual idx, n, a, b, c, k, w) = true) (hs : astep (.invokevirtual idx, n, a, b, c, k, w) pc L st μ = some (.inl q')) : StepOK M G y (pc, L, st, μ) q' := by
  replace hg : (decide (n = 3) && okM M nM a b && lw_ok w (.methodLink (M y).1.cls idx (M a).1) && lw_ok (wI (M a)) (.instanceMethod (M a).1) && lw_ok (wS (M a)) (.selects (M a).1.cls (M a).1 (M a).1) && (if c = 0 then (match vwCl[k]? with
      | some rr => decide (rr.1 = (M a).1.cls)
      | none => false) else decide (c = 1) && decide ((M a).1.cls = "java/lang/String"))) = true := hg
  rw [Bool.and_eq_true] at hg
  replace hs : acall n a b c k pc L st μ = some (.inl q') := hs
  unfold acall at hs
  by_cases hc : c = 0
  · rw [if_pos hc] at hs
    split at hs
    · obtain ⟨_, h0⟩ := if_inv hs
      cases h0
    · cases hs
  · rw [if_neg hc] at hs
    have g4 := hg.2
    rw [if_neg hc, Bool.and_eq_true, decide_eq_true_eq] at g4
    rw [if_pos g4.1] at hs
    split at hs
    · obtain ⟨_, h0⟩ := if_inv hs
      cases h0
    · cases hs
theorem sd_stepI {idx : Nat} (hg : gdl M nM y pc (.invokespecial idx, n, a, b, c, k, w) = true) (hdg : decode (M y).2.1 pc = .ok (.invokespecial idx, n)) (hs : astep (.invokespecial idx, n, a, b, c, k, w) pc L st μ = some (.inl q')) : StepOK M G y (pc, L, st, μ) q' := by
  replace hg : (decide (n = 3) && (if c = 6 then lw_ok w (.methodLink (M y).1.cls idx Lib.objectInit) else okM M nM a b && lw_ok (wI (M a)) (.instanceMethod (M a).1) && decide ((M a).1.name = "<init>") && decide ((M a).2.2.2.1 = none) && (if c = 3 then lw_ok w (.methodLink (M y).1.cls idx (M a).1) else decide (c = 5) && decide (((M y).1.cls, idx, (M a).1) ∈ nsM)))) = true := hg
  rw [Bool.and_eq_true, decide_eq_true_eq] at hg
  obtain ⟨rfl, hg⟩ := hg
  replace hs : acall 3 a b c k pc L st μ = some (.inl q') := hs
  unfold acall at hs
  by_cases h6 : c = 6
  · subst h6
    rw [if_pos rfl] at hg
    simp only [if_neg (show ¬ (6 : Nat) = 0 by omega), if_neg (show ¬ (6 : Nat) = 1 by omega), if_neg (show ¬ ((6 : Nat) = 2 ∨ (6 : Nat) = 4) by omega), if_neg (show ¬ ((6 : Nat) = 3 ∨ (6 : Nat) = 5) by omega), if_pos] at hs
    obtain ⟨x, r, e0, h0⟩ := p1r_inv hs
    clear hs
    subst e0
    obtain ⟨ho, h0⟩ := if_inv h0
    cases h0
    exact same_ok fun p l e R s m args below meth cd Q d N0 L0 nL C h1 h2 kk => k_objInit C hdg (lw_ok_mem hg) wOi1 wOi2 ho.1 ho.2 kk
  · rw [if_neg h6, Bool.and_eq_true] at hg
    have g5 := hg.2
    have h35 : c = 3 ∨ c = 5 := by
      by_cases h3 : c = 3
      · exact Or.inl h3
      · rw [if_neg h3, Bool.and_eq_true, decide_eq_true_eq] at g5; exact Or.inr g5.1
    rw [if_neg (by omega), if_neg (by omega), if_neg (by omega), if_pos h35] at hs
    split at hs
    · obtain ⟨_, h0⟩ := if_inv hs
      cases h0
    · cases hs
/-- what a step that ends must give -/
def RetOK (M : Nat → MI) (G : gG) (y : Nat) (q : aCfg) (r1 : Option Value) (μ1 : aMem) : Prop :=
  μ1 = q.2.2.2 ∧ ∀ (p : Program) (l : Launch) (e : Env) (R : Room) (s : State) (m : MethodId) (args : Array Value) (below : List Frame) (meth : Method) (c : Code) (d N0 L0 nL : Nat), Cx M y p R s m args meth c G d N0 nL → WK p l e R s m args below meth c (QE below G args s N0 L0 r1 μ1) G N0 L0 nL q
theorem sd_ireturn {r1 : Option Value} {μ1 : aMem} (hg : gdl M nM y pc (.ireturn, n, a, b, c, k, w) = true) (hdg : decode (M y).2.1 pc = .ok (.ireturn, n)) (hs : astep (.ireturn, n, a, b, c, k, w) pc L st μ = some (.inr (.inl (r1, μ1)))) : RetOK M G y (pc, L, st, μ) r1 μ1 := by
  replace hg : (decide (n = 1) && decide ((M y).2.2.2.1 = some (if a = 0 then .int else if a = 1 then .boolean else if a = 2 then .char else .byte))) = true := hg
  rw [Bool.and_eq_true, decide_eq_true_eq, decide_eq_true_eq] at hg
  obtain ⟨rfl, hg⟩ := hg
  simp only [astep] at hs
  split at hs
  · rename_i x
    obtain ⟨ho, h0⟩ := if_inv hs
    cases h0
    refine ⟨rfl, fun p l e R s m args below meth cd d N0 L0 nL C => k_iret C hdg hg ?_⟩
    rcases ho with rfl | ⟨rfl, h⟩ | ⟨rfl, h⟩ | ⟨rfl, h⟩
    · rfl
    · rcases h with rfl | rfl <;> rfl
    · show Value.int (x.toUInt32 % 65536).toInt32 = _
      rw [h]
    · show Value.int x.toInt8.toInt32 = _
      rw [h]
  · cases hs
theorem sd_lreturn {r1 : Option Value} {μ1 : aMem} (hg : gdl M nM y pc (.lreturn, n, a, b, c, k, w) = true) (hdg : decode (M y).2.1 pc = .ok (.lreturn, n)) (hs : astep (.lreturn, n, a, b, c, k, w) pc L st μ = some (.inr (.inl (r1, μ1)))) : RetOK M G y (pc, L, st, μ) r1 μ1 := by
  replace hg : (decide (n = 1) && decide ((M y).2.2.2.1 = some .long)) = true := hg
  rw [Bool.and_eq_true, decide_eq_true_eq, decide_eq_true_eq] at hg
  obtain ⟨rfl, hg⟩ := hg
  simp only [astep] at hs
  split at hs
  · cases hs
    exact ⟨rfl, fun p l e R s m args below meth cd d N0 L0 nL C => k_lret C hdg hg⟩
  · cases hs
theorem sd_areturn {r1 : Option Value} {μ1 : aMem} (hg : gdl M nM y pc (.areturn, n, a, b, c, k, w) = true) (hdg : decode (M y).2.1 pc = .ok (.areturn, n)) (hs : astep (.areturn, n, a, b, c, k, w) pc L st μ = some (.inr (.inl (r1, μ1)))) : RetOK M G y (pc, L, st, μ) r1 μ1 := by
  replace hg : (decide (n = 1) && (match (M y).2.2.2.1 with
    | some t => isR t
    | none => false)) = true := hg
  rw [Bool.and_eq_true, decide_eq_true_eq] at hg
  obtain ⟨rfl, hg⟩ := hg
  simp only [astep] at hs
  split at hg
  · rename_i t ht
    split at hs
    · obtain ⟨_, h0⟩ := if_inv hs
      cases h0
      exact ⟨rfl, fun p l e R s m args below meth cd d N0 L0 nL C => k_aret C hdg ht hg⟩
    · cases hs
  · cases hg
theorem sd_return {r1 : Option Value} {μ1 : aMem} (hg : gdl M nM y pc (.return_, n, a, b, c, k, w) = true) (hdg : decode (M y).2.1 pc = .ok (.return_, n)) (hs : astep (.return_, n, a, b, c, k, w) pc L st μ = some (.inr (.inl (r1, μ1)))) : RetOK M G y (pc, L, st, μ) r1 μ1 := by
  replace hg : (decide (n = 1) && decide ((M y).2.2.2.1 = none)) = true := hg
  rw [Bool.and_eq_true, decide_eq_true_eq, decide_eq_true_eq] at hg
  obtain ⟨rfl, hg⟩ := hg
  simp only [astep] at hs
  split at hs
  · cases hs
    exact ⟨rfl, fun p l e R s m args below meth cd d N0 L0 nL C => k_vret C hdg hg⟩
  · cases hs
end SNJ
