section SNI
variable {M : Nat → MI} {nM y pc n a b c k w : Nat} {G : gG} {L st : List Value} {μ : aMem} {q' : aCfg}
theorem okF_inv {idx : Nat} (h : okF M y idx a b w = true) : ∃ rr, vwCl[a]? = some rr ∧ b < rr.2.2 ∧ Cond.fieldLink (M y).1.cls idx (rr.2.1 b).1 (rr.2.1 b).2.1 (rr.2.1 b).2.2.1 ∈ lw_good := by
  unfold okF at h
  split at h
  · rename_i rr hr
    rw [Bool.and_eq_true, decide_eq_true_eq] at h
    exact ⟨rr, hr, h.1, lw_ok_mem h.2⟩
  · cases h
theorem sd_tableswitch {d lo hi : Int} {offs : Array Int} (hg : gdl M nM y pc (.tableswitch d lo hi offs, n, a, b, c, k, w) = true) (hdg : decode (M y).2.1 pc = .ok (.tableswitch d lo hi offs, n)) (hs : astep (.tableswitch d lo hi offs, n, a, b, c, k, w) pc L st μ = some (.inl q')) : StepOK M G y (pc, L, st, μ) q' := by
  simp only [gdl, Bool.and_eq_true, decide_eq_true_eq, okO, List.all_eq_true] at hg
  replace hs : (p1i st fun x r => if x.toInt < lo ∨ hi < x.toInt then nx (tgt pc d) L r μ else match offs[(x.toInt - lo).toNat]? with
    | some off => nx (tgt pc off) L r μ
    | none => none) = some (.inl q') := hs
  obtain ⟨x, r, e0, h0⟩ := p1i_inv hs
  clear hs
  subst e0
  have hs := h0
  clear h0
  by_cases hx : x.toInt < lo ∨ hi < x.toInt
  · rw [if_pos hx] at hs
    cases hs
    exact same_ok fun p l e R s m args below meth cd Q d N0 L0 nL C h1 h2 kk => k_tabOut C hdg hg.1 hx kk
  · rw [if_neg hx] at hs
    split at hs
    · rename_i off ho
      cases hs
      exact same_ok fun p l e R s m args below meth cd Q d N0 L0 nL C h1 h2 kk => k_tabIn C hdg (hg.2 off (Array.mem_toList_iff.mpr (Array.mem_of_getElem? ho))) hx ho kk
    · cases hs
theorem off_ok {pc : Nat} {d : Int} (hd : 0 ≤ (pc : Int) + d) (x : Int) : ∀ l : List (Int × Int), (∀ q ∈ l, 0 ≤ (pc : Int) + q.2) → 0 ≤ (pc : Int) + Op.lookupswitch.offset l d x
  | [], _ => hd
  | (a, o) :: r, h => by
    rw [Op.lookupswitch.offset_cons]
    split
    · exact h (a, o) List.mem_cons_self
    · exact off_ok hd x r (fun q hq => h q (List.mem_cons_of_mem _ hq))
theorem sd_lookupswitch {d : Int} {ps : Array (Int × Int)} (hg : gdl M nM y pc (.lookupswitch d ps, n, a, b, c, k, w) = true) (hdg : decode (M y).2.1 pc = .ok (.lookupswitch d ps, n)) (hs : astep (.lookupswitch d ps, n, a, b, c, k, w) pc L st μ = some (.inl q')) : StepOK M G y (pc, L, st, μ) q' := by
  replace hg : (okO pc d && ps.toList.all (fun q => okO pc q.2) && (ps.toList.zip (ps.toList.drop 1)).all (fun (a, next) => a.1 < next.1)) = true := hg
  rw [Bool.and_eq_true, Bool.and_eq_true] at hg
  obtain ⟨⟨g1, g2⟩, g3⟩ := hg
  simp only [okO, decide_eq_true_eq] at g1
  rw [List.all_eq_true] at g2
  replace hs : (p1i st fun x r => nx (tgt pc (Op.lookupswitch.offset ps.toList d x.toInt)) L r μ) = some (.inl q') := hs
  obtain ⟨x, r, e0, h0⟩ := p1i_inv hs
  clear hs
  subst e0
  have hs := h0
  clear h0
  cases hs
  exact same_ok fun p l e R s m args below meth cd Q d' N0 L0 nL C h1 h2 kk => k_lookup C hdg g3 (off_ok g1 _ _ (fun q hq => by have := g2 q hq; simpa [okO] using this)) kk
theorem sd_getfield {idx : Nat} (hg : gdl M nM y pc (.getfield idx, n, a, b, c, k, w) = true) (hdg : decode (M y).2.1 pc = .ok (.getfield idx, n)) (hs : astep (.getfield idx, n, a, b, c, k, w) pc L st μ = some (.inl q')) : StepOK M G y (pc, L, st, μ) q' := by
  replace hg : (decide (n = 3) && (if a = 16 then (if b = 0 then lw_ok w (.fieldLink (M y).1.cls idx "java/lang/String" "value" "[B") else lw_ok w (.fieldLink (M y).1.cls idx "java/lang/String" "coder" "B")) else okF M y idx a b w && (decide (c = 1) == isR (tyO a b)))) = true := hg
  rw [Bool.and_eq_true, decide_eq_true_eq] at hg
  obtain ⟨rfl, hg⟩ := hg
  replace hs : (p1r st fun o r => if a = 16 then (if 1000002 ≤ o ∧ o < 1000008 then (if b = 0 then nx (pc + 3) L (.ref (o + 6) :: r) μ else nx (pc + 3) L (.int 0 :: r) μ) else none)
      else if (mS μ o).1 = a then (if c = 1 then nx (pc + 3) L (.ref (mR μ o b) :: r) μ else nx (pc + 3) L (.int (mF μ o b) :: r) μ) else none) = some (.inl q') := hs
  obtain ⟨o, r, e0, h0⟩ := p1r_inv hs
  clear hs
  subst e0
  have hs := h0
  clear h0
  by_cases h16 : a = 16
  · rw [if_pos h16] at hs hg
    obtain ⟨ho, hs⟩ := if_inv hs
    by_cases hb : b = 0
    · rw [if_pos hb] at hs hg
      cases hs
      exact same_ok fun p l e R s m args below meth cd Q d N0 L0 nL C h1 h2 kk => k_getSV C hdg ho.1 ho.2 (lw_ok_mem hg) kk
    · rw [if_neg hb] at hs hg
      cases hs
      exact same_ok fun p l e R s m args below meth cd Q d N0 L0 nL C h1 h2 kk => k_getSC C hdg ho.1 ho.2 (lw_ok_mem hg) kk
  · rw [if_neg h16] at hs hg
    rw [Bool.and_eq_true, beq_iff_eq] at hg
    obtain ⟨rr, g1, g2, g3⟩ := okF_inv hg.1
    obtain ⟨hk, hs⟩ := if_inv hs
    by_cases hc : c = 1
    · rw [if_pos hc] at hs
      cases hs
      have hR : isR (tyO a b) = true := by rw [← hg.2]; exact decide_eq_true hc
      exact same_ok fun p l e R s m args below meth cd Q d N0 L0 nL C h1 h2 kk => k_getfield C g1 g2 g3 hk hdg (by rw [if_pos hR]; exact kk)
    · rw [if_neg hc] at hs
      cases hs
      have hR : ¬ isR (tyO a b) = true := by rw [← hg.2]; simpa using hc
      exact same_ok fun p l e R s m args below meth cd Q d N0 L0 nL C h1 h2 kk => k_getfield C g1 g2 g3 hk hdg (by rw [if_neg hR]; exact kk)
theorem okP_inv {rr : vw_C} (hr : vwCl[a]? = some rr) (h : okP M y a b = true) : (rr.2.1 b).2.2.2 = false ∨ ((rr.2.1 b).2.2.2 = true ∧ (M y).1.name = "<init>" ∧ (rr.2.1 b).1 = (M y).1.cls) := by
  unfold okP at h
  rw [hr] at h
  simp only [Bool.or_eq_true, Bool.and_eq_true, decide_eq_true_eq] at h
  rcases h with h | h
  · exact Or.inl h
  · exact Or.inr ⟨h.1.1, h.1.2, h.2⟩
theorem sd_putfield {idx : Nat} (hg : gdl M nM y pc (.putfield idx, n, a, b, c, k, w) = true) (hdg : decode (M y).2.1 pc = .ok (.putfield idx, n)) (hs : astep (.putfield idx, n, a, b, c, k, w) pc L st μ = some (.inl q')) : StepOK M G y (pc, L, st, μ) q' := by
  replace hg : (decide (n = 3) && okF M y idx a b w && okP M y a b && (if c = 0 then decide (tyO a b = .int) else if c = 1 then isR (tyO a b) else if c = 2 then decide (tyO a b = .boolean) else false)) = true := hg
  rw [Bool.and_eq_true, Bool.and_eq_true, Bool.and_eq_true, decide_eq_true_eq] at hg
  obtain ⟨⟨⟨rfl, g0⟩, gp⟩, gt⟩ := hg
  obtain ⟨rr, g1, g2, g3⟩ := okF_inv g0
  have gp := okP_inv g1 gp
  have h10 := (nfAll a rr g1).2
  replace hs : (match st with
    | .int x :: .ref o :: r => if (mS μ o).1 = a ∧ (c = 0 ∨ (c = 2 ∧ (x = 0 ∨ x = 1))) then nx (pc + 3) L r (setF μ o b x) else none
    | .ref x :: .ref o :: r => if (mS μ o).1 = a ∧ c = 1 ∧ x ≤ 999999 then nx (pc + 3) L r (setR μ o b x) else none
    | _ => none) = some (.inl q') := hs
  split at hs
  · rename_i x o r
    obtain ⟨⟨hk, hc⟩, hs⟩ := if_inv hs
    cases hs
    have ht : tyO a b = .int ∨ (tyO a b = .boolean ∧ (x = 0 ∨ x = 1)) := by
      rcases hc with hc | ⟨hc, hx⟩
      · rw [if_pos hc] at gt; exact Or.inl (of_decide_eq_true gt)
      · subst hc
        exact Or.inr ⟨of_decide_eq_true gt, hx⟩
    exact ⟨fun w => ⟨wf_setF w (wf_own w (show (mS μ o).1 < 16 by omega)), Nat.le_refl _, Nat.le_refl _⟩, fun p l e R s m args below meth cd Q d N0 L0 nL C h1 h2 kk => k_putI C g1 g2 g3 hk gp hdg ht kk⟩
  · rename_i x o r
    obtain ⟨⟨hk, hc, hx⟩, hs⟩ := if_inv hs
    cases hs
    subst hc
    exact ⟨fun w => ⟨wf_setR w hx, Nat.le_refl _, Nat.le_refl _⟩, fun p l e R s m args below meth cd Q d N0 L0 nL C h1 h2 kk => k_putR C g1 g2 g3 hk gp hdg gt hx kk⟩
  · cases hs
theorem sd_getstatic {idx : Nat} (hg : gdl M nM y pc (.getstatic idx, n, a, b, c, k, w) = true) (hdg : decode (M y).2.1 pc = .ok (.getstatic idx, n)) (hs : astep (.getstatic idx, n, a, b, c, k, w) pc L st μ = some (.inl q')) : StepOK M G y (pc, L, st, μ) q' := by
  replace hg : (decide (n = 3) && (if a = 0 then (if b = 0 then lw_ok w (.fieldLink (M y).1.cls idx "ElevenParts" "CARDS" "[I") else decide (((M y).1.cls, idx, "CARDS") ∈ nsF)) else if a = 1 then (if b = 0 then lw_ok w (.fieldLink (M y).1.cls idx "ElevenParts" "ABOVE" "[I") else decide (((M y).1.cls, idx, "ABOVE") ∈ nsF)) else if a = 2 then lw_ok w (.fieldLink (M y).1.cls idx "java/lang/String" "COMPACT_STRINGS" "Z") else lw_ok w (.fieldLink (M y).1.cls idx "jdk/internal/util/Preconditions" "SIOOBE_FORMATTER" "Ljava/util/function/BiFunction;"))) = true := hg
  rw [Bool.and_eq_true, decide_eq_true_eq] at hg
  obtain ⟨rfl, hg⟩ := hg
  replace hs : (if a = 0 then nx (pc + 3) L (.ref 1000000 :: st) μ else if a = 1 then nx (pc + 3) L (.ref 1000001 :: st) μ else if a = 2 then nx (pc + 3) L (.int 1 :: st) μ else nx (pc + 3) L (.ref 1000015 :: st) μ) = some (.inl q') := hs
  by_cases h0 : a = 0
  · rw [if_pos h0] at hs hg
    cases hs
    by_cases hb : b = 0
    · rw [if_pos hb] at hg
      exact same_ok fun p l e R s m args below meth cd Q d N0 L0 nL C h1 h2 kk => k_gets (v := .ref 1000000) C (by rw [cv_far (by omega)]; exact C.ks.2.2.2.2.2.1.1) (lw_ok_mem hg) hdg kk
    · rw [if_neg hb] at hg
      exact same_ok fun p l e R s m args below meth cd Q d N0 L0 nL C h1 h2 kk => k_getsN (v := .ref 1000000) C (by rw [cv_far (by omega)]; exact C.ks.2.2.2.2.2.1.1) (of_decide_eq_true hg) hdg kk
  · rw [if_neg h0] at hs hg
    by_cases h1 : a = 1
    · rw [if_pos h1] at hs hg
      cases hs
      by_cases hb : b = 0
      · rw [if_pos hb] at hg
        exact same_ok fun p l e R s m args below meth cd Q d N0 L0 nL C h1 h2 kk => k_gets (v := .ref 1000001) C (by rw [cv_far (by omega)]; exact C.ks.2.2.2.2.2.1.2.1) (lw_ok_mem hg) hdg kk
      · rw [if_neg hb] at hg
        exact same_ok fun p l e R s m args below meth cd Q d N0 L0 nL C h1 h2 kk => k_getsN (v := .ref 1000001) C (by rw [cv_far (by omega)]; exact C.ks.2.2.2.2.2.1.2.1) (of_decide_eq_true hg) hdg kk
    · rw [if_neg h1] at hs hg
      by_cases h2 : a = 2
      · rw [if_pos h2] at hs hg
        cases hs
        exact same_ok fun p l e R s m args below meth cd Q d N0 L0 nL C h1 h2 kk => k_gets (v := .int 1) C C.ks.2.2.2.2.2.1.2.2.1 (lw_ok_mem hg) hdg kk
      · rw [if_neg h2] at hs hg
        cases hs
        exact same_ok fun p l e R s m args below meth cd Q d N0 L0 nL C h1 h2 kk => k_gets (v := .ref 1000015) C (by rw [cv_far (by omega)]; exact C.ks.2.2.2.2.2.1.2.2.2) (lw_ok_mem hg) hdg kk
theorem sd_ldc {idx : Nat} (hg : gdl M nM y pc (.ldc idx, n, a, b, c, k, w) = true) (hdg : decode (M y).2.1 pc = .ok (.ldc idx, n)) (hs : astep (.ldc idx, n, a, b, c, k, w) pc L st μ = some (.inl q')) : StepOK M G y (pc, L, st, μ) q' := by
  replace hg : (decide (n = 2) && (if a = 0 then lw_ok w (.constant (M y).1.cls idx (Int32.ofNat c)) else decide (c < 6) && decide ((M y).1.cls = RX3) && decide (idx = sIx.getD c 0))) = true := hg
  rw [Bool.and_eq_true, decide_eq_true_eq] at hg
  obtain ⟨rfl, hg⟩ := hg
  replace hs : (if a = 0 then nx (pc + 2) L (.int (Int32.ofNat c) :: st) μ else nx (pc + 2) L (.ref (1000002 + c) :: st) μ) = some (.inl q') := hs
  by_cases h0 : a = 0
  · rw [if_pos h0] at hs hg
    cases hs
    exact same_ok fun p l e R s m args below meth cd Q d N0 L0 nL C h1 h2 kk => k_ldc C (lw_ok_mem hg) hdg kk
  · rw [if_neg h0] at hs hg
    cases hs
    rw [Bool.and_eq_true, Bool.and_eq_true, decide_eq_true_eq, decide_eq_true_eq, decide_eq_true_eq] at hg
    obtain ⟨⟨g1, g2⟩, rfl⟩ := hg
    exact same_ok fun p l e R s m args below meth cd Q d N0 L0 nL C h1 h2 kk => k_ldcS C g1 g2 hdg kk
theorem sd_ldc_w {idx : Nat} (hg : gdl M nM y pc (.ldc_w idx, n, a, b, c, k, w) = true) (hdg : decode (M y).2.1 pc = .ok (.ldc_w idx, n)) (hs : astep (.ldc_w idx, n, a, b, c, k, w) pc L st μ = some (.inl q')) : StepOK M G y (pc, L, st, μ) q' := by
  replace hg : (decide (n = 3) && lw_ok w (.constant (M y).1.cls idx (Int32.ofNat c))) = true := hg
  rw [Bool.and_eq_true, decide_eq_true_eq] at hg
  obtain ⟨rfl, hg⟩ := hg
  cases hs
  exact same_ok fun p l e R s m args below meth cd Q d N0 L0 nL C h1 h2 kk => k_ldcw C (lw_ok_mem hg) hdg kk
theorem sd_ldc2_w {idx : Nat} (hg : gdl M nM y pc (.ldc2_w idx, n, a, b, c, k, w) = true) (hdg : decode (M y).2.1 pc = .ok (.ldc2_w idx, n)) (hs : astep (.ldc2_w idx, n, a, b, c, k, w) pc L st μ = some (.inl q')) : StepOK M G y (pc, L, st, μ) q' := by
  replace hg : (decide (n = 3) && lw_ok w (.constantLong (M y).1.cls idx (Int64.ofNat c))) = true := hg
  rw [Bool.and_eq_true, decide_eq_true_eq] at hg
  obtain ⟨rfl, hg⟩ := hg
  cases hs
  exact same_ok fun p l e R s m args below meth cd Q d N0 L0 nL C h1 h2 kk => k_ldc2 C (lw_ok_mem hg) hdg kk
theorem sd_iaload (hg : gdl M nM y pc (.iaload, n, a, b, c, k, w) = true) (hdg : decode (M y).2.1 pc = .ok (.iaload, n)) (hs : astep (.iaload, n, a, b, c, k, w) pc L st μ = some (.inl q')) : StepOK M G y (pc, L, st, μ) q' := by
  simp only [gdl, decide_eq_true_eq] at hg
  subst hg
  replace hs : (pir st fun o j r => if (mS μ o).1 = 10 ∨ (mS μ o).1 = 18 then (if inb j (mS μ o).2 then nx (pc + 1) L (.int (mF μ o (ix j)) :: r) μ else none)
      else if o = 1000000 ∨ o = 1000001 then (if inb j (sI o).length then nx (pc + 1) L (.int ((sI o).getD (ix j) 0) :: r) μ else none) else none) = some (.inl q') := hs
  obtain ⟨o, j, r, e0, h0⟩ := pir_inv hs
  clear hs
  subst e0
  have hs := h0
  clear h0
  by_cases h : (mS μ o).1 = 10 ∨ (mS μ o).1 = 18
  · rw [if_pos h] at hs
    obtain ⟨hj, hs⟩ := if_inv hs
    cases hs
    rcases h with h | h
    · exact same_ok fun p l e R s m args below meth cd Q d N0 L0 nL C h1 h2 kk => k_iaload C hdg h hj kk
    · exact same_ok fun p l e R s m args below meth cd Q d N0 L0 nL C h1 h2 kk => k_ialoadX C hdg h hj kk
  · rw [if_neg h] at hs
    obtain ⟨ho, hs⟩ := if_inv hs
    obtain ⟨hj, hs⟩ := if_inv hs
    cases hs
    exact same_ok fun p l e R s m args below meth cd Q d N0 L0 nL C h1 h2 kk => k_ialoadS C hdg ho hj kk
theorem sd_baload (hg : gdl M nM y pc (.baload, n, a, b, c, k, w) = true) (hdg : decode (M y).2.1 pc = .ok (.baload, n)) (hs : astep (.baload, n, a, b, c, k, w) pc L st μ = some (.inl q')) : StepOK M G y (pc, L, st, μ) q' := by
  simp only [gdl, decide_eq_true_eq] at hg
  subst hg
  replace hs : (pir st fun o j r => if 1000008 ≤ o ∧ o < 1000014 then (if inb j (sTx.getD (o - 1000008) []).length then nx (pc + 1) L (.int ((sTx.getD (o - 1000008) []).getD (ix j) 0) :: r) μ else none) else none) = some (.inl q') := hs
  obtain ⟨o, j, r, e0, h0⟩ := pir_inv hs
  clear hs
  subst e0
  have hs := h0
  clear h0
  obtain ⟨ho, hs⟩ := if_inv hs
  obtain ⟨hj, hs⟩ := if_inv hs
  cases hs
  exact same_ok fun p l e R s m args below meth cd Q d N0 L0 nL C h1 h2 kk => k_baload C hdg ho.1 ho.2 hj kk
theorem sd_laload (hg : gdl M nM y pc (.laload, n, a, b, c, k, w) = true) (hdg : decode (M y).2.1 pc = .ok (.laload, n)) (hs : astep (.laload, n, a, b, c, k, w) pc L st μ = some (.inl q')) : StepOK M G y (pc, L, st, μ) q' := by
  simp only [gdl, decide_eq_true_eq] at hg
  subst hg
  replace hs : (pir st fun o j r => if (mS μ o).1 = 11 ∧ inb j (mS μ o).2 then nx (pc + 1) L (.long (mJ μ o (ix j)) :: r) μ else none) = some (.inl q') := hs
  obtain ⟨o, j, r, e0, h0⟩ := pir_inv hs
  clear hs
  subst e0
  have hs := h0
  clear h0
  obtain ⟨ho, hs⟩ := if_inv hs
  cases hs
  exact same_ok fun p l e R s m args below meth cd Q d N0 L0 nL C h1 h2 kk => k_laload C hdg ho.1 ho.2 kk
theorem sd_aaload (hg : gdl M nM y pc (.aaload, n, a, b, c, k, w) = true) (hdg : decode (M y).2.1 pc = .ok (.aaload, n)) (hs : astep (.aaload, n, a, b, c, k, w) pc L st μ = some (.inl q')) : StepOK M G y (pc, L, st, μ) q' := by
  simp only [gdl, decide_eq_true_eq] at hg
  subst hg
  replace hs : (pir st fun o j r => if 12 ≤ (mS μ o).1 ∧ (mS μ o).1 < 16 ∧ inb j (mS μ o).2 then nx (pc + 1) L (.ref (mR μ o (ix j)) :: r) μ else none) = some (.inl q') := hs
  obtain ⟨o, j, r, e0, h0⟩ := pir_inv hs
  clear hs
  subst e0
  have hs := h0
  clear h0
  obtain ⟨ho, hs⟩ := if_inv hs
  cases hs
  exact same_ok fun p l e R s m args below meth cd Q d N0 L0 nL C h1 h2 kk => k_aaload C hdg ho.1 ho.2.1 ho.2.2 kk
theorem sd_iastore (hg : gdl M nM y pc (.iastore, n, a, b, c, k, w) = true) (hdg : decode (M y).2.1 pc = .ok (.iastore, n)) (hs : astep (.iastore, n, a, b, c, k, w) pc L st μ = some (.inl q')) : StepOK M G y (pc, L, st, μ) q' := by
  simp only [gdl, decide_eq_true_eq] at hg
  subst hg
  replace hs : (match st with
    | .int x :: .int j :: .ref o :: r => if (mS μ o).1 = 10 ∧ inb j (mS μ o).2 then nx (pc + 1) L r (setF μ o (ix j) x) else none
    | _ => none) = some (.inl q') := hs
  split at hs
  · rename_i x j o r
    obtain ⟨ho, hs⟩ := if_inv hs
    cases hs
    exact ⟨fun w => ⟨wf_setF w (wf_own w (show (mS μ o).1 < 16 by omega)), Nat.le_refl _, Nat.le_refl _⟩, fun p l e R s m args below meth cd Q d N0 L0 nL C h1 h2 kk => k_iastore C hdg ho.1 ho.2 kk⟩
  · cases hs
theorem sd_lastore (hg : gdl M nM y pc (.lastore, n, a, b, c, k, w) = true) (hdg : decode (M y).2.1 pc = .ok (.lastore, n)) (hs : astep (.lastore, n, a, b, c, k, w) pc L st μ = some (.inl q')) : StepOK M G y (pc, L, st, μ) q' := by
  simp only [gdl, decide_eq_true_eq] at hg
  subst hg
  replace hs : (match st with
    | .long x :: .int j :: .ref o :: r => if (mS μ o).1 = 11 ∧ inb j (mS μ o).2 then nx (pc + 1) L r (setJ μ o (ix j) x) else none
    | _ => none) = some (.inl q') := hs
  split at hs
  · obtain ⟨ho, hs⟩ := if_inv hs
    cases hs
    exact ⟨fun w => ⟨wf_setJ w, Nat.le_refl _, Nat.le_refl _⟩, fun p l e R s m args below meth cd Q d N0 L0 nL C h1 h2 kk => k_lastore C hdg ho.1 ho.2 kk⟩
  · cases hs
theorem sd_aastore (hg : gdl M nM y pc (.aastore, n, a, b, c, k, w) = true) (hdg : decode (M y).2.1 pc = .ok (.aastore, n)) (hs : astep (.aastore, n, a, b, c, k, w) pc L st μ = some (.inl q')) : StepOK M G y (pc, L, st, μ) q' := by
  simp only [gdl, decide_eq_true_eq] at hg
  subst hg
  replace hs : (match st with
    | .ref x :: .int j :: .ref o :: r => if 12 ≤ (mS μ o).1 ∧ (mS μ o).1 < 16 ∧ inb j (mS μ o).2 ∧ (x = 999999 ∨ (x < 999999 ∧ (mS μ x).1 = ecl (mS μ o).1)) then nx (pc + 1) L r (setR μ o (ix j) x) else none
    | _ => none) = some (.inl q') := hs
  split at hs
  · rename_i x j o r
    obtain ⟨ho, hs⟩ := if_inv hs
    cases hs
    have hx : x ≤ 999999 := ho.2.2.2.elim (fun h => Nat.le_of_eq h) (fun h => Nat.le_of_lt h.1)
    exact ⟨fun w => ⟨wf_setR w hx, Nat.le_refl _, Nat.le_refl _⟩, fun p l e R s m args below meth cd Q d N0 L0 nL C h1 h2 kk => k_aastore C hdg ho.1 ho.2.1 ho.2.2.1 ho.2.2.2 kk⟩
  · cases hs
theorem sd_arraylength (hg : gdl M nM y pc (.arraylength, n, a, b, c, k, w) = true) (hdg : decode (M y).2.1 pc = .ok (.arraylength, n)) (hs : astep (.arraylength, n, a, b, c, k, w) pc L st μ = some (.inl q')) : StepOK M G y (pc, L, st, μ) q' := by
  simp only [gdl, decide_eq_true_eq] at hg
  subst hg
  replace hs : (p1r st fun o r => if 10 ≤ (mS μ o).1 ∧ (mS μ o).1 < 16 ∨ (mS μ o).1 = 18 then nx (pc + 1) L (.int (Int32.ofNat (mS μ o).2) :: r) μ
      else if o = 1000000 ∨ o = 1000001 then nx (pc + 1) L (.int (Int32.ofNat (sI o).length) :: r) μ
      else if 1000008 ≤ o ∧ o < 1000014 then nx (pc + 1) L (.int (Int32.ofNat (sTx.getD (o - 1000008) []).length) :: r) μ else none) = some (.inl q') := hs
  obtain ⟨o, r, e0, h0⟩ := p1r_inv hs
  clear hs
  subst e0
  have hs := h0
  clear h0
  by_cases h : 10 ≤ (mS μ o).1 ∧ (mS μ o).1 < 16 ∨ (mS μ o).1 = 18
  · rw [if_pos h] at hs
    cases hs
    rcases h with h | h
    · exact same_ok fun p l e R s m args below meth cd Q d N0 L0 nL C h1 h2 kk => k_alen C hdg h.1 h.2 kk
    · exact same_ok fun p l e R s m args below meth cd Q d N0 L0 nL C h1 h2 kk => k_alenX C hdg h kk
  · rw [if_neg h] at hs
    by_cases ho : o = 1000000 ∨ o = 1000001
    · rw [if_pos ho] at hs
      cases hs
      exact same_ok fun p l e R s m args below meth cd Q d N0 L0 nL C h1 h2 kk => k_alenS C hdg ho kk
    · rw [if_neg ho] at hs
      obtain ⟨h1, hs⟩ := if_inv hs
      cases hs
      exact same_ok fun p l e R s m args below meth cd Q d N0 L0 nL C _ _ kk => k_alenB C hdg h1.1 h1.2 kk
theorem sd_new {idx : Nat} (hg : gdl M nM y pc (.new idx, n, a, b, c, k, w) = true) (hdg : decode (M y).2.1 pc = .ok (.new idx, n)) (hs : astep (.new idx, n, a, b, c, k, w) pc L st μ = some (.inl q')) : StepOK M G y (pc, L, st, μ) q' := by
  replace hg : (decide (n = 3) && (match vwCl[a]? with
    | some rr => decide (b = rr.2.2) && lw_ok w (.classLink (M y).1.cls idx rr.1) && lw_ok c (.instantiable rr.1 rr.2.2) && lw_ok k (.initialized rr.1)
    | none => false)) = true := hg
  rw [Bool.and_eq_true, decide_eq_true_eq] at hg
  obtain ⟨rfl, hg⟩ := hg
  split at hg
  · rename_i rr hr
    rw [Bool.and_eq_true, Bool.and_eq_true, Bool.and_eq_true, decide_eq_true_eq] at hg
    obtain ⟨⟨⟨rfl, g1⟩, g2⟩, g3⟩ := hg
    replace hs : (if mN μ < 900000 ∧ a < 10 then nx (pc + 3) L (.ref (mN μ) :: st) (newC μ a rr.2.2) else none) = some (.inl q') := hs
    obtain ⟨ho, hs⟩ := if_inv hs
    cases hs
    exact ⟨fun w => ⟨wf_newC w (by omega) ho.1, Nat.le_succ _, Nat.le_add_right _ _⟩, fun p l e R s m args below meth cd Q d N0 L0 nL C h1 h2 kk => k_new C hr hdg (lw_ok_mem g1) (lw_ok_mem g2) (lw_ok_mem g3) ho.1 h1 h2 kk⟩
  · cases hg
theorem sd_newarray {t : ArrayType} (hg : gdl M nM y pc (.newarray t, n, a, b, c, k, w) = true) (hdg : decode (M y).2.1 pc = .ok (.newarray t, n)) (hs : astep (.newarray t, n, a, b, c, k, w) pc L st μ = some (.inl q')) : StepOK M G y (pc, L, st, μ) q' := by
  replace hg : (decide (n = 2) && (decide (t = .int ∧ a = 10) || decide (t = .long ∧ a = 11))) = true := hg
  rw [Bool.and_eq_true, Bool.or_eq_true, decide_eq_true_eq, decide_eq_true_eq, decide_eq_true_eq] at hg
  obtain ⟨rfl, hg⟩ := hg
  replace hs : (p1i st fun x r => if mN μ < 900000 ∧ ¬ x < 0 ∧ ix x ≤ 1000000 ∧ (a = 10 ∨ a = 11) then nx (pc + 2) L (.ref (mN μ) :: r) (newC μ a (ix x)) else none) = some (.inl q') := hs
  obtain ⟨x, r, e0, h0⟩ := p1i_inv hs
  clear hs
  subst e0
  have hs := h0
  clear h0
  obtain ⟨ho, hs⟩ := if_inv hs
  cases hs
  have harr : Cond.arrayClass (newarray.typeOf t) ∈ lw_good := by
    rcases hg with ⟨rfl, -⟩ | ⟨rfl, -⟩
    · exact wArI
    · exact wArJ
  exact ⟨fun w => ⟨wf_newC w (by omega) ho.1, Nat.le_succ _, Nat.le_add_right _ _⟩, fun p l e R s m args below meth cd Q d N0 L0 nL C h1 h2 kk => k_newarr C hg hdg harr ho.1 ho.2.1 ho.2.2.1 h1 h2 kk⟩
theorem sd_anewarray {idx : Nat} (hg : gdl M nM y pc (.anewarray idx, n, a, b, c, k, w) = true) (hdg : decode (M y).2.1 pc = .ok (.anewarray idx, n)) (hs : astep (.anewarray idx, n, a, b, c, k, w) pc L st μ = some (.inl q')) : StepOK M G y (pc, L, st, μ) q' := by
  replace hg : (decide (n = 3) && decide (12 ≤ a ∧ a < 16) && (match vwCl[ecl a]? with
    | some rr => lw_ok w (.classLink (M y).1.cls idx rr.1)
    | none => false)) = true := hg
  rw [Bool.and_eq_true, Bool.and_eq_true, decide_eq_true_eq, decide_eq_true_eq] at hg
  obtain ⟨⟨rfl, ha⟩, hg⟩ := hg
  split at hg
  · rename_i rr hr
    replace hs : (p1i st fun x r => if mN μ < 900000 ∧ ¬ x < 0 ∧ ix x ≤ 1000000 ∧ 12 ≤ a ∧ a < 16 then nx (pc + 3) L (.ref (mN μ) :: r) (newC μ a (ix x)) else none) = some (.inl q') := hs
    obtain ⟨x, r, e0, h0⟩ := p1i_inv hs
    clear hs
    subst e0
    have hs := h0
    clear h0
    obtain ⟨ho, hs⟩ := if_inv hs
    cases hs
    exact ⟨fun w => ⟨wf_newC w ha.2 ho.1, Nat.le_succ _, Nat.le_add_right _ _⟩, fun p l e R s m args below meth cd Q d N0 L0 nL C h1 h2 kk => k_anew C ha.1 ha.2 hr hdg (lw_ok_mem hg) ho.1 ho.2.1 ho.2.2.1 h1 h2 kk⟩
  · cases hg
end SNI
