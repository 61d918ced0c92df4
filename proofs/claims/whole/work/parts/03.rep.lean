/-! SOUNDNESS, PART 1: how an abstract memory stands in the heap, and the locals. -/
abbrev MI : Type := MethodName × ByteArray × Nat × Option FieldType × Nat × Nat × Nat × Nat
/-- what is fixed over a run: where our cells begin, what the cells from 1000000 on are, the numbers of classes, places and rows' classes, the script -/
abbrev gG : Type := Nat × (Nat → Value) × (Nat → ClassId) × (Nat → Nat → Nat) × (Nat → ClassId) × Nat × (Nat → Int32)
abbrev gB (G : gG) : Nat := G.1
abbrev gV (G : gG) : Nat → Value := G.2.1
abbrev gD (G : gG) : va_G := (G.2.2.1, G.2.2.2.1)
abbrev gC (G : gG) : Nat → ClassId := G.2.2.2.2.1
abbrev gX (G : gG) : Nat := G.2.2.2.2.2.1
abbrev gS (G : gG) : Nat → Int32 := G.2.2.2.2.2.2
abbrev gA (G : gG) : Nat → Prop := fun q => gB G ≤ q
def cv (G : gG) : Value → Value
  | .ref a => if a < 999999 then .ref (gB G + a) else if a = 999999 then .null else gV G a
  | v => v
def rop (G : gG) (r : Nat) : Option Nat := if r < 999999 then some (gB G + r) else none
def tyL : List (Nat → FieldType) := [tyX0, tyX1, tyX2, tyX3, tyX4, tyX5, tyX6, tyX7, tyX8, tyX9]
def tyO (ci : Nat) : Nat → FieldType := tyL.getD ci (fun _ => .int)
def nfO (ci : Nat) : Nat := (vwCl.getD ci ("", TX0, 0)).2.2
/-- is it a field of references -/
def isR (t : FieldType) : Bool := match t with
  | .object _ => true
  | .array _ => true
  | _ => false
def fvO (G : gG) (μ : aMem) (a k : Nat) (t : FieldType) : Value := if isR t then va_rf (rop G (mR μ a k)) else .int (mF μ a k)
def flds (G : gG) (μ : aMem) (a ci : Nat) : List Value := (List.range (nfO ci)).map fun k => fvO G μ a k (tyO ci k)
def cellE (G : gG) (μ : aMem) (a : Nat) : va_E :=
  if (mS μ a).1 = 10 then .inl (gC G 10, (mS μ a).2, .inl (mF μ a))
  else if (mS μ a).1 = 11 then .inl (gC G 11, (mS μ a).2, .inr (.inl (mJ μ a)))
  else if (mS μ a).1 < 10 then .inr ((mS μ a).1, flds G μ a (mS μ a).1)
  else .inl (gC G (mS μ a).1, (mS μ a).2, .inr (.inr (.inr (.inr fun j => rop G (mR μ a j)))))
def wsOf (G : gG) (μ : aMem) : va_W := (List.range (mN μ)).map fun a => (gB G + a, cellE G μ a)
def wfM (G : gG) (μ : aMem) : Prop := mN μ ≤ 900000 ∧ (∀ a, a < mN μ → (mS μ a).1 < 16) ∧ (∀ a, mN μ ≤ a → a ≠ 1000014 → 20 ≤ (mS μ a).1) ∧ mS μ 1000014 = (18, gX G) ∧ (∀ j, mF μ 1000014 j = gS G j) ∧ ∀ a k, mR μ a k ≤ 999999
def tyK (G : gG) : List (ClassId × FieldType) := [(gC G 10, .int), (gC G 11, .long), (gC G 12, .object RX1), (gC G 13, .object RX5), (gC G 14, .object RX6), (gC G 15, .object RX7)]
theorem ws_get (G : gG) (μ : aMem) {a : Nat} (h : a < mN μ) : (wsOf G μ)[a]? = some (gB G + a, cellE G μ a) := by
  unfold wsOf
  rw [List.getElem?_map, List.getElem?_range h]
  rfl
theorem ws_inv {G : gG} {μ : aMem} {k : Nat} {q : Nat × va_E} (h : (wsOf G μ)[k]? = some q) : k < mN μ ∧ q = (gB G + k, cellE G μ k) := by
  unfold wsOf at h
  rw [List.getElem?_map] at h
  by_cases hk : k < mN μ
  · rw [List.getElem?_range hk] at h
    exact ⟨hk, (Option.some.inj h).symm⟩
  · rw [List.getElem?_eq_none (by simpa using hk)] at h
    cases h
theorem ws_D (G : gG) (μ : aMem) : va_D (gA G) (wsOf G μ) := by
  refine ⟨fun i j p q hi hj e => ?_, fun k q hk => ?_⟩
  · obtain ⟨-, rfl⟩ := ws_inv hi
    obtain ⟨-, rfl⟩ := ws_inv hj
    exact Nat.add_left_cancel e
  · obtain ⟨-, rfl⟩ := ws_inv hk
    exact Nat.le_add_right _ _
theorem ws_set {G : gG} {μ μ' : aMem} {o : Nat} {x : va_E} (ho : o < mN μ) (hN : mN μ' = mN μ) (hx : cellE G μ' o = x) (hne : ∀ a, a ≠ o → cellE G μ' a = cellE G μ a) : (wsOf G μ).set o (gB G + o, x) = wsOf G μ' := by
  apply List.ext_getElem?
  intro k
  rw [List.getElem?_set]
  by_cases hk : o = k
  · subst hk
    rw [if_pos rfl, if_pos (by simpa [wsOf] using ho), ws_get G μ' (by rw [hN]; exact ho), hx]
  · rw [if_neg hk]
    by_cases hl : k < mN μ
    · rw [ws_get G μ hl, ws_get G μ' (by rw [hN]; exact hl), hne k (fun e => hk e.symm)]
    · rw [List.getElem?_eq_none (by simpa [wsOf] using hl), List.getElem?_eq_none (by simpa [wsOf, hN] using hl)]
theorem ws_push {G : gG} {μ μ' : aMem} {x : va_E} (hN : mN μ' = mN μ + 1) (hx : cellE G μ' (mN μ) = x) (hne : ∀ a, a < mN μ → cellE G μ' a = cellE G μ a) : wsOf G μ ++ [(gB G + mN μ, x)] = wsOf G μ' := by
  unfold wsOf
  rw [hN, List.range_succ, List.map_append]
  congr 1
  · apply List.map_congr_left
    intro a ha
    rw [hne a (List.mem_range.mp ha)]
  · simp [hx]
theorem flds_get {G : gG} {μ : aMem} {a ci k : Nat} (hk : k < nfO ci) : (flds G μ a ci)[k]? = some (fvO G μ a k (tyO ci k)) := by
  unfold flds
  rw [List.getElem?_map, List.getElem?_range hk]
  rfl
theorem flds_len {G : gG} {μ : aMem} {a ci : Nat} : (flds G μ a ci).length = nfO ci := by simp [flds]
theorem flds_set {G : gG} {μ μ' : aMem} {a ci k : Nat} {v : Value} (hk : k < nfO ci) (hv : fvO G μ' a k (tyO ci k) = v) (hne : ∀ j, j ≠ k → fvO G μ' a j (tyO ci j) = fvO G μ a j (tyO ci j)) : (flds G μ a ci).set k v = flds G μ' a ci := by
  apply List.ext_getElem?
  intro j
  rw [List.getElem?_set]
  by_cases hj : k = j
  · subst hj
    rw [if_pos rfl, if_pos (by rw [flds_len]; exact hk), flds_get hk, hv]
  · rw [if_neg hj]
    by_cases hl : j < nfO ci
    · rw [flds_get hl, flds_get hl, hne j (fun e => hj e.symm)]
    · rw [List.getElem?_eq_none (by rw [flds_len]; omega), List.getElem?_eq_none (by rw [flds_len]; omega)]
theorem up1_s {α : Type} (f : Nat → α) (k : Nat) (v : α) : up1 f k v k = v := if_pos rfl
theorem up1_n {α : Type} (f : Nat → α) {k j : Nat} (v : α) (h : j ≠ k) : up1 f k v j = f j := if_neg h
-- the cells by kinds
theorem cell_i {G : gG} {μ : aMem} {a : Nat} (h : (mS μ a).1 = 10) : cellE G μ a = .inl (gC G 10, (mS μ a).2, .inl (mF μ a)) := by unfold cellE; rw [if_pos h]
theorem cell_j {G : gG} {μ : aMem} {a : Nat} (h : (mS μ a).1 = 11) : cellE G μ a = .inl (gC G 11, (mS μ a).2, .inr (.inl (mJ μ a))) := by
  unfold cellE; rw [if_neg (by omega), if_pos h]
theorem cell_o {G : gG} {μ : aMem} {a ci : Nat} (h : (mS μ a).1 = ci) (hc : ci < 10) : cellE G μ a = .inr (ci, flds G μ a ci) := by
  unfold cellE; rw [if_neg (by omega), if_neg (by omega), if_pos (by omega), h]
theorem cell_q {G : gG} {μ : aMem} {a : Nat} (h : 12 ≤ (mS μ a).1) : cellE G μ a = .inl (gC G (mS μ a).1, (mS μ a).2, .inr (.inr (.inr (.inr fun j => rop G (mR μ a j))))) := by
  unfold cellE; rw [if_neg (by omega), if_neg (by omega), if_neg (by omega)]
theorem cellE_congr {G : gG} {μ μ' : aMem} {a : Nat} (hS : mS μ' a = mS μ a) (hF : mF μ' a = mF μ a) (hJ : mJ μ' a = mJ μ a) (hR : mR μ' a = mR μ a) : cellE G μ' a = cellE G μ a := by
  unfold cellE flds fvO
  rw [hS, hF, hJ, hR]
theorem wf_own {G : gG} {μ : aMem} (h : wfM G μ) {a : Nat} (ha : (mS μ a).1 < 16) : a < mN μ := by
  rcases Nat.lt_or_ge a (mN μ) with q | q
  · exact q
  · by_cases h1 : a = 1000014
    · subst h1
      rw [h.2.2.2.1] at ha
      exact absurd ha (by simp)
    · have := h.2.2.1 a q h1
      omega
theorem wf_scr {G : gG} {μ : aMem} (h : wfM G μ) {a : Nat} (ha : (mS μ a).1 = 18) : a = 1000014 := by
  by_cases h1 : a = 1000014
  · exact h1
  · rcases Nat.lt_or_ge a (mN μ) with q | q
    · have := h.2.1 a q
      omega
    · have := h.2.2.1 a q h1
      omega
theorem wf_lt {G : gG} {μ : aMem} (h : wfM G μ) {a : Nat} (ha : a < mN μ) : a < 999999 := by have := h.1; omega
theorem wf_setF {G : gG} {μ : aMem} (h : wfM G μ) {a k : Nat} {v : Int32} (ha : a < mN μ) : wfM G (setF μ a k v) := by
  refine ⟨h.1, h.2.1, h.2.2.1, h.2.2.2.1, fun j => ?_, h.2.2.2.2.2⟩
  have : (1000014 : Nat) ≠ a := by have := wf_lt h ha; omega
  show up1 μ.1 a _ 1000014 j = _
  rw [up1_n _ _ this]
  exact h.2.2.2.2.1 j
theorem wf_cpyF {G : gG} {μ : aMem} (h : wfM G μ) {a0 a sp dp n : Nat} (ha : a < mN μ) : wfM G (cpyF μ a0 a sp dp n) := by
  refine ⟨h.1, h.2.1, h.2.2.1, h.2.2.2.1, fun j => ?_, h.2.2.2.2.2⟩
  have : (1000014 : Nat) ≠ a := by have := wf_lt h ha; omega
  show up1 μ.1 a _ 1000014 j = _
  rw [up1_n _ _ this]
  exact h.2.2.2.2.1 j
theorem wf_setJ {G : gG} {μ : aMem} (h : wfM G μ) {a k : Nat} {v : Int64} : wfM G (setJ μ a k v) := h
theorem up2_le {f : Nat → Nat → Nat} {n a k v : Nat} (h : ∀ b j, f b j ≤ n) (hv : v ≤ n) (b j : Nat) : up1 f a (up1 (f a) k v) b j ≤ n := by
  by_cases e : b = a
  · subst e
    rw [up1_s]
    by_cases e2 : j = k
    · subst e2; rw [up1_s]; exact hv
    · rw [up1_n _ _ e2]; exact h _ _
  · rw [up1_n _ _ e]; exact h _ _
theorem wf_setR {G : gG} {μ : aMem} (h : wfM G μ) {a k v : Nat} (hv : v ≤ 999999) : wfM G (setR μ a k v) := ⟨h.1, h.2.1, h.2.2.1, h.2.2.2.1, h.2.2.2.2.1, up2_le h.2.2.2.2.2 hv⟩
theorem wf_newC {G : gG} {μ : aMem} (h : wfM G μ) {kd n : Nat} (hk : kd < 16) (hN : mN μ < 900000) : wfM G (newC μ kd n) := by
  refine ⟨hN, fun a ha => ?_, fun a ha hb => ?_, ?_, fun j => ?_, fun a k => ?_⟩
  · show (up1 (mS μ) (mN μ) (kd, n) a).1 < 16
    by_cases e : a = mN μ
    · rw [e, up1_s]; exact hk
    · rw [up1_n _ _ e]
      exact h.2.1 a (by have : a < mN μ + 1 := ha; omega)
  · show 20 ≤ (up1 (mS μ) (mN μ) (kd, n) a).1
    have ha' : mN μ + 1 ≤ a := ha
    rw [up1_n _ _ (by omega)]
    exact h.2.2.1 a (by omega) hb
  · show up1 (mS μ) (mN μ) (kd, n) 1000014 = _
    rw [up1_n _ _ (by omega)]
    exact h.2.2.2.1
  · show up1 μ.1 (mN μ) _ 1000014 j = _
    rw [up1_n _ _ (by omega)]
    exact h.2.2.2.2.1 j
  · show up1 μ.2.2.1 (mN μ) (fun _ => 999999) a k ≤ _
    by_cases e : a = mN μ
    · rw [e, up1_s]; exact Nat.le_refl _
    · rw [up1_n _ _ e]; exact h.2.2.2.2.2 a k
-- values
theorem cv_cat {G : gG} (hV : ∀ a, gV G a = .null ∨ ∃ q, gV G a = .ref q) (v : Value) : (cv G v).category = v.category := by
  cases v with
  | ref a =>
    show (if a < 999999 then Value.ref (gB G + a) else if a = 999999 then .null else gV G a).category = 1
    by_cases h1 : a < 999999
    · rw [if_pos h1]; rfl
    · rw [if_neg h1]
      by_cases h2 : a = 999999
      · rw [if_pos h2]; rfl
      · rw [if_neg h2]
        rcases hV a with e | ⟨q, e⟩ <;> rw [e] <;> rfl
  | _ => rfl
theorem cv_own {G : gG} {a : Nat} (h : a < 999999) : cv G (.ref a) = .ref (gB G + a) := if_pos h
theorem cv_nul {G : gG} : cv G (.ref 999999) = .null := by
  simp [cv]
theorem cv_far {G : gG} {a : Nat} (h : 1000000 ≤ a) : cv G (.ref a) = gV G a := by
  simp only [cv]
  rw [if_neg (show ¬ a < 999999 by omega), if_neg (show ¬ a = 999999 by omega)]
theorem cv_rop {G : gG} {a : Nat} (h : a ≤ 999999) : cv G (.ref a) = va_rf (rop G a) := by
  unfold rop
  by_cases h1 : a < 999999
  · rw [cv_own h1, if_pos h1]; rfl
  · have : a = 999999 := by omega
    subst this
    rw [cv_nul, if_neg h1]; rfl
theorem cat_map {G : gG} (hV : ∀ a, gV G a = .null ∨ ∃ q, gV G a = .ref q) (st : List Value) : ((st.map (cv G)).map fun v => v.category).sum = cat st := by
  rw [List.map_map]
  show (st.map _).sum = (st.map _).sum
  congr 1
  apply List.map_congr_left
  intro v _
  exact cv_cat hV v
-- the row of the method's own values
def LH (G : gG) (ls : Array Slot) (nL : Nat) (L : List Value) : Prop := ls.size = nL ∧ lv_wf ls ∧ L.length = nL ∧ ∀ (i : Nat) (v : Value), L[i]? = some v → (∀ n, v ≠ .retAddr n) → ls[i]? = some (.val (cv G v))
def lvOf (G : gG) (L : List Value) : List (Nat × Value) := (List.range L.length).filterMap fun i => match (L[i]? : Option Value) with
  | some (.retAddr _) => none
  | some v => some (i, cv G v)
  | none => none
theorem lvOf_mem {G : gG} {L : List Value} {i : Nat} {v : Value} (h : L[i]? = some v) (hv : ∀ n, v ≠ .retAddr n) : (i, cv G v) ∈ lvOf G L := by
  unfold lvOf
  rw [List.mem_filterMap]
  refine ⟨i, List.mem_range.mpr (List.getElem?_eq_some_iff.mp h).1, ?_⟩
  rw [h]
  cases v with
  | retAddr n => exact absurd rfl (hv n)
  | _ => rfl
theorem lvOf_inv {G : gG} {L : List Value} {q : Nat × Value} (h : q ∈ lvOf G L) : ∃ v, L[q.1]? = some v ∧ (∀ n, v ≠ .retAddr n) ∧ q.2 = cv G v := by
  unfold lvOf at h
  rw [List.mem_filterMap] at h
  obtain ⟨i, -, hi⟩ := h
  cases hL : L[i]? with
  | none => rw [hL] at hi; cases hi
  | some v =>
    rw [hL] at hi
    cases v with
    | retAddr n => cases hi
    | _ => cases hi; exact ⟨_, hL, fun n e => (by cases e), rfl⟩
theorem LH.lv {G : gG} {ls : Array Slot} {nL : Nat} {L : List Value} (h : LH G ls nL L) : lv_has ls nL (lvOf G L) := by
  refine ⟨h.1, h.2.1, fun q hq => ?_⟩
  obtain ⟨v, h1, h2, h3⟩ := lvOf_inv hq
  rw [h3]
  exact h.2.2.2 _ _ h1 h2
theorem kil_len (L : List Value) (i : Nat) : (kil L i).length = L.length := by
  unfold kil
  split
  · rfl
  · split
    · split
      · simp
      · rfl
    · rfl
theorem kil_get {L : List Value} {i j : Nat} {w : Value} (hw : ∀ n, w ≠ .retAddr n) (h : (kil L i)[j]? = some w) : L[j]? = some w ∧ ¬ (j + 1 = i ∧ w.category = 2) := by
  unfold kil at h
  split at h
  · exact ⟨h, fun q => absurd q.1 (by omega)⟩
  · rename_i i'
    split at h
    · rename_i w' hw'
      split at h
      · rename_i hc
        rw [List.getElem?_set] at h
        by_cases hj : i' = j
        · rw [if_pos hj] at h
          split at h
          · exact absurd (Option.some.inj h).symm (hw 0)
          · cases h
        · rw [if_neg hj] at h
          exact ⟨h, fun q => hj (by omega)⟩
      · rename_i hc
        refine ⟨h, fun q => ?_⟩
        have : i' = j := by omega
        subst this
        rw [hw'] at h
        cases h
        exact hc q.2
    · rename_i hn
      refine ⟨h, fun q => ?_⟩
      have : i' = j := by omega
      subst this
      rw [hn] at h
      cases h
theorem LH.st1 {G : gG} (hV : ∀ a, gV G a = .null ∨ ∃ q, gV G a = .ref q) {ls' : Array Slot} {nL i : Nat} {L : List Value} {v : Value} (hL : L.length = nL) (h : lv_has ls' nL ((i, cv G v) :: (lvOf G L).filter (fun q => !(q.1 == i) && !(q.1 + 1 == i && q.2.category == 2)))) : LH G ls' nL (sto1 L i v) := by
  refine ⟨h.1, h.2.1, by simp [sto1, kil_len, hL], fun j w hj hw => ?_⟩
  unfold sto1 at hj
  rw [List.getElem?_set] at hj
  by_cases e : i = j
  · rw [if_pos e] at hj
    split at hj
    · cases hj
      subst e
      exact h.2.2 (i, cv G v) List.mem_cons_self
    · cases hj
  · rw [if_neg e] at hj
    obtain ⟨h1, h2⟩ := kil_get hw hj
    refine h.2.2 (j, cv G w) (List.mem_cons_of_mem _ (List.mem_filter.mpr ⟨lvOf_mem h1 hw, ?_⟩))
    simp only [Bool.and_eq_true, Bool.not_eq_true', beq_eq_false_iff_ne, ne_eq, Bool.and_eq_false_imp, beq_iff_eq]
    exact ⟨fun q => e q.symm, fun q1 q2 => h2 ⟨q1, by rw [cv_cat hV] at q2; exact q2⟩⟩
theorem LH.st2 {G : gG} (hV : ∀ a, gV G a = .null ∨ ∃ q, gV G a = .ref q) {ls' : Array Slot} {nL i : Nat} {L : List Value} {v : Value} (hL : L.length = nL) (h : lv_has ls' nL ((i, cv G v) :: (lvOf G L).filter (fun q => !(q.1 == i) && (!(q.1 == i + 1) && !(q.1 + 1 == i && q.2.category == 2))))) : LH G ls' nL (sto2 L i v) := by
  refine ⟨h.1, h.2.1, by simp [sto2, kil_len, hL], fun j w hj hw => ?_⟩
  unfold sto2 at hj
  rw [List.getElem?_set] at hj
  by_cases e : i = j
  · rw [if_pos e] at hj
    split at hj
    · cases hj
      subst e
      exact h.2.2 (i, cv G v) List.mem_cons_self
    · cases hj
  · rw [if_neg e, List.getElem?_set] at hj
    by_cases e2 : i + 1 = j
    · rw [if_pos e2] at hj
      split at hj
      · exact absurd (Option.some.inj hj).symm (hw 0)
      · cases hj
    · rw [if_neg e2] at hj
      obtain ⟨h1, h2⟩ := kil_get hw hj
      refine h.2.2 (j, cv G w) (List.mem_cons_of_mem _ (List.mem_filter.mpr ⟨lvOf_mem h1 hw, ?_⟩))
      simp only [Bool.and_eq_true, Bool.not_eq_true', beq_eq_false_iff_ne, ne_eq, Bool.and_eq_false_imp, beq_iff_eq]
      exact ⟨fun q => e q.symm, fun q => e2 q.symm, fun q1 q2 => h2 ⟨q1, by rw [cv_cat hV] at q2; exact q2⟩⟩
theorem LH.at {G : gG} {ls : Array Slot} {nL i : Nat} {L : List Value} {v : Value} (h : LH G ls nL L) (hi : L[i]? = some v) (hv : ∀ n, v ≠ .retAddr n) : ls[i]? = some (.val (cv G v)) := h.2.2.2 i v hi hv
