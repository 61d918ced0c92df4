/-! STAFFED: between two weeks in which something comes about nothing does. -/
section STJ
variable {A ln : Nat → Nat} {n wk p p2 cl : Nat} {S : wSt}
abbrev wIv (ln : Nat → Nat) (n wk : Nat) (S : wSt) : Prop := (∀ k, k < n → S.1 k = true → 0 < ln k) ∧ (∀ k, n ≤ k → S.1 k = false ∧ S.2.2 k = false) ∧ ∀ k, k < n → S.1 k = true → S.2.1 k ≤ wk + 999
theorem und_ex (hD : ∀ k, n ≤ k → wDn A ln n wk S k = false) (ha : ¬ wAl n (wDn A ln n wk S)) : ∃ k, k < n ∧ wDn A ln n wk S k = false ∧ ∀ j, j < k → wDn A ln n wk S j = true := by
  have h1 : ∃ k, k < n ∧ wDn A ln n wk S k = false := by
    refine Classical.byContradiction fun q => ha (fun k hk => ?_)
    by_cases c : k < n
    · rw [decide_eq_true c]
      cases e : wDn A ln n wk S k
      · exact absurd ⟨k, c, e⟩ q
      · rfl
    · rw [decide_eq_false c, hD k (by omega)]
  obtain ⟨i0, i1, i2⟩ := pk_least (fun k => k < n ∧ wDn A ln n wk S k = false) h1
  refine ⟨i0, i1.1, i1.2, fun j hj => ?_⟩
  cases e : wDn A ln n wk S j
  · exact absurd ⟨by omega, e⟩ (i2 j hj)
  · rfl
theorem fr_pos {pp c : Nat} (h1 : pp ≤ 100) (h2 : c ≤ 10) (h : nI pp - nI c ≤ 0) : pp ≤ c := by
  have q := (Int32.le_iff_toInt_le).mp h
  rw [Int32.toInt_sub, nI_toInt (by omega), nI_toInt (by omega)] at q
  have e0 : (0 : Int32).toInt = 0 := by decide
  rw [e0] at q
  have : ((pp : Int) - (c : Int)).bmod (2 ^ 32) = (pp : Int) - (c : Int) := Int.bmod_eq_of_le (by omega) (by omega)
  rw [this] at q
  omega
/-- a week in which one may begin -/
theorem zone (hA : ∀ k, k < n → A k < 2 ^ k) (hl : ∀ k, k < n → ln k ≤ 999) (n10 : n ≤ 10) {pp : Nat} (hp1 : 1 ≤ pp) (hp2 : pp ≤ 100) (I : wIv ln n wk S) :
    (∀ k, k < n → (wBg A ln n pp wk S).1 k = true → wDn A ln n wk S k = false → wk < (wBg A ln n pp wk S).2.1 k)
    ∧ (∀ k, k < n → (wBg A ln n pp wk S).1 k = true → (wBg A ln n pp wk S).2.1 k ≤ wk + 999)
    ∧ (∀ k, k < n → (wBg A ln n pp wk S).1 k = true → 0 < ln k)
    ∧ (∀ k, n ≤ k → (wBg A ln n pp wk S).1 k = false)
    ∧ (¬ wAl n (wDn A ln n wk S) → ∃ k, k < n ∧ (wBg A ln n pp wk S).1 k = true ∧ wDn A ln n wk S k = false)
    ∧ ∀ v, bgK A ln v (wDn A ln n wk S) ((wBg A ln n pp wk S).1, (wBg A ln n pp wk S).2.1, nI pp - nI (cntB (sbt (wBg A ln n pp wk S).1 (wDn A ln n wk S)))) n = wBg A ln n pp wk S := by
  obtain ⟨I1, I2, I3⟩ := I
  have hD : ∀ k, n ≤ k → wDn A ln n wk S k = false := fun k hk => by
    unfold wDn; rw [dnK_hi n hk]; exact (I2 k hk).2
  have cl0 : ∀ k, k < n → ln k = 0 → sbs (A k) (wDn A ln n wk S) → wDn A ln n wk S k = true := fun k hk h0 hs => dnK_cl hA hk h0 hs
  have ovr : ∀ k, k < n → S.1 k = true → S.2.1 k ≤ wk → wDn A ln n wk S k = true := fun k hk h1 h2 => dnK_get hk (Or.inl ⟨h1, h2⟩)
  have nw : ∀ k, (wBg A ln n pp wk S).1 k = true → (S.1 k = true ∧ (wBg A ln n pp wk S).2.1 k = S.2.1 k) ∨ (k < n ∧ wDn A ln n wk S k = false ∧ sbs (A k) (wDn A ln n wk S) ∧ (wBg A ln n pp wk S).2.1 k = wk + ln k) := fun k h => bgK_new n h
  have fr : (wBg A ln n pp wk S).2.2 = nI pp - nI (cntB (sbt (wBg A ln n pp wk S).1 (wDn A ln n wk S))) := bgK_free (i := (S.1, S.2.1, nI pp - nI (cntB (sbt S.1 (wDn A ln n wk S))))) rfl n n10
  have no : ¬ (wBg A ln n pp wk S).2.2 ≤ 0 → ∀ k, k < n → ¬ ((wBg A ln n pp wk S).1 k = false ∧ wDn A ln n wk S k = false ∧ sbs (A k) (wDn A ln n wk S)) := fun h k hk => bgK_none h hk
  generalize wDn A ln n wk S = D at *
  generalize wBg A ln n pp wk S = r at *
  have pos : ∀ k, k < n → D k = false → sbs (A k) D → 0 < ln k := fun k hk h1 h2 => by
    rcases Nat.eq_zero_or_pos (ln k) with z | z
    · rw [cl0 k hk z h2] at h1; exact absurd h1 (by decide)
    · exact z
  refine ⟨fun k hk h1 h2 => ?_, fun k hk h1 => ?_, fun k hk h1 => ?_, fun k hk => ?_, fun ha => ?_, fun v => ?_⟩
  · rcases nw k h1 with q | q
    · rw [q.2]
      refine Nat.lt_of_not_le fun z => ?_
      rw [ovr k hk q.1 z] at h2
      exact absurd h2 (by decide)
    · rw [q.2.2.2]
      have := pos k hk q.2.1 q.2.2.1
      omega
  · rcases nw k h1 with q | q
    · rw [q.2]; exact I3 k hk q.1
    · rw [q.2.2.2]; have := hl k hk; omega
  · rcases nw k h1 with q | q
    · exact I1 k hk q.1
    · exact pos k hk q.2.1 q.2.2.1
  · rw [Bool.eq_false_iff]
    intro z
    rcases nw k z with q | q
    · rw [(I2 k hk).1] at q; exact absurd q.1 (by decide)
    · omega
  · by_cases c : r.2.2 ≤ 0
    · rw [fr] at c
      have := fr_pos hp2 (by rw [cntB_F]; exact pcF_n _ 10) c
      rw [cntB_F] at this
      obtain ⟨k, h1, h2⟩ := pcF_ex 10 (show 0 < pcF (sbt r.1 D) 10 by omega)
      obtain ⟨h3, h4⟩ := sbt_t.mp h2
      refine ⟨k, ?_, h3, h4⟩
      rcases nw k h3 with q | q
      · refine Nat.lt_of_not_le fun z => ?_
        rw [(I2 k z).1] at q; exact absurd q.1 (by decide)
      · exact q.1
    · have h1 : ∃ k, k < n ∧ D k = false := by
        refine Classical.byContradiction fun q => ha (fun k hk => ?_)
        by_cases c : k < n
        · rw [decide_eq_true c]
          cases e : D k
          · exact absurd ⟨k, c, e⟩ q
          · rfl
        · rw [decide_eq_false c, hD k (by omega)]
      obtain ⟨i0, i1, i2⟩ := pk_least (fun k => k < n ∧ D k = false) h1
      refine ⟨i0, i1.1, ?_, i1.2⟩
      cases e : r.1 i0
      · refine absurd ⟨e, i1.2, fun j hj hb => ?_⟩ (no c i0 i1.1)
        by_cases z : j < i0
        · cases e2 : D j
          · exact absurd ⟨by omega, e2⟩ (i2 j z)
          · rfl
        · rw [bF_lt (hA i0 i1.1) (by omega)] at hb
          exact absurd hb (by decide)
      · rfl
  · rw [← fr]
    refine bgK_still ?_ n (Nat.le_refl _)
    by_cases c : r.2.2 ≤ 0
    · exact Or.inl c
    · exact Or.inr (no c)
def wMe (A ln : Nat → Nat) (n cl wk : Nat) (S : wSt) : Nat := pcF (fun k => !wDn A ln n wk S k) n + (if wk < cl + 3 then 1 else 0)
theorem wSp_D (A ln : Nat → Nat) (n p p2 cl wk : Nat) (S : wSt) : (wSp A ln n p p2 cl wk S).2.2 = wDn A ln n wk S := by
  unfold wSp
  split
  · rfl
  · split <;> rfl
theorem wDn_w (A ln : Nat → Nat) (n v : Nat) (b : Nat → Bool) (ov : Nat → Nat) (D : Nat → Bool) : wDn A ln n v (b, ov, D) = dnK A ln ov v b D n := rfl
theorem event (hA : ∀ k, k < n → A k < 2 ^ k) (hl : ∀ k, k < n → ln k ≤ 999) (n10 : n ≤ 10) (hp : 1 ≤ p ∧ p ≤ 100) (hp2 : 1 ≤ p2 ∧ p2 ≤ 100) (hwk : wk ≤ 900000) (I : wIv ln n wk S) (ha : ¬ wAl n (wDn A ln n wk S)) :
    wk < wNx A ln n p p2 cl wk S ∧ wNx A ln n p p2 cl wk S ≤ wk + 999 ∧ wIv ln n (wNx A ln n p p2 cl wk S) (wSp A ln n p p2 cl wk S) ∧ wMe A ln n cl (wNx A ln n p p2 cl wk S) (wSp A ln n p p2 cl wk S) < wMe A ln n cl wk S ∧ ∀ v, wk < v → v < wNx A ln n p p2 cl wk S → wDn A ln n v (wSp A ln n p p2 cl wk S) = wDn A ln n wk S ∧ wSp A ln n p p2 cl v (wSp A ln n p p2 cl wk S) = wSp A ln n p p2 cl wk S := by
  have z1 := zone hA hl n10 hp.1 hp.2 I
  have z2 := zone hA hl n10 hp2.1 hp2.2 I
  obtain ⟨I1, I2, I3⟩ := I
  have hD : ∀ k, n ≤ k → wDn A ln n wk S k = false := fun k hk => by
    unfold wDn; rw [dnK_hi n hk]; exact (I2 k hk).2
  have cl0 : ∀ k, k < n → ln k = 0 → sbs (A k) (wDn A ln n wk S) → wDn A ln n wk S k = true := fun k hk h0 hs => dnK_cl hA hk h0 hs
  have ovr : ∀ k, k < n → S.1 k = true → S.2.1 k ≤ wk → wDn A ln n wk S k = true := fun k hk h1 h2 => dnK_get hk (Or.inl ⟨h1, h2⟩)
  have e0 := wSp_D A ln n p p2 cl wk S
  -- what the step gives, in every week
  have Q : (∀ k, k < n → (wSp A ln n p p2 cl wk S).1 k = true → wDn A ln n wk S k = false → wk < (wSp A ln n p p2 cl wk S).2.1 k)
      ∧ (∀ k, k < n → (wSp A ln n p p2 cl wk S).1 k = true → (wSp A ln n p p2 cl wk S).2.1 k ≤ wk + 999)
      ∧ (∀ k, k < n → (wSp A ln n p p2 cl wk S).1 k = true → 0 < ln k)
      ∧ (∀ k, n ≤ k → (wSp A ln n p p2 cl wk S).1 k = false)
      ∧ ((∃ k, k < n ∧ (wSp A ln n p p2 cl wk S).1 k = true ∧ wDn A ln n wk S k = false) ∨ (cl ≤ wk ∧ wk < cl + 3))
      ∧ ∀ v, wk < v → (v < cl + 3 ∨ cl + 3 ≤ wk) → wDn A ln n v (wSp A ln n p p2 cl wk S) = wDn A ln n wk S → wSp A ln n p p2 cl v (wSp A ln n p p2 cl wk S) = wSp A ln n p p2 cl wk S := by
    by_cases c1 : wk < cl
    · have es : wSp A ln n p p2 cl wk S = ((wBg A ln n p wk S).1, (wBg A ln n p wk S).2.1, wDn A ln n wk S) := by unfold wSp; rw [if_pos c1]
      rw [es]
      obtain ⟨a1, a2, a3, a4, a5, a6⟩ := z1
      refine ⟨a1, a2, a3, a4, Or.inl (a5 ha), fun v h1 h2 h3 => ?_⟩
      by_cases c2 : v < cl
      · have : wBg A ln n p v ((wBg A ln n p wk S).1, (wBg A ln n p wk S).2.1, wDn A ln n wk S) = wBg A ln n p wk S := by
          show bgK A ln v (wDn A ln n v _) (_, _, nI p - nI (cntB (sbt _ (wDn A ln n v _)))) n = _
          rw [h3]; exact a6 v
        conv => lhs; unfold wSp
        rw [if_pos c2, this, h3]
      · conv => lhs; unfold wSp
        rw [if_neg c2, if_neg (by omega), h3]
    · by_cases c2 : cl + 3 ≤ wk
      · have es : wSp A ln n p p2 cl wk S = ((wBg A ln n p2 wk S).1, (wBg A ln n p2 wk S).2.1, wDn A ln n wk S) := by unfold wSp; rw [if_neg c1, if_pos c2]
        rw [es]
        obtain ⟨a1, a2, a3, a4, a5, a6⟩ := z2
        refine ⟨a1, a2, a3, a4, Or.inl (a5 ha), fun v h1 h2 h3 => ?_⟩
        have : wBg A ln n p2 v ((wBg A ln n p2 wk S).1, (wBg A ln n p2 wk S).2.1, wDn A ln n wk S) = wBg A ln n p2 wk S := by
          show bgK A ln v (wDn A ln n v _) (_, _, nI p2 - nI (cntB (sbt _ (wDn A ln n v _)))) n = _
          rw [h3]; exact a6 v
        conv => lhs; unfold wSp
        rw [if_neg (by omega), if_pos (by omega), this, h3]
      · have es : wSp A ln n p p2 cl wk S = (S.1, S.2.1, wDn A ln n wk S) := by unfold wSp; rw [if_neg c1, if_neg c2]
        rw [es]
        refine ⟨fun k hk h1 h2 => Nat.lt_of_not_le fun z => ?_, I3, I1, fun k hk => (I2 k hk).1, Or.inr ⟨by omega, by omega⟩, fun v h1 h2 h3 => ?_⟩
        · rw [ovr k hk h1 z] at h2
          exact absurd h2 (by decide)
        · conv => lhs; unfold wSp
          rw [if_neg (by omega), if_neg (by omega), h3]
  obtain ⟨Q1, Q2, Q3, Q4, Q5, Q6⟩ := Q
  have enx : wNx A ln n p p2 cl wk S = nwK (sbt (wSp A ln n p p2 cl wk S).1 (wDn A ln n wk S)) (wSp A ln n p p2 cl wk S).2.1 (if cl + 3 ≤ wk then 1000000 else cl + 3) n := rfl
  have nx_le : ∀ k, k < n → (wSp A ln n p p2 cl wk S).1 k = true → wDn A ln n wk S k = false → wNx A ln n p p2 cl wk S ≤ (wSp A ln n p p2 cl wk S).2.1 k := fun k hk h1 h2 => nwK_run (sbt_t.mpr ⟨h1, h2⟩) n hk
  have nx_x : wNx A ln n p p2 cl wk S ≤ if cl + 3 ≤ wk then 1000000 else cl + 3 := nwK_le n
  have nx_or : wNx A ln n p p2 cl wk S = (if cl + 3 ≤ wk then 1000000 else cl + 3) ∨ ∃ k, k < n ∧ ((wSp A ln n p p2 cl wk S).1 k = true ∧ wDn A ln n wk S k = false) ∧ wNx A ln n p p2 cl wk S = (wSp A ln n p p2 cl wk S).2.1 k := by
    rcases nwK_or (rn := sbt (wSp A ln n p p2 cl wk S).1 (wDn A ln n wk S)) (ov := (wSp A ln n p p2 cl wk S).2.1) (x := if cl + 3 ≤ wk then 1000000 else cl + 3) n with q | ⟨k, q1, q2, q3⟩
    · exact Or.inl q
    · exact Or.inr ⟨k, q1, sbt_t.mp q2, q3⟩
  have me1 : wMe A ln n cl wk S = pcF (fun k => !wDn A ln n wk S k) n + (if wk < cl + 3 then 1 else 0) := rfl
  have me2 : ∀ v, wMe A ln n cl v (wSp A ln n p p2 cl wk S) = pcF (fun k => !wDn A ln n v (wSp A ln n p p2 cl wk S) k) n + (if v < cl + 3 then 1 else 0) := fun _ => rfl
  have mon : ∀ v k, wDn A ln n wk S k = true → wDn A ln n v (wSp A ln n p p2 cl wk S) k = true := fun v k h1 => by
    unfold wDn; rw [e0]; exact dnK_mono h1 n
  have dn1 : ∀ v k, k < n → (wSp A ln n p p2 cl wk S).1 k = true → (wSp A ln n p p2 cl wk S).2.1 k ≤ v → wDn A ln n v (wSp A ln n p p2 cl wk S) k = true := fun v k hk h1 h2 => dnK_get hk (Or.inl ⟨h1, h2⟩)
  have same : ∀ v, (∀ k, k < n → ((wSp A ln n p p2 cl wk S).1 k = true ∧ (wSp A ln n p p2 cl wk S).2.1 k ≤ v) ∨ (ln k = 0 ∧ sbs (A k) (wDn A ln n wk S)) → wDn A ln n wk S k = true) → wDn A ln n v (wSp A ln n p p2 cl wk S) = wDn A ln n wk S := fun v hh => by
    have : wDn A ln n v (wSp A ln n p p2 cl wk S) = dnK A ln (wSp A ln n p p2 cl wk S).2.1 v (wSp A ln n p p2 cl wk S).1 (wDn A ln n wk S) n := by rw [← e0]; rfl
    rw [this]
    exact dnK_same hh n (Nat.le_refl _)
  rw [me1, me2]
  generalize wNx A ln n p p2 cl wk S = nx at *
  generalize wSp A ln n p p2 cl wk S = S' at *
  have lt1 : wk < nx := by
    rcases nx_or with q | ⟨k, q1, q2, q3⟩
    · rw [q]; split <;> omega
    · rw [q3]; exact Q1 k q1 q2.1 q2.2
  have le1 : nx ≤ wk + 999 := by
    rcases Q5 with ⟨k, q1, q2, q3⟩ | q
    · have h1 := nx_le k q1 q2 q3
      have h2 := Q2 k q1 q2
      omega
    · rw [if_neg (by omega)] at nx_x
      omega
  refine ⟨lt1, le1, ⟨Q3, fun k hk => ⟨Q4 k hk, by rw [e0]; exact hD k hk⟩, fun k hk h1 => by have := Q2 k hk h1; omega⟩, ?_, fun v h1 h2 => ?_⟩
  · have hmo : ∀ k, k < n → (fun k => !wDn A ln n nx S' k) k = true → (fun k => !wDn A ln n wk S k) k = true := fun k hk h1 => by
      show (!wDn A ln n wk S k) = true
      have h1' : (!wDn A ln n nx S' k) = true := h1
      cases e : wDn A ln n wk S k
      · rfl
      · rw [mon nx k e] at h1'; exact absurd h1' (by decide)
    have hle := pcF_le n hmo
    rcases nx_or with q | ⟨k, q1, q2, q3⟩
    · by_cases c : cl + 3 ≤ wk
      · rw [if_pos c] at q; omega
      · rw [if_neg c] at q
        rw [if_neg (show ¬ nx < cl + 3 by omega), if_pos (show wk < cl + 3 by omega)]
        omega
    · have hlt := pcF_lt n hmo ⟨k, q1, by show (!wDn A ln n nx S' k) = false; rw [dn1 nx k q1 q2.1 (by omega)]; rfl, by show (!wDn A ln n wk S k) = true; rw [q2.2]; rfl⟩
      by_cases c : wk < cl + 3
      · rw [if_pos c]; split <;> omega
      · rw [if_neg c, if_neg (by omega)]; omega
  · have hs : wDn A ln n v S' = wDn A ln n wk S := by
      refine same v (fun k hk q => ?_)
      rcases q with q | q
      · cases e : wDn A ln n wk S k
        · have := nx_le k hk q.1 e
          omega
        · rfl
      · exact cl0 k hk q.1 q.2
    refine ⟨hs, Q6 v h1 ?_ hs⟩
    by_cases c : cl + 3 ≤ wk
    · exact Or.inr c
    · rw [if_neg c] at nx_x
      exact Or.inl (by omega)
end STJ
