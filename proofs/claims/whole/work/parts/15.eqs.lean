/-! EQUATIONS of the abstract machine over this program. -/
abbrev mx0 (y : Nat) : Nat := (Mt y).2.2.1
def rk (t : Option FieldType) : Nat := match t with
  | none => 3
  | some .long => 1
  | some (.object _) => 2
  | some (.array _) => 2
  | some _ => 0
def rtOK (k : Nat) (r : Option Value) : Prop := (k = 0 → ∃ x, r = some (.int x)) ∧ (k = 1 → ∃ x, r = some (.long x)) ∧ (k = 2 → ∃ x, r = some (.ref x)) ∧ (k = 3 → r = none)
set_option maxHeartbeats 4000000 in
theorem ret_rt {M : Nat → MI} {nM y pc : Nat} {L st : List Value} {μ : aMem} {e : aEnt} {r1 : Option Value} {μ1 : aMem} (hg : gdl M nM y pc e = true) (hs : astep e pc L st μ = some (.inr (.inl (r1, μ1)))) : rtOK (rk (M y).2.2.2.1) r1 := by
  obtain ⟨i, n, a, b, c, k, w⟩ := e
  cases i
  case ireturn =>
    replace hg : (decide (n = 1) && decide ((M y).2.2.2.1 = some (if a = 0 then .int else if a = 1 then .boolean else if a = 2 then .char else .byte))) = true := hg
    rw [Bool.and_eq_true, decide_eq_true_eq, decide_eq_true_eq] at hg
    rw [hg.2]
    have h0 : rk (some (if a = 0 then .int else if a = 1 then .boolean else if a = 2 then .char else .byte)) = 0 := by
      split
      · rfl
      · split
        · rfl
        · split <;> rfl
    rw [h0]
    simp only [astep] at hs
    split at hs
    · obtain ⟨ho, h0⟩ := if_inv hs
      cases h0
      exact ⟨fun _ => ⟨_, rfl⟩, fun h => absurd h (by decide), fun h => absurd h (by decide), fun h => absurd h (by decide)⟩
    · cases hs
  case lreturn =>
    replace hg : (decide (n = 1) && decide ((M y).2.2.2.1 = some .long)) = true := hg
    rw [Bool.and_eq_true, decide_eq_true_eq, decide_eq_true_eq] at hg
    rw [hg.2]
    simp only [astep] at hs
    split at hs
    · cases hs
      exact ⟨fun h => absurd h (by decide), fun _ => ⟨_, rfl⟩, fun h => absurd h (by decide), fun h => absurd h (by decide)⟩
    · cases hs
  case areturn =>
    replace hg : (decide (n = 1) && (match (M y).2.2.2.1 with
      | some t => isR t
      | none => false)) = true := hg
    rw [Bool.and_eq_true] at hg
    obtain ⟨-, hg⟩ := hg
    split at hg
    · rename_i t ht
      rw [ht]
      have h0 : rk (some t) = 2 := by cases t <;> first | rfl | cases hg
      rw [h0]
      simp only [astep] at hs
      split at hs
      · obtain ⟨ho, h0⟩ := if_inv hs
        cases h0
        exact ⟨fun h => absurd h (by decide), fun h => absurd h (by decide), fun _ => ⟨_, rfl⟩, fun h => absurd h (by decide)⟩
      · cases hs
    · cases hg
  case return_ =>
    replace hg : (decide (n = 1) && decide ((M y).2.2.2.1 = none)) = true := hg
    rw [Bool.and_eq_true, decide_eq_true_eq, decide_eq_true_eq] at hg
    rw [hg.2]
    simp only [astep] at hs
    split at hs
    · cases hs
      exact ⟨fun h => absurd h (by decide), fun h => absurd h (by decide), fun h => absurd h (by decide), fun _ => rfl⟩
    · cases hs
  all_goals first | (cases hg; done) | (exfalso; simp only [astep, acall, p1i, p2i, p2l, p1r, pir, ldI, ldJ, ldR, nx] at hs; (repeat' split at hs) <;> cases hs)
theorem run_rt : ∀ (f d y : Nat) (q : aCfg) (r : aRes), run fe0 mx0 f d y q = some r → rtOK (rk (Mt y).2.2.2.1) r.1
  | 0, d, y, q, r, h => by simp [run] at h
  | f + 1, d, y, q, r, h => by
    have ih := run_rt f
    rw [run] at h
    cases hf : fe0 y q.1 with
    | none => rw [hf] at h; simp at h
    | some e =>
      rw [hf] at h
      dsimp only at h
      obtain ⟨hdg, hg⟩ := hfe0 y q.1 e hf
      cases hs : astep e q.1 q.2.1 q.2.2.1 q.2.2.2 with
      | none => rw [hs] at h; simp at h
      | some o =>
        rw [hs] at h
        rcases o with q' | ⟨r', μ'⟩ | ⟨y', as, q'⟩
        · exact ih _ _ _ _ h
        · dsimp only at h
          cases h
          exact ret_rt hg hs
        · cases d with
          | zero => simp at h
          | succ d' =>
            dsimp only at h
            cases he : ent as (mx0 y') with
            | none => rw [he] at h; simp at h
            | some Le =>
              rw [he] at h
              dsimp only at h
              cases hc : run fe0 mx0 f d' y' (0, Le, [], q'.2.2.2) with
              | none => rw [hc] at h; simp at h
              | some r2 =>
                rw [hc] at h
                exact ih _ _ _ _ h
theorem Rn_rt0 {d y : Nat} {q : aCfg} {r : aRes} (h : Rn d y q = some r) : rtOK (rk (Mt y).2.2.2.1) r.1 := by
  obtain ⟨f, hf⟩ := Run_some.mp h
  exact run_rt f d y q r hf
noncomputable def cI (d y : Nat) (as : List Value) (μ : aMem) : Option (Int32 × aMem) := (ent as (mx0 y)).bind fun L0 => (Rn d y (0, L0, [], μ)).bind fun r => match r with
  | (some (.int x), μ') => some (x, μ')
  | _ => none
noncomputable def cJ (d y : Nat) (as : List Value) (μ : aMem) : Option (Int64 × aMem) := (ent as (mx0 y)).bind fun L0 => (Rn d y (0, L0, [], μ)).bind fun r => match r with
  | (some (.long x), μ') => some (x, μ')
  | _ => none
noncomputable def cR (d y : Nat) (as : List Value) (μ : aMem) : Option (Nat × aMem) := (ent as (mx0 y)).bind fun L0 => (Rn d y (0, L0, [], μ)).bind fun r => match r with
  | (some (.ref x), μ') => some (x, μ')
  | _ => none
noncomputable def cV (d y : Nat) (as : List Value) (μ : aMem) : Option aMem := (ent as (mx0 y)).bind fun L0 => (Rn d y (0, L0, [], μ)).bind fun r => some r.2
theorem Rn_unf {d y pc : Nat} {L st : List Value} {μ : aMem} {e : aEnt} (hf : fe0 y pc = some e) : Rn d y (pc, L, st, μ) = kon fe0 mx0 d y (astep e pc L st μ) := Run_unf hf
section EQ
variable {d y pc y' : Nat} {L st L' st' as : List Value} {μ μ' : aMem} {e : aEnt} {q q1 q2 : aCfg}
theorem e_nx (hf : fe0 y pc = some e) (hs : astep e pc L st μ = some (.inl q)) : Rn d y (pc, L, st, μ) = Rn d y q := by rw [Rn_unf hf, hs]; rfl
theorem e_rt {r : aRes} (hf : fe0 y pc = some e) (hs : astep e pc L st μ = some (.inr (.inl r))) : Rn d y (pc, L, st, μ) = some r := by rw [Rn_unf hf, hs]; rfl
theorem e_gd {c : Prop} {hc : Decidable c} (hf : fe0 y pc = some e) (hs : astep e pc L st μ = @ite _ c hc (some (.inl q)) none) : Rn d y (pc, L, st, μ) = @ite _ c hc (Rn d y q) none := by
  rw [Rn_unf hf, hs]
  by_cases h : c
  · rw [if_pos h, if_pos h]; rfl
  · rw [if_neg h, if_neg h]; rfl
theorem e_rg {c : Prop} {hc : Decidable c} {r : aRes} (hf : fe0 y pc = some e) (hs : astep e pc L st μ = @ite _ c hc (some (.inr (.inl r))) none) : Rn d y (pc, L, st, μ) = @ite _ c hc (some r) none := by
  rw [Rn_unf hf, hs]
  by_cases h : c
  · rw [if_pos h, if_pos h]; rfl
  · rw [if_neg h, if_neg h]; rfl
theorem e_br {c : Prop} {hc : Decidable c} (hf : fe0 y pc = some e) (hs : astep e pc L st μ = some (.inl (@ite _ c hc q1 q2))) : Rn d y (pc, L, st, μ) = @ite _ c hc (Rn d y q1) (Rn d y q2) := by
  rw [Rn_unf hf, hs]
  by_cases h : c
  · rw [if_pos h, if_pos h]; rfl
  · rw [if_neg h, if_neg h]; rfl
theorem cnd_if {α : Type} {c : Jvm.ClassFile.Cond} {x z : Int32} {P : Prop} {hP : Decidable P} {a b : α} (h : cnd c x z = decide P) : (if cnd c x z = true then a else b) = @ite _ P hP a b := by
  by_cases q : P
  · rw [if_pos q, if_pos (by rw [h]; exact decide_eq_true q)]
  · rw [if_neg q, if_neg (by rw [h]; simpa using q)]
theorem e_eq {x z : Int32} (hf : fe0 y pc = some e) (hs : astep e pc L st μ = some (.inl (if cnd .eq x z = true then q1 else q2))) : Rn d y (pc, L, st, μ) = if x = z then Rn d y q1 else Rn d y q2 := (e_br hf hs).trans (cnd_if rfl)
theorem e_ne {x z : Int32} (hf : fe0 y pc = some e) (hs : astep e pc L st μ = some (.inl (if cnd .ne x z = true then q1 else q2))) : Rn d y (pc, L, st, μ) = if x = z then Rn d y q2 else Rn d y q1 := by
  rw [e_br hf hs]
  by_cases h : x = z
  · rw [if_pos h, if_neg (by simpa [cnd] using h)]
  · rw [if_neg h, if_pos (by simpa [cnd] using h)]
theorem e_lt {x z : Int32} (hf : fe0 y pc = some e) (hs : astep e pc L st μ = some (.inl (if cnd .lt x z = true then q1 else q2))) : Rn d y (pc, L, st, μ) = if x < z then Rn d y q1 else Rn d y q2 := (e_br hf hs).trans (cnd_if rfl)
theorem e_ge {x z : Int32} (hf : fe0 y pc = some e) (hs : astep e pc L st μ = some (.inl (if cnd .ge x z = true then q1 else q2))) : Rn d y (pc, L, st, μ) = if z ≤ x then Rn d y q1 else Rn d y q2 := (e_br hf hs).trans (cnd_if rfl)
theorem e_gt {x z : Int32} (hf : fe0 y pc = some e) (hs : astep e pc L st μ = some (.inl (if cnd .gt x z = true then q1 else q2))) : Rn d y (pc, L, st, μ) = if z < x then Rn d y q1 else Rn d y q2 := (e_br hf hs).trans (cnd_if rfl)
theorem e_le {x z : Int32} (hf : fe0 y pc = some e) (hs : astep e pc L st μ = some (.inl (if cnd .le x z = true then q1 else q2))) : Rn d y (pc, L, st, μ) = if x ≤ z then Rn d y q1 else Rn d y q2 := (e_br hf hs).trans (cnd_if rfl)
theorem e_call (hf : fe0 y pc = some e) {q' : aCfg} (hs : astep e pc L st μ = some (.inr (.inr (y', as, q')))) : Rn (d + 1) y (pc, L, st, μ) = (ent as (mx0 y')).bind fun L0 => (Rn d y' (0, L0, [], q'.2.2.2)).bind fun r => Rn (d + 1) y (q'.1, q'.2.1, r.1.toList ++ q'.2.2.1, r.2) := by rw [Rn_unf hf, hs]; rfl
theorem c_I (ht : rk (Mt y').2.2.2.1 = 0) {q' : aCfg} : ((ent as (mx0 y')).bind fun L0 => (Rn d y' (0, L0, [], μ)).bind fun r => Rn (d + 1) y (q'.1, q'.2.1, r.1.toList ++ q'.2.2.1, r.2)) = (cI d y' as μ).bind fun p => Rn (d + 1) y (q'.1, q'.2.1, .int p.1 :: q'.2.2.1, p.2) := by
  unfold cI
  cases ent as (mx0 y') with
  | none => rfl
  | some L0 =>
    show (Rn d y' (0, L0, [], μ)).bind _ = ((Rn d y' (0, L0, [], μ)).bind _).bind _
    cases hr : Rn d y' (0, L0, [], μ) with
    | none => rfl
    | some r =>
      obtain ⟨x, hx⟩ := (Rn_rt0 hr).1 ht
      obtain ⟨r1, r2⟩ := r
      dsimp only at hx
      subst hx
      rfl
theorem c_J (ht : rk (Mt y').2.2.2.1 = 1) {q' : aCfg} : ((ent as (mx0 y')).bind fun L0 => (Rn d y' (0, L0, [], μ)).bind fun r => Rn (d + 1) y (q'.1, q'.2.1, r.1.toList ++ q'.2.2.1, r.2)) = (cJ d y' as μ).bind fun p => Rn (d + 1) y (q'.1, q'.2.1, .long p.1 :: q'.2.2.1, p.2) := by
  unfold cJ
  cases ent as (mx0 y') with
  | none => rfl
  | some L0 =>
    show (Rn d y' (0, L0, [], μ)).bind _ = ((Rn d y' (0, L0, [], μ)).bind _).bind _
    cases hr : Rn d y' (0, L0, [], μ) with
    | none => rfl
    | some r =>
      obtain ⟨x, hx⟩ := (Rn_rt0 hr).2.1 ht
      obtain ⟨r1, r2⟩ := r
      dsimp only at hx
      subst hx
      rfl
theorem c_R (ht : rk (Mt y').2.2.2.1 = 2) {q' : aCfg} : ((ent as (mx0 y')).bind fun L0 => (Rn d y' (0, L0, [], μ)).bind fun r => Rn (d + 1) y (q'.1, q'.2.1, r.1.toList ++ q'.2.2.1, r.2)) = (cR d y' as μ).bind fun p => Rn (d + 1) y (q'.1, q'.2.1, .ref p.1 :: q'.2.2.1, p.2) := by
  unfold cR
  cases ent as (mx0 y') with
  | none => rfl
  | some L0 =>
    show (Rn d y' (0, L0, [], μ)).bind _ = ((Rn d y' (0, L0, [], μ)).bind _).bind _
    cases hr : Rn d y' (0, L0, [], μ) with
    | none => rfl
    | some r =>
      obtain ⟨x, hx⟩ := (Rn_rt0 hr).2.2.1 ht
      obtain ⟨r1, r2⟩ := r
      dsimp only at hx
      subst hx
      rfl
theorem c_V (ht : rk (Mt y').2.2.2.1 = 3) {q' : aCfg} : ((ent as (mx0 y')).bind fun L0 => (Rn d y' (0, L0, [], μ)).bind fun r => Rn (d + 1) y (q'.1, q'.2.1, r.1.toList ++ q'.2.2.1, r.2)) = (cV d y' as μ).bind fun p => Rn (d + 1) y (q'.1, q'.2.1, q'.2.2.1, p) := by
  unfold cV
  cases ent as (mx0 y') with
  | none => rfl
  | some L0 =>
    show (Rn d y' (0, L0, [], μ)).bind _ = ((Rn d y' (0, L0, [], μ)).bind _).bind _
    cases hr : Rn d y' (0, L0, [], μ) with
    | none => rfl
    | some r =>
      have hx := (Rn_rt0 hr).2.2.2 ht
      obtain ⟨r1, r2⟩ := r
      dsimp only at hx
      subst hx
      rfl
theorem e_cI {pc' : Nat} (hf : fe0 y pc = some e) (hs : astep e pc L st μ = some (.inr (.inr (y', as, (pc', L', st', μ'))))) (ht : rk (Mt y').2.2.2.1 = 0) : Rn (d + 1) y (pc, L, st, μ) = (cI d y' as μ').bind fun p => Rn (d + 1) y (pc', L', .int p.1 :: st', p.2) := (e_call hf hs).trans (c_I ht (q' := (pc', L', st', μ')))
theorem e_cJ {pc' : Nat} (hf : fe0 y pc = some e) (hs : astep e pc L st μ = some (.inr (.inr (y', as, (pc', L', st', μ'))))) (ht : rk (Mt y').2.2.2.1 = 1) : Rn (d + 1) y (pc, L, st, μ) = (cJ d y' as μ').bind fun p => Rn (d + 1) y (pc', L', .long p.1 :: st', p.2) := (e_call hf hs).trans (c_J ht (q' := (pc', L', st', μ')))
theorem e_cR {pc' : Nat} (hf : fe0 y pc = some e) (hs : astep e pc L st μ = some (.inr (.inr (y', as, (pc', L', st', μ'))))) (ht : rk (Mt y').2.2.2.1 = 2) : Rn (d + 1) y (pc, L, st, μ) = (cR d y' as μ').bind fun p => Rn (d + 1) y (pc', L', .ref p.1 :: st', p.2) := (e_call hf hs).trans (c_R ht (q' := (pc', L', st', μ')))
theorem e_cV {pc' : Nat} (hf : fe0 y pc = some e) (hs : astep e pc L st μ = some (.inr (.inr (y', as, (pc', L', st', μ'))))) (ht : rk (Mt y').2.2.2.1 = 3) : Rn (d + 1) y (pc, L, st, μ) = (cV d y' as μ').bind fun p => Rn (d + 1) y (pc', L', st', p) := (e_call hf hs).trans (c_V ht (q' := (pc', L', st', μ')))
theorem e_gcall {c : Prop} {hc : Decidable c} {q' : aCfg} (hf : fe0 y pc = some e) (hs : astep e pc L st μ = @ite _ c hc (some (.inr (.inr (y', as, q')))) none) : Rn (d + 1) y (pc, L, st, μ) = @ite _ c hc ((ent as (mx0 y')).bind fun L0 => (Rn d y' (0, L0, [], q'.2.2.2)).bind fun r => Rn (d + 1) y (q'.1, q'.2.1, r.1.toList ++ q'.2.2.1, r.2)) none := by
  rw [Rn_unf hf, hs]
  by_cases h : c
  · rw [if_pos h, if_pos h]; rfl
  · rw [if_neg h, if_neg h]; rfl
theorem g_congr {α : Type} {c c' : Prop} {h1 : Decidable c} {h2 : Decidable c'} {a b : Option α} (h : c ↔ c') (k : c' → a = b) : @ite _ c h1 a none = @ite _ c' h2 b none := by
  by_cases q : c
  · rw [if_pos q, if_pos (h.mp q)]; exact k (h.mp q)
  · rw [if_neg q, if_neg (fun x => q (h.mpr x))]
theorem b_congr {α : Type} {c : Prop} {h1 : Decidable c} {a b a' b' : α} (k1 : c → a = a') (k2 : ¬ c → b = b') : @ite _ c h1 a b = @ite _ c h1 a' b' := by
  by_cases q : c
  · rw [if_pos q, if_pos q]; exact k1 q
  · rw [if_neg q, if_neg q]; exact k2 q
theorem m_congr {α β : Type} {x : Option α} {f g : α → Option β} (k : ∀ p, f p = g p) : x.bind f = x.bind g := by
  cases x with
  | none => rfl
  | some a => exact k a
theorem v_c {A B C D : Prop} (h1 : B) (h2 : C) (h3 : D) : (A ∧ B ∧ C ∧ D) ↔ A := ⟨fun h => h.1, fun h => ⟨h, h1, h2, h3⟩⟩
theorem v_c2 {A B C D : Prop} (h2 : C) (h3 : D) : (A ∧ B ∧ C ∧ D) ↔ (A ∧ B) := ⟨fun h => ⟨h.1, h.2.1⟩, fun h => ⟨h.1, h.2, h2, h3⟩⟩
theorem v_c3 {A B C : Prop} (h2 : B) (h3 : C) : (A ∧ B ∧ C) ↔ A := ⟨fun h => h.1, fun h => ⟨h, h2, h3⟩⟩
theorem cI_of {x : Int32} {L0 : List Value} (he : ent as (mx0 y) = some L0) (h : Rn d y (0, L0, [], μ) = some (some (.int x), μ')) : cI d y as μ = some (x, μ') := by unfold cI; rw [he]; show (Rn d y (0, L0, [], μ)).bind _ = _; rw [h]; rfl
theorem cJ_of {x : Int64} {L0 : List Value} (he : ent as (mx0 y) = some L0) (h : Rn d y (0, L0, [], μ) = some (some (.long x), μ')) : cJ d y as μ = some (x, μ') := by unfold cJ; rw [he]; show (Rn d y (0, L0, [], μ)).bind _ = _; rw [h]; rfl
theorem cR_of {x : Nat} {L0 : List Value} (he : ent as (mx0 y) = some L0) (h : Rn d y (0, L0, [], μ) = some (some (.ref x), μ')) : cR d y as μ = some (x, μ') := by unfold cR; rw [he]; show (Rn d y (0, L0, [], μ)).bind _ = _; rw [h]; rfl
theorem cV_of {r : Option Value} {L0 : List Value} (he : ent as (mx0 y) = some L0) (h : Rn d y (0, L0, [], μ) = some (r, μ')) : cV d y as μ = some μ' := by unfold cV; rw [he]; show (Rn d y (0, L0, [], μ)).bind _ = _; rw [h]; rfl
end EQ
