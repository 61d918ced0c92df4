/-- a place of a row of ints, of bytes; how long a row is -/
def rdI (μ : aMem) (o : Nat) (j : Int32) : Option Int32 := if (mS μ o).1 = 10 ∨ (mS μ o).1 = 18 then (if inb j (mS μ o).2 then some (mF μ o (ix j)) else none)
  else if o = 1000000 ∨ o = 1000001 then (if inb j (sI o).length then some ((sI o).getD (ix j) 0) else none) else none
def rdB (o : Nat) (j : Int32) : Option Int32 := if 1000008 ≤ o ∧ o < 1000014 then (if inb j (sTx.getD (o - 1000008) []).length then some ((sTx.getD (o - 1000008) []).getD (ix j) 0) else none) else none
def rdL (μ : aMem) (o : Nat) : Option Int32 := if 10 ≤ (mS μ o).1 ∧ (mS μ o).1 < 16 ∨ (mS μ o).1 = 18 then some (Int32.ofNat (mS μ o).2)
  else if o = 1000000 ∨ o = 1000001 then some (Int32.ofNat (sI o).length)
  else if 1000008 ≤ o ∧ o < 1000014 then some (Int32.ofNat (sTx.getD (o - 1000008) []).length) else none
theorem lk_app : ∀ (a b : List (Nat × aEnt)) (pc : Nat), lk (a ++ b) pc = (lk a pc).or (lk b pc)
  | [], b, pc => rfl
  | (p, e) :: t, b, pc => by
    show (if p = pc then some e else lk (t ++ b) pc) = (if p = pc then some e else lk t pc).or (lk b pc)
    by_cases h : p = pc
    · rw [if_pos h, if_pos h]; rfl
    · rw [if_neg h, if_neg h]; exact lk_app t b pc
theorem lk_lt {l : List (Nat × aEnt)} {n pc : Nat} (h : l.all (fun q => decide (q.1 < n)) = true) (hp : n ≤ pc) : lk l pc = none := by
  cases hl : lk l pc with
  | none => rfl
  | some e =>
    have := List.all_eq_true.mp h _ (lk_mem hl)
    rw [decide_eq_true_eq] at this
    dsimp only at this
    omega
section EQT
variable {d y pc n o : Nat} {L st r : List Value} {μ : aMem} {e : aEnt} {q q1 q2 : aCfg} {aux : Nat × Nat × Nat × Nat × Nat} {x j : Int32}
theorem e_ia (hf : fe0 y pc = some (.iaload, n, aux)) : Rn d y (pc, L, .int j :: .ref o :: r, μ) = (rdI μ o j).bind fun v => Rn d y (pc + n, L, .int v :: r, μ) := by
  rw [Rn_unf hf]
  obtain ⟨a, b, c, k, w⟩ := aux
  show kon fe0 mx0 d y (if (mS μ o).1 = 10 ∨ (mS μ o).1 = 18 then (if inb j (mS μ o).2 then nx (pc + n) L (.int (mF μ o (ix j)) :: r) μ else none)
      else if o = 1000000 ∨ o = 1000001 then (if inb j (sI o).length then nx (pc + n) L (.int ((sI o).getD (ix j) 0) :: r) μ else none) else none) = _
  unfold rdI
  repeat' split
  all_goals rfl
theorem e_ba (hf : fe0 y pc = some (.baload, n, aux)) : Rn d y (pc, L, .int j :: .ref o :: r, μ) = (rdB o j).bind fun v => Rn d y (pc + n, L, .int v :: r, μ) := by
  rw [Rn_unf hf]
  obtain ⟨a, b, c, k, w⟩ := aux
  show kon fe0 mx0 d y (if 1000008 ≤ o ∧ o < 1000014 then (if inb j (sTx.getD (o - 1000008) []).length then nx (pc + n) L (.int ((sTx.getD (o - 1000008) []).getD (ix j) 0) :: r) μ else none) else none) = _
  unfold rdB
  repeat' split
  all_goals rfl
theorem e_al (hf : fe0 y pc = some (.arraylength, n, aux)) : Rn d y (pc, L, .ref o :: r, μ) = (rdL μ o).bind fun v => Rn d y (pc + n, L, .int v :: r, μ) := by
  rw [Rn_unf hf]
  obtain ⟨a, b, c, k, w⟩ := aux
  show kon fe0 mx0 d y (if 10 ≤ (mS μ o).1 ∧ (mS μ o).1 < 16 ∨ (mS μ o).1 = 18 then nx (pc + n) L (.int (Int32.ofNat (mS μ o).2) :: r) μ
      else if o = 1000000 ∨ o = 1000001 then nx (pc + n) L (.int (Int32.ofNat (sI o).length) :: r) μ
      else if 1000008 ≤ o ∧ o < 1000014 then nx (pc + n) L (.int (Int32.ofNat (sTx.getD (o - 1000008) []).length) :: r) μ else none) = _
  unfold rdL
  repeat' split
  all_goals rfl
theorem e_gb {c c2 : Prop} {hc : Decidable c} {hc2 : Decidable c2} (hf : fe0 y pc = some e) (hs : astep e pc L st μ = @ite _ c hc (some (.inl (@ite _ c2 hc2 q1 q2))) none) : Rn d y (pc, L, st, μ) = @ite _ c hc (@ite _ c2 hc2 (Rn d y q1) (Rn d y q2)) none := by
  rw [Rn_unf hf, hs]
  by_cases h : c
  · rw [if_pos h, if_pos h]
    by_cases h2 : c2
    · rw [if_pos h2, if_pos h2]; rfl
    · rw [if_neg h2, if_neg h2]; rfl
  · rw [if_neg h, if_neg h]; rfl
theorem e_gI {c : Prop} {hc : Decidable c} {pc' y' : Nat} {L' st' as : List Value} {μ' : aMem} (hf : fe0 y pc = some e) (hs : astep e pc L st μ = @ite _ c hc (some (.inr (.inr (y', as, (pc', L', st', μ'))))) none) (ht : rk (Mt y').2.2.2.1 = 0) : Rn (d + 1) y (pc, L, st, μ) = @ite _ c hc ((cI d y' as μ').bind fun p => Rn (d + 1) y (pc', L', .int p.1 :: st', p.2)) none := by
  rw [e_gcall hf hs]
  by_cases h : c
  · rw [if_pos h, if_pos h]; exact c_I ht (q' := (pc', L', st', μ'))
  · rw [if_neg h, if_neg h]
theorem e_gJ {c : Prop} {hc : Decidable c} {pc' y' : Nat} {L' st' as : List Value} {μ' : aMem} (hf : fe0 y pc = some e) (hs : astep e pc L st μ = @ite _ c hc (some (.inr (.inr (y', as, (pc', L', st', μ'))))) none) (ht : rk (Mt y').2.2.2.1 = 1) : Rn (d + 1) y (pc, L, st, μ) = @ite _ c hc ((cJ d y' as μ').bind fun p => Rn (d + 1) y (pc', L', .long p.1 :: st', p.2)) none := by
  rw [e_gcall hf hs]
  by_cases h : c
  · rw [if_pos h, if_pos h]; exact c_J ht (q' := (pc', L', st', μ'))
  · rw [if_neg h, if_neg h]
theorem e_gR {c : Prop} {hc : Decidable c} {pc' y' : Nat} {L' st' as : List Value} {μ' : aMem} (hf : fe0 y pc = some e) (hs : astep e pc L st μ = @ite _ c hc (some (.inr (.inr (y', as, (pc', L', st', μ'))))) none) (ht : rk (Mt y').2.2.2.1 = 2) : Rn (d + 1) y (pc, L, st, μ) = @ite _ c hc ((cR d y' as μ').bind fun p => Rn (d + 1) y (pc', L', .ref p.1 :: st', p.2)) none := by
  rw [e_gcall hf hs]
  by_cases h : c
  · rw [if_pos h, if_pos h]; exact c_R ht (q' := (pc', L', st', μ'))
  · rw [if_neg h, if_neg h]
theorem e_gV {c : Prop} {hc : Decidable c} {pc' y' : Nat} {L' st' as : List Value} {μ' : aMem} (hf : fe0 y pc = some e) (hs : astep e pc L st μ = @ite _ c hc (some (.inr (.inr (y', as, (pc', L', st', μ'))))) none) (ht : rk (Mt y').2.2.2.1 = 3) : Rn (d + 1) y (pc, L, st, μ) = @ite _ c hc ((cV d y' as μ').bind fun p => Rn (d + 1) y (pc', L', st', p)) none := by
  rw [e_gcall hf hs]
  by_cases h : c
  · rw [if_pos h, if_pos h]; exact c_V ht (q' := (pc', L', st', μ'))
  · rw [if_neg h, if_neg h]
theorem e_gk {c : Prop} {hc : Decidable c} (hf : fe0 y pc = some e) (h : c) (hs : astep e pc L st μ = @ite _ c hc (some (.inl q)) none) : Rn d y (pc, L, st, μ) = Rn d y q := (e_gd hf hs).trans (if_pos h)
theorem pi_iff {A P : Prop} {c : Nat} (h : c = 0) : (A ∧ (c = 0 ∨ P)) ↔ A := ⟨fun q => q.1, fun q => ⟨q, Or.inl h⟩⟩
theorem pb_iff {A X : Prop} {c : Nat} (h : c = 2) (hx : X) : (A ∧ (c = 0 ∨ (c = 2 ∧ X))) ↔ A := ⟨fun q => q.1, fun q => ⟨q, Or.inr ⟨h, hx⟩⟩⟩
theorem pr_iff {A X : Prop} {c : Nat} (h : c = 1) : (A ∧ c = 1 ∧ X) ↔ (A ∧ X) := ⟨fun q => ⟨q.1, q.2.2⟩, fun q => ⟨q.1, h, q.2⟩⟩
theorem nw_iff {A B : Prop} (h : B) : (A ∧ B) ↔ A := ⟨fun q => q.1, fun q => ⟨q, h⟩⟩
theorem na_iff {A B : Prop} (h : B) : (A ∧ B) ↔ A := ⟨fun q => q.1, fun q => ⟨q, h⟩⟩
theorem oi_iff {A B : Prop} (h : B) : (A ∧ B) ↔ A := ⟨fun q => q.1, fun q => ⟨q, h⟩⟩
theorem nb_iff {A B C D : Prop} (h : D) : (A ∧ B ∧ C ∧ D) ↔ (A ∧ B ∧ C) := ⟨fun q => ⟨q.1, q.2.1, q.2.2.1⟩, fun q => ⟨q.1, q.2.1, q.2.2, h⟩⟩
theorem ac_iff {A B C D E F G H : Prop} (h : H) : (A ∧ B ∧ C ∧ D ∧ E ∧ F ∧ G ∧ H) ↔ (A ∧ B ∧ C ∧ D ∧ E ∧ F ∧ G) := ⟨fun q => ⟨q.1, q.2.1, q.2.2.1, q.2.2.2.1, q.2.2.2.2.1, q.2.2.2.2.2.1, q.2.2.2.2.2.2.1⟩, fun q => ⟨q.1, q.2.1, q.2.2.1, q.2.2.2.1, q.2.2.2.2.1, q.2.2.2.2.2.1, q.2.2.2.2.2.2, h⟩⟩
theorem rt1_iff {P Q R : Prop} : ((1 : Nat) = 0 ∨ ((1 : Nat) = 1 ∧ P) ∨ ((1 : Nat) = 2 ∧ Q) ∨ ((1 : Nat) = 3 ∧ R)) ↔ P := ⟨fun h => by rcases h with h | h | h | h <;> first | exact h.2 | exact absurd h (by decide) | exact absurd h.1 (by decide), fun h => Or.inr (Or.inl ⟨rfl, h⟩)⟩
theorem rt2_iff {P Q R : Prop} : ((2 : Nat) = 0 ∨ ((2 : Nat) = 1 ∧ P) ∨ ((2 : Nat) = 2 ∧ Q) ∨ ((2 : Nat) = 3 ∧ R)) ↔ Q := ⟨fun h => by rcases h with h | h | h | h <;> first | exact absurd h (by decide) | exact absurd h.1 (by decide) | exact h.2, fun h => Or.inr (Or.inr (Or.inl ⟨rfl, h⟩))⟩
theorem rt3_iff {P Q R : Prop} : ((3 : Nat) = 0 ∨ ((3 : Nat) = 1 ∧ P) ∨ ((3 : Nat) = 2 ∧ Q) ∨ ((3 : Nat) = 3 ∧ R)) ↔ R := ⟨fun h => by rcases h with h | h | h | h <;> first | exact absurd h (by decide) | exact absurd h.1 (by decide) | exact h.2, fun h => Or.inr (Or.inr (Or.inr ⟨rfl, h⟩))⟩
def swI {α : Type} (x : Int32) : Nat → List α → α → α
  | _, [], df => df
  | lo, t :: ts, df => if x = Int32.ofNat lo then t else swI x (lo + 1) ts df
def lkI {α : Type} (x : Int32) : List (Nat × α) → α → α
  | [], df => df
  | (a, t) :: ts, df => if x = Int32.ofNat a then t else lkI x ts df
theorem swI_at {α : Type} {x : Int32} : ∀ (ts : List α) (lo i : Nat) (df t : α), lo + ts.length < 2 ^ 31 → ts[i]? = some t → x = Int32.ofNat (lo + i) → swI x lo ts df = t
  | [], lo, i, df, t, _, h, _ => by simp at h
  | u :: ts, lo, 0, df, t, hb, h, hx => by
    simp at h
    rw [swI, if_pos (by rw [hx, Nat.add_zero])]
    exact h
  | u :: ts, lo, i + 1, df, t, hb, h, hx => by
    simp at h hb
    have hi : i < ts.length := (List.getElem?_eq_some_iff.mp h).1
    rw [swI, if_neg (fun e => ?_)]
    · exact swI_at ts (lo + 1) i df t (by omega) h (by rw [hx]; congr 1; omega)
    · rw [hx] at e
      have h2 := (nI_eq (a := lo + (i + 1)) (b := lo) (by omega) (by omega)).mp e
      omega
theorem swI_out {α : Type} {x : Int32} : ∀ (ts : List α) (lo : Nat) (df : α), (∀ i, i < ts.length → x ≠ Int32.ofNat (lo + i)) → swI x lo ts df = df
  | [], lo, df, _ => rfl
  | u :: ts, lo, df, h => by
    rw [swI, if_neg (by have := h 0 (by simp); rwa [Nat.add_zero] at this)]
    exact swI_out ts (lo + 1) df (fun i hi => by have := h (i + 1) (by simpa using hi); rwa [show lo + (i + 1) = lo + 1 + i by omega] at this)
theorem e_tab {dd ll hh : Int} {offs : Array Int} (hf : fe0 y pc = some (.tableswitch dd ll hh offs, n, aux)) (ts : List Nat) (df lo : Nat) (h1 : offs.toList.map (tgt pc) = ts) (h2 : tgt pc dd = df) (h3 : ll = (lo : Int)) (h4 : hh = ((lo + ts.length : Nat) : Int) - 1) (h5 : lo + ts.length < 2 ^ 31) : Rn d y (pc, L, .int x :: r, μ) = swI x lo (ts.map fun t => Rn d y (t, L, r, μ)) (Rn d y (df, L, r, μ)) := by
  rw [Rn_unf hf]
  obtain ⟨a, b, c, k, w⟩ := aux
  show kon fe0 mx0 d y (if x.toInt < ll ∨ hh < x.toInt then nx (tgt pc dd) L r μ else match offs[(x.toInt - ll).toNat]? with
    | some off => nx (tgt pc off) L r μ
    | none => none) = _
  by_cases h : x.toInt < ll ∨ hh < x.toInt
  · rw [if_pos h, swI_out _ _ _ (fun i hi e => ?_), ← h2]
    · rfl
    · rw [List.length_map] at hi
      have e2 : x.toInt = ((lo + i : Nat) : Int) := by rw [e]; exact nI_toInt (by omega)
      omega
  · rw [if_neg h]
    have hlen : ts.length = offs.size := by rw [← h1]; simp
    have hi : (x.toInt - ll).toNat < offs.size := by omega
    rw [Array.getElem?_eq_getElem hi]
    have hx : x = Int32.ofNat (lo + (x.toInt - ll).toNat) := by
      apply Int32.toInt_inj.mp
      have := nI_toInt (n := lo + (x.toInt - ll).toNat) (by omega)
      unfold nI at this
      rw [this]
      omega
    rw [swI_at (ts.map fun t => Rn d y (t, L, r, μ)) lo (x.toInt - ll).toNat _ (Rn d y (tgt pc offs[(x.toInt - ll).toNat], L, r, μ)) (by rw [List.length_map]; exact h5) ?_ hx]
    · rfl
    · rw [← h1]
      simp [hi]
theorem e_lks {dd : Int} {ps : Array (Int × Int)} (hf : fe0 y pc = some (.lookupswitch dd ps, n, aux)) (ts : List (Nat × Nat)) (df : Nat) (h1 : ps.toList.map (fun q => (q.1, tgt pc q.2)) = ts.map (fun q => ((q.1 : Int), q.2))) (h2 : tgt pc dd = df) (h3 : ∀ q ∈ ts, q.1 < 2 ^ 31) : Rn d y (pc, L, .int x :: r, μ) = lkI x (ts.map fun q => (q.1, Rn d y (q.2, L, r, μ))) (Rn d y (df, L, r, μ)) := by
  rw [Rn_unf hf]
  obtain ⟨a, b, c, k, w⟩ := aux
  show Rn d y (tgt pc (Op.lookupswitch.offset ps.toList dd x.toInt), L, r, μ) = _
  have key : ∀ (l : List (Int × Int)) (ts : List (Nat × Nat)), l.map (fun q => (q.1, tgt pc q.2)) = ts.map (fun q => ((q.1 : Int), q.2)) → (∀ q ∈ ts, q.1 < 2 ^ 31) → Rn d y (tgt pc (Op.lookupswitch.offset l dd x.toInt), L, r, μ) = lkI x (ts.map fun q => (q.1, Rn d y (q.2, L, r, μ))) (Rn d y (df, L, r, μ)) := by
    intro l
    induction l with
    | nil =>
      intro ts h _
      cases ts with
      | nil => show Rn d y (tgt pc dd, L, r, μ) = _; rw [h2]; rfl
      | cons t ts => simp at h
    | cons p l ih =>
      intro ts h hb
      cases ts with
      | nil => simp at h
      | cons t ts =>
        simp only [List.map_cons, List.cons.injEq, Prod.mk.injEq] at h
        obtain ⟨⟨e1, e2⟩, h⟩ := h
        obtain ⟨p1, p2⟩ := p
        obtain ⟨t1, t2⟩ := t
        dsimp only at e1 e2
        have ht := hb (t1, t2) List.mem_cons_self
        dsimp only at ht
        rw [Op.lookupswitch.offset_cons]
        show _ = if x = Int32.ofNat t1 then Rn d y (t2, L, r, μ) else lkI x (ts.map fun q => (q.1, Rn d y (q.2, L, r, μ))) (Rn d y (df, L, r, μ))
        by_cases hx : x = Int32.ofNat t1
        · rw [if_pos hx, if_pos (by rw [e1, hx]; exact (nI_toInt ht).symm), e2]
        · rw [if_neg hx, if_neg (fun q => hx (Int32.toInt_inj.mp (by rw [← q, e1]; exact (nI_toInt ht).symm)))]
          exact ih ts h (fun q hq => hb q (List.mem_cons_of_mem _ hq))
  exact key ps.toList ts h1 h3
end EQT
