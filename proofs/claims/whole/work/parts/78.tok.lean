/-! TEXTS READ: words, signs, and what is read out of them. -/
section TOK
variable {P : Nat → Bool} {T : Nat → Int32} {l i : Nat}
def scn (P : Nat → Bool) : Nat → Nat → Nat
  | 0, i => i
  | f + 1, i => if P i = true then scn P f (i + 1) else i
theorem scn_s (P : Nat → Bool) (f i : Nat) : scn P (f + 1) i = if P i = true then scn P f (i + 1) else i := rfl
def scP (P : Nat → Bool) (l i : Nat) : Nat := scn P (l - i) i
theorem scP_end (h : l ≤ i) : scP P l i = i := by
  unfold scP; rw [Nat.sub_eq_zero_of_le h]; rfl
theorem scP_t (h : i < l) (hp : P i = true) : scP P l i = scP P l (i + 1) := by
  unfold scP; rw [show l - i = (l - (i + 1)) + 1 by omega, scn_s, if_pos hp]
theorem scP_f (h : i < l) (hp : ¬ P i = true) : scP P l i = i := by
  unfold scP; rw [show l - i = (l - (i + 1)) + 1 by omega, scn_s, if_neg hp]
theorem scP_in : ∀ r i, i + r = l → i ≤ scP P l i ∧ scP P l i ≤ l ∧ (scP P l i < l → ¬ P (scP P l i) = true) ∧ ∀ j, i ≤ j → j < scP P l i → P j = true := by
  intro r
  induction r with
  | zero =>
    intro i e
    rw [scP_end (by omega)]
    exact ⟨by omega, by omega, fun h => by omega, fun j h1 h2 => by omega⟩
  | succ r ih =>
    intro i e
    by_cases c : P i = true
    · rw [scP_t (by omega) c]
      obtain ⟨h1, h2, h3, h4⟩ := ih (i + 1) (by omega)
      refine ⟨by omega, h2, h3, fun j q1 q2 => ?_⟩
      by_cases ej : j = i
      · rw [ej]; exact c
      · exact h4 j (by omega) q2
    · rw [scP_f (by omega) c]
      exact ⟨by omega, by omega, fun _ => c, fun j h1 h2 => by omega⟩
def blP (T : Nat → Int32) (i : Nat) : Bool := decide (T i = 32)
def leP (T : Nat → Int32) (i : Nat) : Bool := decide (97 ≤ T i ∧ T i ≤ 122)
def diP (T : Nat → Int32) (i : Nat) : Bool := decide (48 ≤ T i ∧ T i ≤ 57)
theorem blP_t : blP T i = true ↔ T i = 32 := decide_eq_true_iff
theorem leP_t : leP T i = true ↔ (97 ≤ T i ∧ T i ≤ 122) := decide_eq_true_iff
theorem diP_t : diP T i = true ↔ (48 ≤ T i ∧ T i ≤ 57) := decide_eq_true_iff
/-- the word or sign that is looked at next, st: where it begins -/
def nxU (T : Nat → Int32) (l : Nat) (wb : Bool) (sp st : Nat) : Nat × Nat × Nat :=
  if l ≤ st then (0, st, st) else if leP T st = true then (if wb = true ∧ st = sp then 4 else 1, st, scP (leP T) l st) else if diP T st = true then (if (wb = true ∧ st = sp) ∨ 4 < scP (diP T) l st - st then 4 else 2, st, scP (diP T) l st) else (3, st, st + 1)
def nxT (T : Nat → Int32) (l : Nat) (wb : Bool) (sp : Nat) : Nat × Nat × Nat := nxU T l wb sp (scP (blP T) l sp)
def TKt (T : Nat → Int32) (l : Nat) (t : Nat × Nat × Nat) : Prop := t.2.1 ≤ t.2.2 ∧ t.2.2 ≤ l ∧ t.1 ≤ 4 ∧ (1 ≤ t.1 ∧ t.1 ≤ 3 → t.2.1 < t.2.2) ∧ (t.1 = 1 → leP T t.2.1 = true) ∧ (t.1 = 2 → t.2.2 - t.2.1 ≤ 4 ∧ ∀ i, t.2.1 ≤ i → i < t.2.2 → diP T i = true)
theorem nxU_w {wb : Bool} {sp st : Nat} (h : st ≤ l) : TKt T l (nxU T l wb sp st) ∧ (nxU T l wb sp st).2.1 = st := by
  unfold nxU
  by_cases c0 : l ≤ st
  · rw [if_pos c0]
    exact ⟨⟨Nat.le_refl _, h, show 0 ≤ 4 by decide, fun q => absurd (show 1 ≤ 0 from q.1) (by decide), fun q => absurd (show (0 : Nat) = 1 from q) (by decide), fun q => absurd (show (0 : Nat) = 2 from q) (by decide)⟩, rfl⟩
  · rw [if_neg c0]
    by_cases c1 : leP T st = true
    · rw [if_pos c1]
      have e := scP_t (P := leP T) (l := l) (by omega) c1
      obtain ⟨h1, h2, -, -⟩ := scP_in (P := leP T) (l := l) (l - (st + 1)) (st + 1) (by omega)
      rw [← e] at h1 h2
      refine ⟨⟨by show st ≤ scP (leP T) l st; omega, h2, by show (if _ then 4 else 1) ≤ 4; split <;> decide, fun _ => by show st < scP (leP T) l st; omega, fun _ => c1, fun q => ?_⟩, rfl⟩
      have q' : (if wb = true ∧ st = sp then 4 else 1) = 2 := q
      split at q' <;> exact absurd q' (by decide)
    · rw [if_neg c1]
      by_cases c2 : diP T st = true
      · rw [if_pos c2]
        have e := scP_t (P := diP T) (l := l) (by omega) c2
        obtain ⟨h1, h2, -, -⟩ := scP_in (P := diP T) (l := l) (l - (st + 1)) (st + 1) (by omega)
        obtain ⟨-, -, -, h4⟩ := scP_in (P := diP T) (l := l) (l - st) st (by omega)
        rw [← e] at h1 h2
        refine ⟨⟨by show st ≤ scP (diP T) l st; omega, h2, by show (if _ then 4 else 2) ≤ 4; split <;> decide, fun _ => by show st < scP (diP T) l st; omega, fun q => ?_, fun q => ?_⟩, rfl⟩
        · have q' : (if (wb = true ∧ st = sp) ∨ 4 < scP (diP T) l st - st then 4 else 2) = 1 := q
          split at q' <;> exact absurd q' (by decide)
        · have q' : (if (wb = true ∧ st = sp) ∨ 4 < scP (diP T) l st - st then 4 else 2) = 2 := q
          by_cases c3 : (wb = true ∧ st = sp) ∨ 4 < scP (diP T) l st - st
          · rw [if_pos c3] at q'; exact absurd q' (by decide)
          · exact ⟨by show scP (diP T) l st - st ≤ 4; omega, h4⟩
      · rw [if_neg c2]
        exact ⟨⟨by show st ≤ st + 1; omega, by show st + 1 ≤ l; omega, show 3 ≤ 4 by decide, fun _ => by show st < st + 1; omega, fun q => absurd (show (3 : Nat) = 1 from q) (by decide), fun q => absurd (show (3 : Nat) = 2 from q) (by decide)⟩, rfl⟩
theorem nxT_w {wb : Bool} {sp : Nat} (h : sp ≤ l) : TKt T l (nxT T l wb sp) ∧ sp ≤ (nxT T l wb sp).2.1 := by
  obtain ⟨h1, h2, -, -⟩ := scP_in (P := blP T) (l := l) (l - sp) sp (by omega)
  obtain ⟨w1, w2⟩ := nxU_w (T := T) (wb := wb) (sp := sp) h2
  unfold nxT
  exact ⟨w1, by rw [w2]; exact h1⟩
def nuV (T : Nat → Int32) (st : Nat) : Nat → Int32
  | 0 => 0
  | n + 1 => 10 * nuV T st n + T (st + n) - 48
theorem nuV_s (T : Nat → Int32) (st n : Nat) : nuV T st (n + 1) = 10 * nuV T st n + T (st + n) - 48 := rfl
theorem nuV_n {st : Nat} : ∀ n, n ≤ 4 → (∀ j, j < n → diP T (st + j) = true) → ∃ v, nuV T st n = nI v ∧ v < 10 ^ n
  | 0, _, _ => ⟨0, rfl, by decide⟩
  | n + 1, h4, h => by
    obtain ⟨v, e, hv⟩ := nuV_n n (by omega) (fun j hj => h j (by omega))
    obtain ⟨k, k1, k2, ek⟩ := in_n (lo := 48) (hi := 57) (by decide) (diP_t.mp (h n (by omega)))
    refine ⟨10 * v + (k - 48), ?_, ?_⟩
    · rw [nuV_s, e, ek, show (10 : Int32) = nI 10 from rfl, pk_mul, nI_add, show (48 : Int32) = nI 48 from rfl, pk_sub (by omega)]
      congr 1; omega
    · rw [Nat.pow_succ]; omega
abbrev PSt : Type := (Nat × Nat × Nat) × (Nat × Nat) × (Nat → Int32 × Int32)
def wbK (k : Nat) : Bool := decide (k = 1 ∨ k = 2)
def nxS (T : Nat → Int32) (l : Nat) (S : PSt) : PSt := (nxT T l (wbK S.1.1) S.1.2.2, S.2)
def putS (w v : Int32) (S : PSt) : PSt := (S.1, (S.2.1.1, S.2.1.2 + 1), up1 S.2.2 S.2.1.2 (w, v))
def opdS (T : Nat → Int32) (l : Nat) (w v : Int32) (S : PSt) : PSt := nxS T l (S.1, (S.2.1.1 + 1, S.2.1.2 + 1), up1 S.2.2 S.2.1.2 (w, v))
def sgS (T : Nat → Int32) (b : Int32) (S : PSt) : Prop := S.1.1 = 3 ∧ T S.1.2.1 = b
/-- the signs of a level -/
abbrev sgL (lv : Nat) (b : Int32) : Prop := (lv = 0 ∧ b = 124) ∨ (lv = 1 ∧ b = 38) ∨ (lv = 2 ∧ (b = 60 ∨ b = 61 ∨ b = 62)) ∨ (lv = 3 ∧ (b = 43 ∨ b = 45)) ∨ (lv = 4 ∧ (b = 42 ∨ b = 47))
theorem sgL_s {lv : Nat} {b : Int32} (h : sgL lv b) : sgn b := by
  rcases h with ⟨-, h⟩ | ⟨-, h⟩ | ⟨-, h⟩ | ⟨-, h⟩ | ⟨-, h⟩
  · exact Or.inl h
  · exact Or.inr (Or.inl h)
  · rcases h with h | h | h
    · exact Or.inr (Or.inr (Or.inl h))
    · exact Or.inr (Or.inr (Or.inr (Or.inl h)))
    · exact Or.inr (Or.inr (Or.inr (Or.inr (Or.inl h))))
  · rcases h with h | h
    · exact Or.inr (Or.inr (Or.inr (Or.inr (Or.inr (Or.inl h)))))
    · exact Or.inr (Or.inr (Or.inr (Or.inr (Or.inr (Or.inr (Or.inl h))))))
  · rcases h with h | h
    · exact Or.inr (Or.inr (Or.inr (Or.inr (Or.inr (Or.inr (Or.inr (Or.inl h)))))))
    · exact Or.inr (Or.inr (Or.inr (Or.inr (Or.inr (Or.inr (Or.inr (Or.inr h)))))))
theorem sgn_33 {b : Int32} (h : sgn b) : ¬ b = 33 := fun e => by rw [e] at h; exact absurd h (by decide)
abbrev PQ : Type := PSt → Bool × PSt
def lpP (T : Nat → Int32) (l lv : Nat) (q : PQ) : Nat → PQ
  | 0, S => (true, S)
  | f + 1, S => if S.1.1 = 3 ∧ sgL lv (T S.1.2.1) then (if (q (nxS T l S)).1 = true then lpP T l lv q f (putS 2 (T S.1.2.1) (q (nxS T l S)).2) else q (nxS T l S)) else (true, S)
theorem lpP_s (T : Nat → Int32) (l lv : Nat) (q : PQ) (f : Nat) (S : PSt) : lpP T l lv q (f + 1) S = if S.1.1 = 3 ∧ sgL lv (T S.1.2.1) then (if (q (nxS T l S)).1 = true then lpP T l lv q f (putS 2 (T S.1.2.1) (q (nxS T l S)).2) else q (nxS T l S)) else (true, S) := rfl
theorem lpP_0 (T : Nat → Int32) (l lv : Nat) (q : PQ) (S : PSt) : lpP T l lv q 0 S = (true, S) := rfl
def fuL (lv : Nat) : Nat := if lv = 2 then 1 else 96
def lvP (T : Nat → Int32) (l lv : Nat) (q : PQ) (S : PSt) : Bool × PSt := if (q S).1 = true then lpP T l lv q (fuL lv) (q S).2 else q S
/-- the levels from 5 - n on -/
def lvN (T : Nat → Int32) (l : Nat) (q : PQ) : Nat → PQ
  | 0 => q
  | n + 1 => lvP T l (4 - n) (lvN T l q n)
theorem lvN_s (T : Nat → Int32) (l : Nat) (q : PQ) (n : Nat) : lvN T l q (n + 1) = lvP T l (4 - n) (lvN T l q n) := rfl
theorem lvN_0 (T : Nat → Int32) (l : Nat) (q : PQ) : lvN T l q 0 = q := rfl
/-- one piece that is a number or a name -/
abbrev atS (T : Nat → Int32) (key : Int32) (S : PSt) : Prop := S.1.1 = 2 ∨ (S.1.1 = 1 ∧ S.1.2.2 - S.1.2.1 = 1 ∧ isNm key (T S.1.2.1))
def atP (T : Nat → Int32) (l : Nat) (S : PSt) : PSt := if S.1.1 = 2 then opdS T l 0 (nuV T S.1.2.1 (S.1.2.2 - S.1.2.1)) S else opdS T l 1 (T S.1.2.1) S
def notR (r : Bool × PSt) : Bool × PSt := if r.1 = true then (true, putS 2 33 r.2) else r
def parR (T : Nat → Int32) (l : Nat) (r : Bool × PSt) : Bool × PSt := if r.1 = true then (if r.2.1.1 = 3 ∧ T r.2.1.2.1 = 41 then (true, nxS T l r.2) else (false, r.2)) else r
def pcP (T : Nat → Int32) (l : Nat) (key : Int32) : Nat → Nat → Nat → PQ
  | 0, _, _, S => if atS T key S then (true, atP T l S) else (false, S)
  | g + 1, pa, no, S => if atS T key S then (true, atP T l S) else if (S.1.1 = 3 ∧ T S.1.2.1 = 33) ∧ no < 8 then notR (pcP T l key g pa (no + 1) (nxS T l S)) else if (S.1.1 = 3 ∧ T S.1.2.1 = 40) ∧ pa < 8 then parR T l (lvN T l (pcP T l key g (pa + 1) no) 5 (nxS T l S)) else (false, S)
theorem pcP_0 (T : Nat → Int32) (l : Nat) (key : Int32) (pa no : Nat) (S : PSt) : pcP T l key 0 pa no S = if atS T key S then (true, atP T l S) else (false, S) := rfl
theorem pcP_s (T : Nat → Int32) (l : Nat) (key : Int32) (g pa no : Nat) (S : PSt) : pcP T l key (g + 1) pa no S = if atS T key S then (true, atP T l S) else if (S.1.1 = 3 ∧ T S.1.2.1 = 33) ∧ no < 8 then notR (pcP T l key g pa (no + 1) (nxS T l S)) else if (S.1.1 = 3 ∧ T S.1.2.1 = 40) ∧ pa < 8 then parR T l (lvN T l (pcP T l key g (pa + 1) no) 5 (nxS T l S)) else (false, S) := rfl
/-- both at once: with 8 and 8 open nothing more may be opened -/
theorem pcP_e (T : Nat → Int32) (l : Nat) (key : Int32) {g pa no : Nat} (e : pa + no + g = 16) (h1 : pa ≤ 8) (h2 : no ≤ 8) (S : PSt) : pcP T l key g pa no S = if atS T key S then (true, atP T l S) else if (S.1.1 = 3 ∧ T S.1.2.1 = 33) ∧ no < 8 then notR (pcP T l key (g - 1) pa (no + 1) (nxS T l S)) else if (S.1.1 = 3 ∧ T S.1.2.1 = 40) ∧ pa < 8 then parR T l (lvN T l (pcP T l key (g - 1) (pa + 1) no) 5 (nxS T l S)) else (false, S) := by
  match g with
  | 0 =>
    rw [pcP_0, if_neg (show ¬ ((S.1.1 = 3 ∧ T S.1.2.1 = 33) ∧ no < 8) from fun q => by omega), if_neg (show ¬ ((S.1.1 = 3 ∧ T S.1.2.1 = 40) ∧ pa < 8) from fun q => by omega)]
  | g + 1 => exact pcP_s T l key g pa no S
end TOK
